/-! the methods as functions: laid by program (wip/whole/dec.py) -/
def xk1 : Int32 := -1
/- AccessDeskModel.condition -/
def g200_162 (x1 : Int32) (x2 : Int32) (x3 : Int32) (σ : xS) : Option ((Int32 × Int32 × Int32 × xS) ⊕ xQ) := some (Sum.inl (x1, x2, (x3 + 1), σ))
def g200_98 (x1 : Int32) (x2 : Int32) (x3 : Int32) (k1 : Int32) (k2 : Int32) (σ : xS) : Option ((Int32 × Int32 × Int32 × xS) ⊕ xQ) := (bif xn k1 300 then g200_162 x1 x2 x3 (xh_ui σ 90 (Int32.toNatClampNeg k1) k2) else none)
def g200_43 (x1 : Int32) (x2 : Int32) (x3 : Int32) (x4 : Int32) (σ : xS) : Option ((Int32 × Int32 × Int32 × xS) ⊕ xQ) := (if x4 = 1001 then (bif xn ((x2 + xk1) - 1) 300 then (bif xn (x2 + xk1) 300 then (match g195 (σ 90 (Int32.toNatClampNeg ((x2 + xk1) - 1))) (σ 90 (Int32.toNatClampNeg (x2 + xk1))) σ with | some (Sum.inl v10, s11) => g200_98 x1 (x2 + xk1) x3 ((x2 + xk1) - 1) v10 s11 | some (Sum.inr v10, s11) => none | none => none) else none) else none) else (bif xn ((x2 + xk1) - 1) 300 then (bif xn (x2 + xk1) 300 then (match g194 (σ 90 (Int32.toNatClampNeg ((x2 + xk1) - 1))) (σ 90 (Int32.toNatClampNeg (x2 + xk1))) σ with | some (Sum.inl v16, s17) => g200_98 x1 (x2 + xk1) x3 ((x2 + xk1) - 1) v16 s17 | some (Sum.inr v16, s17) => none | none => none) else none) else none))
def g200_143 (x1 : Int32) (x2 : Int32) (x3 : Int32) (k1 : Int32) (k2 : Int32) (σ : xS) : Option ((Int32 × Int32 × Int32 × xS) ⊕ xQ) := (bif xn k1 300 then g200_162 x1 x2 x3 (xh_ui σ 90 (Int32.toNatClampNeg k1) k2) else none)
def g200_9b (x1 : Int32) (x2 : Int32) (x3 : Int32) (σ : xS) : Option ((Int32 × Int32 × Int32 × xS) ⊕ xQ) := (bif xn x1 80 then (if (σ 76 (Int32.toNatClampNeg x1)) ≤ x3 then (if x2 = 0 then some (Sum.inr ((Sum.inl 1, σ))) else some (Sum.inr ((Sum.inl (σ 90 0), σ)))) else (bif xn x3 600 then (if (σ 84 (Int32.toNatClampNeg x3)) = 1001 then g200_43 x1 x2 x3 (σ 84 (Int32.toNatClampNeg x3)) σ else (if (σ 84 (Int32.toNatClampNeg x3)) = 1002 then g200_43 x1 x2 x3 (σ 84 (Int32.toNatClampNeg x3)) σ else (if (σ 84 (Int32.toNatClampNeg x3)) = 1000 then (bif xn (x2 - 1) 300 then (if (σ 90 (Int32.toNatClampNeg (x2 - 1))) = 2 then g200_143 x1 x2 x3 (x2 - 1) 2 σ else g200_143 x1 x2 x3 (x2 - 1) (1 - (σ 90 (Int32.toNatClampNeg (x2 - 1)))) σ) else none) else (match g196 (σ 84 (Int32.toNatClampNeg x3)) σ with | some (Sum.inl v24, s25) => (bif xn x2 300 then g200_162 x1 (x2 + 1) x3 (xh_ui s25 90 (Int32.toNatClampNeg x2) v24) else none) | some (Sum.inr v24, s25) => none | none => none)))) else none)) else none)
def g200_9 (x1 : Int32) (x2 : Int32) (x3 : Int32) (σ : xS) : Option xQ := xlo (fun a : Int32 × Int32 × Int32 × xS => g200_9b a.1 a.2.1 a.2.2.1 a.2.2.2) 1000 (x1, x2, x3, σ)
def g200 (a1 : Int32) (σ : xS) : xO := (bif xn a1 80 then g200_9 a1 0 (σ 75 (Int32.toNatClampNeg a1)) σ else none)
def a200_9 (l : Launch) (Ω : xo_O) (d p : Nat) (τ : Nat → Nat → Int64) (r : xv_R) : Int32 × Int32 × Int32 × xS → Prop := fun a => xv l Ω (d + 2) 0 0 200 9 [some (.ref 53), some (.int a.1), some (.int a.2.1), some (.int a.2.2.1), none] [] (hM p a.2.2.2 τ) r
set_option maxRecDepth 8000 in
theorem g200_162_ok {l : Launch} {Ω : xo_O} (htr : xH l) (d : Nat) (p : Nat) (τ : Nat → Nat → Int64) (x1 : Int32) (x2 : Int32) (x3 : Int32) (σ : xS) (r : xv_R) (H : xo (xd (a200_9 l Ω d p τ r) (xB false p τ r)) (g200_162 x1 x2 x3 σ)) : xv l Ω (d + 2) 0 0 200 162 [some (.ref 53), some (.int x1), some (.int x2), some (.int x3), none] [] (hM p σ τ) r := by
  unfold g200_162 at H
  refine xp_ok htr 2 (d + 2) 0 0 [] 200 162 [some (.ref 53), some (.int x1), some (.int x2), some (.int x3), none] [] (hM p σ τ) ?_
  show xv l Ω (d + 2) 0 0 200 9 [some (.ref 53), some (.int x1), some (.int x2), some (.int (x3 + 1)), none] [] (hM p σ τ) r
  exact xv_sub (L' := [some (.ref 53), some (.int x1), some (.int x2), some (.int (x3 + 1)), none]) ⟨rfl, ⟨rfl, ⟨rfl, ⟨rfl, trivial⟩⟩⟩⟩ H
set_option maxRecDepth 8000 in
theorem g200_98_ok {l : Launch} {Ω : xo_O} (htr : xH l) (d : Nat) (p : Nat) (τ : Nat → Nat → Int64) (x1 : Int32) (x2 : Int32) (x3 : Int32) (k1 : Int32) (k2 : Int32) (σ : xS) (r : xv_R) (H : xo (xd (a200_9 l Ω d p τ r) (xB false p τ r)) (g200_98 x1 x2 x3 k1 k2 σ)) : xv l Ω (d + 2) 0 0 200 98 [some (.ref 53), some (.int x1), some (.int x2), some (.int x3), none] [.int k2, .int k1, .ref 90] (hM p σ τ) r := by
  unfold g200_98 at H
  cases g13 : xn k1 300 with
  | false => rw [g13, cond_false] at H; exact False.elim H
  | true =>
    rw [g13, cond_true] at H
    refine xp_ok htr 2 (d + 2) 0 0 [] 200 98 [some (.ref 53), some (.int x1), some (.int x2), some (.int x3), none] [.int k2, .int k1, .ref 90] (hM p σ τ) ⟨(xn_in g13), ?_⟩
    show xv l Ω (d + 2) 0 0 200 162 [some (.ref 53), some (.int x1), some (.int x2), some (.int x3), none] [] (hM p (xh_ui σ 90 (Int32.toNatClampNeg k1) k2) τ) r
    have h9 := g200_162_ok (Ω := Ω) htr d p τ _ _ _ _ r H
    exact xv_sub (L' := [some (.ref 53), some (.int x1), some (.int x2), some (.int x3), none]) ⟨rfl, ⟨rfl, ⟨rfl, ⟨rfl, trivial⟩⟩⟩⟩ h9
set_option maxRecDepth 8000 in
theorem g200_43_ok {l : Launch} {Ω : xo_O} (htr : xH l) (d : Nat) (p : Nat) (τ : Nat → Nat → Int64) (x1 : Int32) (x2 : Int32) (x3 : Int32) (x4 : Int32) (σ : xS) (r : xv_R) (H : xo (xd (a200_9 l Ω d p τ r) (xB false p τ r)) (g200_43 x1 x2 x3 x4 σ)) : xv l Ω (d + 2) 0 0 200 43 [some (.ref 53), some (.int x1), some (.int x2), some (.int x3), some (.int x4)] [] (hM p σ τ) r := by
  unfold g200_43 at H
  refine xp_ok htr 8 (d + 2) 0 0 [] 200 43 [some (.ref 53), some (.int x1), some (.int x2), some (.int x3), some (.int x4)] [] (hM p σ τ) ?_
  show xv l Ω (d + 2) 0 0 200 58 [some (.ref 53), some (.int x1), some (.int (x2 + xk1)), some (.int x3), some (.int x4)] [.int 1001, .int x4, .int ((x2 + xk1) - 1), .ref 90] (hM p σ τ) r
  by_cases h7 : x4 = 1001
  · rw [if_pos h7] at H
    refine xp_ok htr 1 (d + 2) 0 0 [eB false] 200 58 [some (.ref 53), some (.int x1), some (.int (x2 + xk1)), some (.int x3), some (.int x4)] [.int 1001, .int x4, .int ((x2 + xk1) - 1), .ref 90] (hM p σ τ) ⟨h7, ?_⟩
    show xv l Ω (d + 2) 0 0 200 61 [some (.ref 53), some (.int x1), some (.int (x2 + xk1)), some (.int x3), some (.int x4)] [.int ((x2 + xk1) - 1), .ref 90] (hM p σ τ) r
    cases g8 : xn ((x2 + xk1) - 1) 300 with
    | false => rw [g8, cond_false] at H; exact False.elim H
    | true =>
      rw [g8, cond_true] at H
      refine xp_ok htr 8 (d + 2) 0 0 [] 200 61 [some (.ref 53), some (.int x1), some (.int (x2 + xk1)), some (.int x3), some (.int x4)] [.int ((x2 + xk1) - 1), .ref 90] (hM p σ τ) ⟨(xn_in g8), ?_⟩
      show xv l Ω (d + 2) 0 0 200 73 [some (.ref 53), some (.int x1), some (.int (x2 + xk1)), some (.int x3), some (.int x4)] [.ref 90, .int (σ 90 (Int32.toNatClampNeg ((x2 + xk1) - 1))), .int ((x2 + xk1) - 1), .ref 90] (hM p σ τ) r
      cases g9 : xn (x2 + xk1) 300 with
      | false => rw [g9, cond_false] at H; exact False.elim H
      | true =>
        rw [g9, cond_true] at H
        cases q12 : g195 (σ 90 (Int32.toNatClampNeg ((x2 + xk1) - 1))) (σ 90 (Int32.toNatClampNeg (x2 + xk1))) σ with
        | none => rw [q12] at H; exact False.elim H
        | some q120 =>
          obtain ⟨v10 | v10, s11⟩ := q120
          · rw [q12] at H; dsimp only at H
            have hc := g195_run (Ω := Ω) htr (d + 1) p τ (σ 90 (Int32.toNatClampNeg ((x2 + xk1) - 1))) (σ 90 (Int32.toNatClampNeg (x2 + xk1))) σ q12
            refine xp_ok htr 3 (d + 2) 0 0 [eC (some (.int v10)) (hM p s11 τ)] 200 73 [some (.ref 53), some (.int x1), some (.int (x2 + xk1)), some (.int x3), some (.int x4)] [.ref 90, .int (σ 90 (Int32.toNatClampNeg ((x2 + xk1) - 1))), .int ((x2 + xk1) - 1), .ref 90] (hM p σ τ) ⟨(xn_in g9), hc, ?_⟩
            show xv l Ω (d + 2) 0 0 200 78 [some (.ref 53), some (.int x1), some (.int (x2 + xk1)), some (.int x3), some (.int x4)] [.int v10, .int ((x2 + xk1) - 1), .ref 90] (hM p s11 τ) r
            refine xp_ok htr 1 (d + 2) 0 0 [] 200 78 [some (.ref 53), some (.int x1), some (.int (x2 + xk1)), some (.int x3), some (.int x4)] [.int v10, .int ((x2 + xk1) - 1), .ref 90] (hM p s11 τ) ?_
            show xv l Ω (d + 2) 0 0 200 98 [some (.ref 53), some (.int x1), some (.int (x2 + xk1)), some (.int x3), some (.int x4)] [.int v10, .int ((x2 + xk1) - 1), .ref 90] (hM p s11 τ) r
            revert H
            generalize ((x2 + xk1) - 1) = kk0
            intro H
            have h9 := g200_98_ok (Ω := Ω) htr d p τ _ _ _ _ _ _ r H
            exact xv_sub (L' := [some (.ref 53), some (.int x1), some (.int (x2 + xk1)), some (.int x3), none]) ⟨rfl, ⟨rfl, ⟨rfl, ⟨rfl, trivial⟩⟩⟩⟩ h9
          · rw [q12] at H; exact False.elim H
  · rw [if_neg h7] at H
    refine xp_ok htr 1 (d + 2) 0 0 [eB true] 200 58 [some (.ref 53), some (.int x1), some (.int (x2 + xk1)), some (.int x3), some (.int x4)] [.int 1001, .int x4, .int ((x2 + xk1) - 1), .ref 90] (hM p σ τ) ⟨h7, ?_⟩
    show xv l Ω (d + 2) 0 0 200 81 [some (.ref 53), some (.int x1), some (.int (x2 + xk1)), some (.int x3), some (.int x4)] [.int ((x2 + xk1) - 1), .ref 90] (hM p σ τ) r
    cases g14 : xn ((x2 + xk1) - 1) 300 with
    | false => rw [g14, cond_false] at H; exact False.elim H
    | true =>
      rw [g14, cond_true] at H
      refine xp_ok htr 8 (d + 2) 0 0 [] 200 81 [some (.ref 53), some (.int x1), some (.int (x2 + xk1)), some (.int x3), some (.int x4)] [.int ((x2 + xk1) - 1), .ref 90] (hM p σ τ) ⟨(xn_in g14), ?_⟩
      show xv l Ω (d + 2) 0 0 200 93 [some (.ref 53), some (.int x1), some (.int (x2 + xk1)), some (.int x3), some (.int x4)] [.ref 90, .int (σ 90 (Int32.toNatClampNeg ((x2 + xk1) - 1))), .int ((x2 + xk1) - 1), .ref 90] (hM p σ τ) r
      cases g15 : xn (x2 + xk1) 300 with
      | false => rw [g15, cond_false] at H; exact False.elim H
      | true =>
        rw [g15, cond_true] at H
        cases q18 : g194 (σ 90 (Int32.toNatClampNeg ((x2 + xk1) - 1))) (σ 90 (Int32.toNatClampNeg (x2 + xk1))) σ with
        | none => rw [q18] at H; exact False.elim H
        | some q180 =>
          obtain ⟨v16 | v16, s17⟩ := q180
          · rw [q18] at H; dsimp only at H
            have hc := g194_run (Ω := Ω) htr (d + 1) p τ (σ 90 (Int32.toNatClampNeg ((x2 + xk1) - 1))) (σ 90 (Int32.toNatClampNeg (x2 + xk1))) σ q18
            refine xp_ok htr 3 (d + 2) 0 0 [eC (some (.int v16)) (hM p s17 τ)] 200 93 [some (.ref 53), some (.int x1), some (.int (x2 + xk1)), some (.int x3), some (.int x4)] [.ref 90, .int (σ 90 (Int32.toNatClampNeg ((x2 + xk1) - 1))), .int ((x2 + xk1) - 1), .ref 90] (hM p σ τ) ⟨(xn_in g15), hc, ?_⟩
            show xv l Ω (d + 2) 0 0 200 98 [some (.ref 53), some (.int x1), some (.int (x2 + xk1)), some (.int x3), some (.int x4)] [.int v16, .int ((x2 + xk1) - 1), .ref 90] (hM p s17 τ) r
            revert H
            generalize ((x2 + xk1) - 1) = kk0
            intro H
            have h9 := g200_98_ok (Ω := Ω) htr d p τ _ _ _ _ _ _ r H
            exact xv_sub (L' := [some (.ref 53), some (.int x1), some (.int (x2 + xk1)), some (.int x3), none]) ⟨rfl, ⟨rfl, ⟨rfl, ⟨rfl, trivial⟩⟩⟩⟩ h9
          · rw [q18] at H; exact False.elim H
set_option maxRecDepth 8000 in
theorem g200_143_ok {l : Launch} {Ω : xo_O} (htr : xH l) (d : Nat) (p : Nat) (τ : Nat → Nat → Int64) (x1 : Int32) (x2 : Int32) (x3 : Int32) (k1 : Int32) (k2 : Int32) (σ : xS) (r : xv_R) (H : xo (xd (a200_9 l Ω d p τ r) (xB false p τ r)) (g200_143 x1 x2 x3 k1 k2 σ)) : xv l Ω (d + 2) 0 0 200 143 [some (.ref 53), some (.int x1), some (.int x2), some (.int x3), none] [.int k2, .int k1, .ref 90] (hM p σ τ) r := by
  unfold g200_143 at H
  cases g23 : xn k1 300 with
  | false => rw [g23, cond_false] at H; exact False.elim H
  | true =>
    rw [g23, cond_true] at H
    refine xp_ok htr 2 (d + 2) 0 0 [] 200 143 [some (.ref 53), some (.int x1), some (.int x2), some (.int x3), none] [.int k2, .int k1, .ref 90] (hM p σ τ) ⟨(xn_in g23), ?_⟩
    show xv l Ω (d + 2) 0 0 200 162 [some (.ref 53), some (.int x1), some (.int x2), some (.int x3), none] [] (hM p (xh_ui σ 90 (Int32.toNatClampNeg k1) k2) τ) r
    have h9 := g200_162_ok (Ω := Ω) htr d p τ _ _ _ _ r H
    exact xv_sub (L' := [some (.ref 53), some (.int x1), some (.int x2), some (.int x3), none]) ⟨rfl, ⟨rfl, ⟨rfl, ⟨rfl, trivial⟩⟩⟩⟩ h9
set_option maxRecDepth 8000 in
theorem g200_9b_ok {l : Launch} {Ω : xo_O} (htr : xH l) (d : Nat) (p : Nat) (τ : Nat → Nat → Int64) (x1 : Int32) (x2 : Int32) (x3 : Int32) (σ : xS) (r : xv_R) (H : xo (xd (a200_9 l Ω d p τ r) (xB false p τ r)) (g200_9b x1 x2 x3 σ)) : xv l Ω (d + 2) 0 0 200 9 [some (.ref 53), some (.int x1), some (.int x2), some (.int x3), none] [] (hM p σ τ) r := by
  unfold g200_9b at H
  cases g2 : xn x1 80 with
  | false => rw [g2, cond_false] at H; exact False.elim H
  | true =>
    rw [g2, cond_true] at H
    by_cases h3 : (σ 76 (Int32.toNatClampNeg x1)) ≤ x3
    · rw [if_pos h3] at H
      refine xp_ok htr 6 (d + 2) 0 0 [eB true] 200 9 [some (.ref 53), some (.int x1), some (.int x2), some (.int x3), none] [] (hM p σ τ) ⟨(xn_in g2), h3, ?_⟩
      show xv l Ω (d + 2) 0 0 200 168 [some (.ref 53), some (.int x1), some (.int x2), some (.int x3), none] [] (hM p σ τ) r
      by_cases h4 : x2 = 0
      · rw [if_pos h4] at H
        refine xp_ok htr 2 (d + 2) 0 0 [eB false] 200 168 [some (.ref 53), some (.int x1), some (.int x2), some (.int x3), none] [] (hM p σ τ) ⟨h4, ?_⟩
        show xv l Ω (d + 2) 0 0 200 172 [some (.ref 53), some (.int x1), some (.int x2), some (.int x3), none] [] (hM p σ τ) r
        exact xp_ok htr 3 (d + 2) 0 0 [] 200 172 [some (.ref 53), some (.int x1), some (.int x2), some (.int x3), none] [] (hM p σ τ) ⟨trivial, (Eq.symm H)⟩
      · rw [if_neg h4] at H
        refine xp_ok htr 2 (d + 2) 0 0 [eB true] 200 168 [some (.ref 53), some (.int x1), some (.int x2), some (.int x3), none] [] (hM p σ τ) ⟨h4, ?_⟩
        show xv l Ω (d + 2) 0 0 200 176 [some (.ref 53), some (.int x1), some (.int x2), some (.int x3), none] [] (hM p σ τ) r
        exact xp_ok htr 5 (d + 2) 0 0 [] 200 176 [some (.ref 53), some (.int x1), some (.int x2), some (.int x3), none] [] (hM p σ τ) ⟨(by unfold vp_in; decide), trivial, (Eq.symm H)⟩
    · rw [if_neg h3] at H
      refine xp_ok htr 6 (d + 2) 0 0 [eB false] 200 9 [some (.ref 53), some (.int x1), some (.int x2), some (.int x3), none] [] (hM p σ τ) ⟨(xn_in g2), h3, ?_⟩
      show xv l Ω (d + 2) 0 0 200 19 [some (.ref 53), some (.int x1), some (.int x2), some (.int x3), none] [] (hM p σ τ) r
      cases g5 : xn x3 600 with
      | false => rw [g5, cond_false] at H; exact False.elim H
      | true =>
        rw [g5, cond_true] at H
        by_cases h6 : (σ 84 (Int32.toNatClampNeg x3)) = 1001
        · rw [if_pos h6] at H
          refine xp_ok htr 8 (d + 2) 0 0 [eB true] 200 19 [some (.ref 53), some (.int x1), some (.int x2), some (.int x3), none] [] (hM p σ τ) ⟨(xn_in g5), h6, ?_⟩
          show xv l Ω (d + 2) 0 0 200 43 [some (.ref 53), some (.int x1), some (.int x2), some (.int x3), some (.int (σ 84 (Int32.toNatClampNeg x3)))] [] (hM p σ τ) r
          have h9 := g200_43_ok (Ω := Ω) htr d p τ _ _ _ _ _ r H
          exact xv_sub (L' := [some (.ref 53), some (.int x1), some (.int x2), some (.int x3), some (.int (σ 84 (Int32.toNatClampNeg x3)))]) ⟨rfl, ⟨rfl, ⟨rfl, ⟨rfl, ⟨rfl, trivial⟩⟩⟩⟩⟩ h9
        · rw [if_neg h6] at H
          refine xp_ok htr 8 (d + 2) 0 0 [eB false] 200 19 [some (.ref 53), some (.int x1), some (.int x2), some (.int x3), none] [] (hM p σ τ) ⟨(xn_in g5), h6, ?_⟩
          show xv l Ω (d + 2) 0 0 200 35 [some (.ref 53), some (.int x1), some (.int x2), some (.int x3), some (.int (σ 84 (Int32.toNatClampNeg x3)))] [] (hM p σ τ) r
          by_cases h19 : (σ 84 (Int32.toNatClampNeg x3)) = 1002
          · rw [if_pos h19] at H
            refine xp_ok htr 3 (d + 2) 0 0 [eB false] 200 35 [some (.ref 53), some (.int x1), some (.int x2), some (.int x3), some (.int (σ 84 (Int32.toNatClampNeg x3)))] [] (hM p σ τ) ⟨h19, ?_⟩
            show xv l Ω (d + 2) 0 0 200 43 [some (.ref 53), some (.int x1), some (.int x2), some (.int x3), some (.int (σ 84 (Int32.toNatClampNeg x3)))] [] (hM p σ τ) r
            have h9 := g200_43_ok (Ω := Ω) htr d p τ _ _ _ _ _ r H
            exact xv_sub (L' := [some (.ref 53), some (.int x1), some (.int x2), some (.int x3), some (.int (σ 84 (Int32.toNatClampNeg x3)))]) ⟨rfl, ⟨rfl, ⟨rfl, ⟨rfl, ⟨rfl, trivial⟩⟩⟩⟩⟩ h9
          · rw [if_neg h19] at H
            refine xp_ok htr 3 (d + 2) 0 0 [eB true] 200 35 [some (.ref 53), some (.int x1), some (.int x2), some (.int x3), some (.int (σ 84 (Int32.toNatClampNeg x3)))] [] (hM p σ τ) ⟨h19, ?_⟩
            show xv l Ω (d + 2) 0 0 200 102 [some (.ref 53), some (.int x1), some (.int x2), some (.int x3), some (.int (σ 84 (Int32.toNatClampNeg x3)))] [] (hM p σ τ) r
            by_cases h20 : (σ 84 (Int32.toNatClampNeg x3)) = 1000
            · rw [if_pos h20] at H
              refine xp_ok htr 3 (d + 2) 0 0 [eB false] 200 102 [some (.ref 53), some (.int x1), some (.int x2), some (.int x3), some (.int (σ 84 (Int32.toNatClampNeg x3)))] [] (hM p σ τ) ⟨h20, ?_⟩
              show xv l Ω (d + 2) 0 0 200 110 [some (.ref 53), some (.int x1), some (.int x2), some (.int x3), some (.int (σ 84 (Int32.toNatClampNeg x3)))] [] (hM p σ τ) r
              refine xp_ok htr 8 (d + 2) 0 0 [] 200 110 [some (.ref 53), some (.int x1), some (.int x2), some (.int x3), some (.int (σ 84 (Int32.toNatClampNeg x3)))] [] (hM p σ τ) ?_
              show xv l Ω (d + 2) 0 0 200 122 [some (.ref 53), some (.int x1), some (.int x2), some (.int x3), some (.int (σ 84 (Int32.toNatClampNeg x3)))] [.int x2, .ref 90, .int (x2 - 1), .ref 90] (hM p σ τ) r
              cases g21 : xn (x2 - 1) 300 with
              | false => rw [g21, cond_false] at H; exact False.elim H
              | true =>
                rw [g21, cond_true] at H
                by_cases h22 : (σ 90 (Int32.toNatClampNeg (x2 - 1))) = 2
                · rw [if_pos h22] at H
                  refine xp_ok htr 5 (d + 2) 0 0 [eB false] 200 122 [some (.ref 53), some (.int x1), some (.int x2), some (.int x3), some (.int (σ 84 (Int32.toNatClampNeg x3)))] [.int x2, .ref 90, .int (x2 - 1), .ref 90] (hM p σ τ) ⟨(xn_in g21), h22, ?_⟩
                  show xv l Ω (d + 2) 0 0 200 129 [some (.ref 53), some (.int x1), some (.int x2), some (.int x3), some (.int (σ 84 (Int32.toNatClampNeg x3)))] [.int (x2 - 1), .ref 90] (hM p σ τ) r
                  refine xp_ok htr 2 (d + 2) 0 0 [] 200 129 [some (.ref 53), some (.int x1), some (.int x2), some (.int x3), some (.int (σ 84 (Int32.toNatClampNeg x3)))] [.int (x2 - 1), .ref 90] (hM p σ τ) ?_
                  show xv l Ω (d + 2) 0 0 200 143 [some (.ref 53), some (.int x1), some (.int x2), some (.int x3), some (.int (σ 84 (Int32.toNatClampNeg x3)))] [.int 2, .int (x2 - 1), .ref 90] (hM p σ τ) r
                  revert H
                  generalize (x2 - 1) = kk0
                  intro H
                  have h9 := g200_143_ok (Ω := Ω) htr d p τ _ _ _ _ _ _ r H
                  exact xv_sub (L' := [some (.ref 53), some (.int x1), some (.int x2), some (.int x3), none]) ⟨rfl, ⟨rfl, ⟨rfl, ⟨rfl, trivial⟩⟩⟩⟩ h9
                · rw [if_neg h22] at H
                  refine xp_ok htr 5 (d + 2) 0 0 [eB true] 200 122 [some (.ref 53), some (.int x1), some (.int x2), some (.int x3), some (.int (σ 84 (Int32.toNatClampNeg x3)))] [.int x2, .ref 90, .int (x2 - 1), .ref 90] (hM p σ τ) ⟨(xn_in g21), h22, ?_⟩
                  show xv l Ω (d + 2) 0 0 200 133 [some (.ref 53), some (.int x1), some (.int x2), some (.int x3), some (.int (σ 84 (Int32.toNatClampNeg x3)))] [.int (x2 - 1), .ref 90] (hM p σ τ) r
                  refine xp_ok htr 8 (d + 2) 0 0 [] 200 133 [some (.ref 53), some (.int x1), some (.int x2), some (.int x3), some (.int (σ 84 (Int32.toNatClampNeg x3)))] [.int (x2 - 1), .ref 90] (hM p σ τ) ⟨(xn_in g21), ?_⟩
                  show xv l Ω (d + 2) 0 0 200 143 [some (.ref 53), some (.int x1), some (.int x2), some (.int x3), some (.int (σ 84 (Int32.toNatClampNeg x3)))] [.int (1 - (σ 90 (Int32.toNatClampNeg (x2 - 1)))), .int (x2 - 1), .ref 90] (hM p σ τ) r
                  revert H
                  generalize (x2 - 1) = kk0
                  generalize (1 - (σ 90 (Int32.toNatClampNeg (x2 - 1)))) = kk1
                  intro H
                  have h9 := g200_143_ok (Ω := Ω) htr d p τ _ _ _ _ _ _ r H
                  exact xv_sub (L' := [some (.ref 53), some (.int x1), some (.int x2), some (.int x3), none]) ⟨rfl, ⟨rfl, ⟨rfl, ⟨rfl, trivial⟩⟩⟩⟩ h9
            · rw [if_neg h20] at H
              refine xp_ok htr 3 (d + 2) 0 0 [eB true] 200 102 [some (.ref 53), some (.int x1), some (.int x2), some (.int x3), some (.int (σ 84 (Int32.toNatClampNeg x3)))] [] (hM p σ τ) ⟨h20, ?_⟩
              show xv l Ω (d + 2) 0 0 200 147 [some (.ref 53), some (.int x1), some (.int x2), some (.int x3), some (.int (σ 84 (Int32.toNatClampNeg x3)))] [] (hM p σ τ) r
              cases q26 : g196 (σ 84 (Int32.toNatClampNeg x3)) σ with
              | none => rw [q26] at H; exact False.elim H
              | some q260 =>
                obtain ⟨v24 | v24, s25⟩ := q260
                · rw [q26] at H; dsimp only at H
                  have hc := g196_run (Ω := Ω) htr d p τ (σ 84 (Int32.toNatClampNeg x3)) σ q26
                  refine xp_ok htr 6 (d + 2) 0 0 [eC (some (.int v24)) (hM p s25 τ)] 200 147 [some (.ref 53), some (.int x1), some (.int x2), some (.int x3), some (.int (σ 84 (Int32.toNatClampNeg x3)))] [] (hM p σ τ) ⟨hc, ?_⟩
                  show xv l Ω (d + 2) 0 0 200 158 [some (.ref 53), some (.int x1), some (.int x2), some (.int x3), some (.int (σ 84 (Int32.toNatClampNeg x3)))] [.int v24, .int x2, .ref 90] (hM p s25 τ) r
                  cases g27 : xn x2 300 with
                  | false => rw [g27, cond_false] at H; exact False.elim H
                  | true =>
                    rw [g27, cond_true] at H
                    refine xp_ok htr 2 (d + 2) 0 0 [] 200 158 [some (.ref 53), some (.int x1), some (.int x2), some (.int x3), some (.int (σ 84 (Int32.toNatClampNeg x3)))] [.int v24, .int x2, .ref 90] (hM p s25 τ) ⟨(xn_in g27), ?_⟩
                    show xv l Ω (d + 2) 0 0 200 162 [some (.ref 53), some (.int x1), some (.int (x2 + 1)), some (.int x3), some (.int (σ 84 (Int32.toNatClampNeg x3)))] [] (hM p (xh_ui s25 90 (Int32.toNatClampNeg x2) v24) τ) r
                    have h9 := g200_162_ok (Ω := Ω) htr d p τ _ _ _ _ r H
                    exact xv_sub (L' := [some (.ref 53), some (.int x1), some (.int (x2 + 1)), some (.int x3), none]) ⟨rfl, ⟨rfl, ⟨rfl, ⟨rfl, trivial⟩⟩⟩⟩ h9
                · rw [q26] at H; exact False.elim H
set_option maxRecDepth 8000 in
theorem g200_9_ok {l : Launch} {Ω : xo_O} (htr : xH l) (d : Nat) (p : Nat) (τ : Nat → Nat → Int64) (x1 : Int32) (x2 : Int32) (x3 : Int32) (σ : xS) (r : xv_R) (H : xo (xB false p τ r) (g200_9 x1 x2 x3 σ)) : xv l Ω (d + 2) 0 0 200 9 [some (.ref 53), some (.int x1), some (.int x2), some (.int x3), none] [] (hM p σ τ) r :=
  xlo_ok (A := a200_9 l Ω d p τ r) (fun a H => g200_9b_ok htr d p τ a.1 a.2.1 a.2.2.1 a.2.2.2 r H) 1000 (x1, x2, x3, σ) H
set_option maxRecDepth 8000 in
theorem g200_run {l : Launch} {Ω : xo_O} (htr : xH l) (d : Nat) (p : Nat) (τ : Nat → Nat → Int64) (a1 : Int32) (σ : xS) {q : xQ} (hq : g200 a1 σ = some q) : xv l Ω (d + 2) 0 0 200 0 (xs_loc (xm_l 200) [.ref 53, .int a1]) [] (hM p σ τ) (xq_R false p τ q) := by
  have H : xo (xB false p τ (xq_R false p τ q)) (g200 a1 σ) := by rw [hq]; exact rfl
  generalize xq_R false p τ q = r at H ⊢
  show xv l Ω (d + 2) 0 0 200 0 [some (.ref 53), some (.int a1), none, none, none] [] (hM p σ τ) r
  unfold g200 at H
  cases g1 : xn a1 80 with
  | false => rw [g1, cond_false] at H; exact False.elim H
  | true =>
    rw [g1, cond_true] at H
    refine xp_ok htr 7 (d + 2) 0 0 [] 200 0 [some (.ref 53), some (.int a1), none, none, none] [] (hM p σ τ) ⟨(xn_in g1), ?_⟩
    show xv l Ω (d + 2) 0 0 200 9 [some (.ref 53), some (.int a1), some (.int 0), some (.int (σ 75 (Int32.toNatClampNeg a1))), none] [] (hM p σ τ) r
    have h9 := g200_9_ok (Ω := Ω) htr d p τ _ _ _ _ r H
    exact xv_sub (L' := [some (.ref 53), some (.int a1), some (.int 0), some (.int (σ 75 (Int32.toNatClampNeg a1))), none]) ⟨rfl, ⟨rfl, ⟨rfl, ⟨rfl, trivial⟩⟩⟩⟩ h9
/- AccessDeskModel.ofRule -/
def g199_73 (x3 : Int32) (σ : xS) : Option xQ := (if x3 = 0 then some ((Sum.inl 4, σ)) else some ((Sum.inl 3, σ)))
def g199_47 (x1 : Int32) (x2 : Int32) (k0 : Int32) (σ : xS) : Option xQ := (bif xn x1 40 then (if (σ 87 (Int32.toNatClampNeg x1)) = 1 then (if x2 = 1 then (if k0 = 0 then some ((Sum.inl 2, σ)) else some ((Sum.inl 1, σ))) else g199_73 k0 σ) else g199_73 k0 σ) else none)
def g199_31 (x1 : Int32) (x2 : Int32) (σ : xS) : Option xQ := (bif xn x1 80 then (if (σ 71 (Int32.toNatClampNeg x1)) = 112 then g199_47 x1 x2 1 σ else g199_47 x1 x2 0 σ) else none)
def g199 (a1 : Int32) (σ : xS) : xO := (match g200 a1 σ with | some (Sum.inl v1, s2) => (bif xn a1 40 then (if (s2 87 (Int32.toNatClampNeg a1)) = 0 then some ((Sum.inl 0, s2)) else (if (s2 87 (Int32.toNatClampNeg a1)) = 1 then (if v1 = 0 then some ((Sum.inl 0, s2)) else g199_31 a1 v1 s2) else g199_31 a1 v1 s2)) else none) | some (Sum.inr v1, s2) => none | none => none)
set_option maxRecDepth 8000 in
theorem g199_73_ok {l : Launch} {Ω : xo_O} (htr : xH l) (d : Nat) (p : Nat) (τ : Nat → Nat → Int64) (x3 : Int32) (σ : xS) (r : xv_R) (H : xo (xB false p τ r) (g199_73 x3 σ)) : xv l Ω (d + 3) 0 0 199 73 [none, none, none, some (.int x3)] [] (hM p σ τ) r := by
  unfold g199_73 at H
  by_cases h14 : x3 = 0
  · rw [if_pos h14] at H
    refine xp_ok htr 2 (d + 3) 0 0 [eB true] 199 73 [none, none, none, some (.int x3)] [] (hM p σ τ) ⟨h14, ?_⟩
    show xv l Ω (d + 3) 0 0 199 81 [none, none, none, some (.int x3)] [] (hM p σ τ) r
    exact xp_ok htr 2 (d + 3) 0 0 [] 199 81 [none, none, none, some (.int x3)] [] (hM p σ τ) ⟨trivial, (Eq.symm H)⟩
  · rw [if_neg h14] at H
    refine xp_ok htr 2 (d + 3) 0 0 [eB false] 199 73 [none, none, none, some (.int x3)] [] (hM p σ τ) ⟨h14, ?_⟩
    show xv l Ω (d + 3) 0 0 199 77 [none, none, none, some (.int x3)] [] (hM p σ τ) r
    exact xp_ok htr 3 (d + 3) 0 0 [] 199 77 [none, none, none, some (.int x3)] [] (hM p σ τ) ⟨trivial, (Eq.symm H)⟩
set_option maxRecDepth 8000 in
theorem g199_47_ok {l : Launch} {Ω : xo_O} (htr : xH l) (d : Nat) (p : Nat) (τ : Nat → Nat → Int64) (x1 : Int32) (x2 : Int32) (k0 : Int32) (σ : xS) (r : xv_R) (H : xo (xB false p τ r) (g199_47 x1 x2 k0 σ)) : xv l Ω (d + 3) 0 0 199 47 [some (.ref 53), some (.int x1), some (.int x2), none] [.int k0] (hM p σ τ) r := by
  unfold g199_47 at H
  cases g10 : xn x1 40 with
  | false => rw [g10, cond_false] at H; exact False.elim H
  | true =>
    rw [g10, cond_true] at H
    by_cases h11 : (σ 87 (Int32.toNatClampNeg x1)) = 1
    · rw [if_pos h11] at H
      refine xp_ok htr 7 (d + 3) 0 0 [eB false] 199 47 [some (.ref 53), some (.int x1), some (.int x2), none] [.int k0] (hM p σ τ) ⟨(xn_in g10), h11, ?_⟩
      show xv l Ω (d + 3) 0 0 199 58 [some (.ref 53), some (.int x1), some (.int x2), some (.int k0)] [] (hM p σ τ) r
      by_cases h12 : x2 = 1
      · rw [if_pos h12] at H
        refine xp_ok htr 3 (d + 3) 0 0 [eB false] 199 58 [some (.ref 53), some (.int x1), some (.int x2), some (.int k0)] [] (hM p σ τ) ⟨h12, ?_⟩
        show xv l Ω (d + 3) 0 0 199 63 [some (.ref 53), some (.int x1), some (.int x2), some (.int k0)] [] (hM p σ τ) r
        by_cases h13 : k0 = 0
        · rw [if_pos h13] at H
          refine xp_ok htr 2 (d + 3) 0 0 [eB true] 199 63 [some (.ref 53), some (.int x1), some (.int x2), some (.int k0)] [] (hM p σ τ) ⟨h13, ?_⟩
          show xv l Ω (d + 3) 0 0 199 71 [some (.ref 53), some (.int x1), some (.int x2), some (.int k0)] [] (hM p σ τ) r
          exact xp_ok htr 2 (d + 3) 0 0 [] 199 71 [some (.ref 53), some (.int x1), some (.int x2), some (.int k0)] [] (hM p σ τ) ⟨trivial, (Eq.symm H)⟩
        · rw [if_neg h13] at H
          refine xp_ok htr 2 (d + 3) 0 0 [eB false] 199 63 [some (.ref 53), some (.int x1), some (.int x2), some (.int k0)] [] (hM p σ τ) ⟨h13, ?_⟩
          show xv l Ω (d + 3) 0 0 199 67 [some (.ref 53), some (.int x1), some (.int x2), some (.int k0)] [] (hM p σ τ) r
          exact xp_ok htr 3 (d + 3) 0 0 [] 199 67 [some (.ref 53), some (.int x1), some (.int x2), some (.int k0)] [] (hM p σ τ) ⟨trivial, (Eq.symm H)⟩
      · rw [if_neg h12] at H
        refine xp_ok htr 3 (d + 3) 0 0 [eB true] 199 58 [some (.ref 53), some (.int x1), some (.int x2), some (.int k0)] [] (hM p σ τ) ⟨h12, ?_⟩
        show xv l Ω (d + 3) 0 0 199 73 [some (.ref 53), some (.int x1), some (.int x2), some (.int k0)] [] (hM p σ τ) r
        have h9 := g199_73_ok (Ω := Ω) htr d p τ _ _ r H
        exact xv_sub (L' := [none, none, none, some (.int k0)]) ⟨rfl, trivial⟩ h9
    · rw [if_neg h11] at H
      refine xp_ok htr 7 (d + 3) 0 0 [eB true] 199 47 [some (.ref 53), some (.int x1), some (.int x2), none] [.int k0] (hM p σ τ) ⟨(xn_in g10), h11, ?_⟩
      show xv l Ω (d + 3) 0 0 199 73 [some (.ref 53), some (.int x1), some (.int x2), some (.int k0)] [] (hM p σ τ) r
      have h9 := g199_73_ok (Ω := Ω) htr d p τ _ _ r H
      exact xv_sub (L' := [none, none, none, some (.int k0)]) ⟨rfl, trivial⟩ h9
set_option maxRecDepth 8000 in
theorem g199_31_ok {l : Launch} {Ω : xo_O} (htr : xH l) (d : Nat) (p : Nat) (τ : Nat → Nat → Int64) (x1 : Int32) (x2 : Int32) (σ : xS) (r : xv_R) (H : xo (xB false p τ r) (g199_31 x1 x2 σ)) : xv l Ω (d + 3) 0 0 199 31 [some (.ref 53), some (.int x1), some (.int x2), none] [] (hM p σ τ) r := by
  unfold g199_31 at H
  cases g8 : xn x1 80 with
  | false => rw [g8, cond_false] at H; exact False.elim H
  | true =>
    rw [g8, cond_true] at H
    by_cases h9 : (σ 71 (Int32.toNatClampNeg x1)) = 112
    · rw [if_pos h9] at H
      refine xp_ok htr 6 (d + 3) 0 0 [eB false] 199 31 [some (.ref 53), some (.int x1), some (.int x2), none] [] (hM p σ τ) ⟨(xn_in g8), h9, ?_⟩
      show xv l Ω (d + 3) 0 0 199 42 [some (.ref 53), some (.int x1), some (.int x2), none] [] (hM p σ τ) r
      refine xp_ok htr 2 (d + 3) 0 0 [] 199 42 [some (.ref 53), some (.int x1), some (.int x2), none] [] (hM p σ τ) ?_
      show xv l Ω (d + 3) 0 0 199 47 [some (.ref 53), some (.int x1), some (.int x2), none] [.int 1] (hM p σ τ) r
      have h9 := g199_47_ok (Ω := Ω) htr d p τ _ _ _ _ r H
      exact xv_sub (L' := [some (.ref 53), some (.int x1), some (.int x2), none]) ⟨rfl, ⟨rfl, ⟨rfl, trivial⟩⟩⟩ h9
    · rw [if_neg h9] at H
      refine xp_ok htr 6 (d + 3) 0 0 [eB true] 199 31 [some (.ref 53), some (.int x1), some (.int x2), none] [] (hM p σ τ) ⟨(xn_in g8), h9, ?_⟩
      show xv l Ω (d + 3) 0 0 199 46 [some (.ref 53), some (.int x1), some (.int x2), none] [] (hM p σ τ) r
      refine xp_ok htr 1 (d + 3) 0 0 [] 199 46 [some (.ref 53), some (.int x1), some (.int x2), none] [] (hM p σ τ) ?_
      show xv l Ω (d + 3) 0 0 199 47 [some (.ref 53), some (.int x1), some (.int x2), none] [.int 0] (hM p σ τ) r
      have h9 := g199_47_ok (Ω := Ω) htr d p τ _ _ _ _ r H
      exact xv_sub (L' := [some (.ref 53), some (.int x1), some (.int x2), none]) ⟨rfl, ⟨rfl, ⟨rfl, trivial⟩⟩⟩ h9
set_option maxRecDepth 8000 in
theorem g199_run {l : Launch} {Ω : xo_O} (htr : xH l) (d : Nat) (p : Nat) (τ : Nat → Nat → Int64) (a1 : Int32) (σ : xS) {q : xQ} (hq : g199 a1 σ = some q) : xv l Ω (d + 3) 0 0 199 0 (xs_loc (xm_l 199) [.ref 53, .int a1]) [] (hM p σ τ) (xq_R false p τ q) := by
  have H : xo (xB false p τ (xq_R false p τ q)) (g199 a1 σ) := by rw [hq]; exact rfl
  generalize xq_R false p τ q = r at H ⊢
  show xv l Ω (d + 3) 0 0 199 0 [some (.ref 53), some (.int a1), none, none] [] (hM p σ τ) r
  unfold g199 at H
  cases q3 : g200 a1 σ with
  | none => rw [q3] at H; exact False.elim H
  | some q30 =>
    obtain ⟨v1 | v1, s2⟩ := q30
    · rw [q3] at H; dsimp only at H
      have hc := g200_run (Ω := Ω) htr d p τ a1 σ q3
      refine xp_ok htr 3 (d + 3) 0 0 [eC (some (.int v1)) (hM p s2 τ)] 199 0 [some (.ref 53), some (.int a1), none, none] [] (hM p σ τ) ⟨hc, ?_⟩
      show xv l Ω (d + 3) 0 0 199 5 [some (.ref 53), some (.int a1), none, none] [.int v1] (hM p s2 τ) r
      cases g4 : xn a1 40 with
      | false => rw [g4, cond_false] at H; exact False.elim H
      | true =>
        rw [g4, cond_true] at H
        by_cases h5 : (s2 87 (Int32.toNatClampNeg a1)) = 0
        · rw [if_pos h5] at H
          refine xp_ok htr 6 (d + 3) 0 0 [eB true] 199 5 [some (.ref 53), some (.int a1), none, none] [.int v1] (hM p s2 τ) ⟨(xn_in g4), h5, ?_⟩
          show xv l Ω (d + 3) 0 0 199 29 [some (.ref 53), some (.int a1), some (.int v1), none] [] (hM p s2 τ) r
          exact xp_ok htr 2 (d + 3) 0 0 [] 199 29 [some (.ref 53), some (.int a1), some (.int v1), none] [] (hM p s2 τ) ⟨trivial, (Eq.symm H)⟩
        · rw [if_neg h5] at H
          refine xp_ok htr 6 (d + 3) 0 0 [eB false] 199 5 [some (.ref 53), some (.int a1), none, none] [.int v1] (hM p s2 τ) ⟨(xn_in g4), h5, ?_⟩
          show xv l Ω (d + 3) 0 0 199 15 [some (.ref 53), some (.int a1), some (.int v1), none] [] (hM p s2 τ) r
          by_cases h6 : (s2 87 (Int32.toNatClampNeg a1)) = 1
          · rw [if_pos h6] at H
            refine xp_ok htr 6 (d + 3) 0 0 [eB false] 199 15 [some (.ref 53), some (.int a1), some (.int v1), none] [] (hM p s2 τ) ⟨(xn_in g4), h6, ?_⟩
            show xv l Ω (d + 3) 0 0 199 25 [some (.ref 53), some (.int a1), some (.int v1), none] [] (hM p s2 τ) r
            by_cases h7 : v1 = 0
            · rw [if_pos h7] at H
              refine xp_ok htr 2 (d + 3) 0 0 [eB false] 199 25 [some (.ref 53), some (.int a1), some (.int v1), none] [] (hM p s2 τ) ⟨h7, ?_⟩
              show xv l Ω (d + 3) 0 0 199 29 [some (.ref 53), some (.int a1), some (.int v1), none] [] (hM p s2 τ) r
              exact xp_ok htr 2 (d + 3) 0 0 [] 199 29 [some (.ref 53), some (.int a1), some (.int v1), none] [] (hM p s2 τ) ⟨trivial, (Eq.symm H)⟩
            · rw [if_neg h7] at H
              refine xp_ok htr 2 (d + 3) 0 0 [eB true] 199 25 [some (.ref 53), some (.int a1), some (.int v1), none] [] (hM p s2 τ) ⟨h7, ?_⟩
              show xv l Ω (d + 3) 0 0 199 31 [some (.ref 53), some (.int a1), some (.int v1), none] [] (hM p s2 τ) r
              have h9 := g199_31_ok (Ω := Ω) htr d p τ _ _ _ r H
              exact xv_sub (L' := [some (.ref 53), some (.int a1), some (.int v1), none]) ⟨rfl, ⟨rfl, ⟨rfl, trivial⟩⟩⟩ h9
          · rw [if_neg h6] at H
            refine xp_ok htr 6 (d + 3) 0 0 [eB true] 199 15 [some (.ref 53), some (.int a1), some (.int v1), none] [] (hM p s2 τ) ⟨(xn_in g4), h6, ?_⟩
            show xv l Ω (d + 3) 0 0 199 31 [some (.ref 53), some (.int a1), some (.int v1), none] [] (hM p s2 τ) r
            have h9 := g199_31_ok (Ω := Ω) htr d p τ _ _ _ r H
            exact xv_sub (L' := [some (.ref 53), some (.int a1), some (.int v1), none]) ⟨rfl, ⟨rfl, ⟨rfl, trivial⟩⟩⟩ h9
    · rw [q3] at H; exact False.elim H
/- AccessDeskModel.reckon -/
def g192_102 (x1 : Int32) (σ : xS) : Option ((Int32 × xS) ⊕ xQ) := some (Sum.inl ((x1 + xk1), σ))
def g192_101 (x1 : Int32) (k1 : Int32) (k2 : Int32) (σ : xS) : Option ((Int32 × xS) ⊕ xQ) := (bif xn k1 40 then g192_102 x1 (xh_ui σ 88 (Int32.toNatClampNeg k1) k2) else none)
def g192_94 (x1 : Int32) (x2 : Int32) (k1 : Int32) (σ : xS) : Option ((Int32 × xS) ⊕ xQ) := g192_101 x1 k1 (x2 + 2) σ
def g192_100 (x1 : Int32) (x2 : Int32) (k1 : Int32) (σ : xS) : Option ((Int32 × xS) ⊕ xQ) := g192_101 x1 k1 x2 σ
def g192_68 (x1 : Int32) (k0 : Int32) (σ : xS) : Option ((Int32 × xS) ⊕ xQ) := (bif xn x1 40 then (if (σ 87 (Int32.toNatClampNeg x1)) = 2 then (if k0 = 1 then g192_94 x1 k0 x1 σ else (if k0 = 2 then g192_94 x1 k0 x1 σ else g192_100 x1 k0 x1 σ)) else g192_100 x1 k0 x1 σ) else none)
def g192_9b (x1 : Int32) (σ : xS) : Option ((Int32 × xS) ⊕ xQ) := (if x1 < 0 then some (Sum.inr ((Sum.inl 0, σ))) else (match g193 x1 σ with | some (Sum.inl v2, s3) => (bif xn x1 40 then (bif xn x1 80 then (match g174 ((xh_ui s3 87 (Int32.toNatClampNeg x1) v2) 71 (Int32.toNatClampNeg x1)) (xh_ui s3 87 (Int32.toNatClampNeg x1) v2) with | some (Sum.inl v7, s8) => (if v7 = 0 then (match g199 x1 s8 with | some (Sum.inl v11, s12) => g192_102 x1 (xh_ui s12 88 (Int32.toNatClampNeg x1) v11) | some (Sum.inr v11, s12) => none | none => none) else (if (s8 87 (Int32.toNatClampNeg x1)) = 0 then g192_68 x1 0 s8 else (match g201 x1 s8 with | some (Sum.inl v20, s21) => g192_68 x1 v20 s21 | some (Sum.inr v20, s21) => none | none => none))) | some (Sum.inr v7, s8) => none | none => none) else none) else none) | some (Sum.inr v2, s3) => none | none => none))
def g192_9 (x1 : Int32) (σ : xS) : Option xQ := xlo (fun a : Int32 × xS => g192_9b a.1 a.2) 1000 (x1, σ)
def g192  (σ : xS) : xO := g192_9 ((σ 70 0) - 1) σ
def a192_9 (l : Launch) (Ω : xo_O) (d p : Nat) (τ : Nat → Nat → Int64) (r : xv_R) : Int32 × xS → Prop := fun a => xv l Ω (d + 4) 0 0 192 9 [some (.ref 53), some (.int a.1), none] [] (hM p a.2 τ) r
set_option maxRecDepth 8000 in
theorem g192_102_ok {l : Launch} {Ω : xo_O} (htr : xH l) (d : Nat) (p : Nat) (τ : Nat → Nat → Int64) (x1 : Int32) (σ : xS) (r : xv_R) (H : xo (xd (a192_9 l Ω d p τ r) (xB true p τ r)) (g192_102 x1 σ)) : xv l Ω (d + 4) 0 0 192 102 [some (.ref 53), some (.int x1), none] [] (hM p σ τ) r := by
  unfold g192_102 at H
  refine xp_ok htr 2 (d + 4) 0 0 [] 192 102 [some (.ref 53), some (.int x1), none] [] (hM p σ τ) ?_
  show xv l Ω (d + 4) 0 0 192 9 [some (.ref 53), some (.int (x1 + xk1)), none] [] (hM p σ τ) r
  exact xv_sub (L' := [some (.ref 53), some (.int (x1 + xk1)), none]) ⟨rfl, ⟨rfl, trivial⟩⟩ H
set_option maxRecDepth 8000 in
theorem g192_101_ok {l : Launch} {Ω : xo_O} (htr : xH l) (d : Nat) (p : Nat) (τ : Nat → Nat → Int64) (x1 : Int32) (k1 : Int32) (k2 : Int32) (σ : xS) (r : xv_R) (H : xo (xd (a192_9 l Ω d p τ r) (xB true p τ r)) (g192_101 x1 k1 k2 σ)) : xv l Ω (d + 4) 0 0 192 101 [some (.ref 53), some (.int x1), none] [.int k2, .int k1, .ref 88] (hM p σ τ) r := by
  unfold g192_101 at H
  cases g18 : xn k1 40 with
  | false => rw [g18, cond_false] at H; exact False.elim H
  | true =>
    rw [g18, cond_true] at H
    refine xp_ok htr 1 (d + 4) 0 0 [] 192 101 [some (.ref 53), some (.int x1), none] [.int k2, .int k1, .ref 88] (hM p σ τ) ⟨(xn_in g18), ?_⟩
    show xv l Ω (d + 4) 0 0 192 102 [some (.ref 53), some (.int x1), none] [] (hM p (xh_ui σ 88 (Int32.toNatClampNeg k1) k2) τ) r
    have h9 := g192_102_ok (Ω := Ω) htr d p τ _ _ r H
    exact xv_sub (L' := [some (.ref 53), some (.int x1), none]) ⟨rfl, ⟨rfl, trivial⟩⟩ h9
set_option maxRecDepth 8000 in
theorem g192_94_ok {l : Launch} {Ω : xo_O} (htr : xH l) (d : Nat) (p : Nat) (τ : Nat → Nat → Int64) (x1 : Int32) (x2 : Int32) (k1 : Int32) (σ : xS) (r : xv_R) (H : xo (xd (a192_9 l Ω d p τ r) (xB true p τ r)) (g192_94 x1 x2 k1 σ)) : xv l Ω (d + 4) 0 0 192 94 [some (.ref 53), some (.int x1), some (.int x2)] [.int k1, .ref 88] (hM p σ τ) r := by
  unfold g192_94 at H
  refine xp_ok htr 4 (d + 4) 0 0 [] 192 94 [some (.ref 53), some (.int x1), some (.int x2)] [.int k1, .ref 88] (hM p σ τ) ?_
  show xv l Ω (d + 4) 0 0 192 101 [some (.ref 53), some (.int x1), some (.int x2)] [.int (x2 + 2), .int k1, .ref 88] (hM p σ τ) r
  revert H
  generalize (x2 + 2) = kk0
  intro H
  have h9 := g192_101_ok (Ω := Ω) htr d p τ _ _ _ _ r H
  exact xv_sub (L' := [some (.ref 53), some (.int x1), none]) ⟨rfl, ⟨rfl, trivial⟩⟩ h9
set_option maxRecDepth 8000 in
theorem g192_100_ok {l : Launch} {Ω : xo_O} (htr : xH l) (d : Nat) (p : Nat) (τ : Nat → Nat → Int64) (x1 : Int32) (x2 : Int32) (k1 : Int32) (σ : xS) (r : xv_R) (H : xo (xd (a192_9 l Ω d p τ r) (xB true p τ r)) (g192_100 x1 x2 k1 σ)) : xv l Ω (d + 4) 0 0 192 100 [some (.ref 53), some (.int x1), some (.int x2)] [.int k1, .ref 88] (hM p σ τ) r := by
  unfold g192_100 at H
  refine xp_ok htr 1 (d + 4) 0 0 [] 192 100 [some (.ref 53), some (.int x1), some (.int x2)] [.int k1, .ref 88] (hM p σ τ) ?_
  show xv l Ω (d + 4) 0 0 192 101 [some (.ref 53), some (.int x1), some (.int x2)] [.int x2, .int k1, .ref 88] (hM p σ τ) r
  have h9 := g192_101_ok (Ω := Ω) htr d p τ _ _ _ _ r H
  exact xv_sub (L' := [some (.ref 53), some (.int x1), none]) ⟨rfl, ⟨rfl, trivial⟩⟩ h9
set_option maxRecDepth 8000 in
theorem g192_68_ok {l : Launch} {Ω : xo_O} (htr : xH l) (d : Nat) (p : Nat) (τ : Nat → Nat → Int64) (x1 : Int32) (k0 : Int32) (σ : xS) (r : xv_R) (H : xo (xd (a192_9 l Ω d p τ r) (xB true p τ r)) (g192_68 x1 k0 σ)) : xv l Ω (d + 4) 0 0 192 68 [some (.ref 53), some (.int x1), none] [.int k0] (hM p σ τ) r := by
  unfold g192_68 at H
  cases g15 : xn x1 40 with
  | false => rw [g15, cond_false] at H; exact False.elim H
  | true =>
    rw [g15, cond_true] at H
    refine xp_ok htr 8 (d + 4) 0 0 [] 192 68 [some (.ref 53), some (.int x1), none] [.int k0] (hM p σ τ) ⟨(xn_in g15), ?_⟩
    show xv l Ω (d + 4) 0 0 192 80 [some (.ref 53), some (.int x1), some (.int k0)] [.int (σ 87 (Int32.toNatClampNeg x1)), .int x1, .ref 88] (hM p σ τ) r
    by_cases h16 : (σ 87 (Int32.toNatClampNeg x1)) = 2
    · rw [if_pos h16] at H
      refine xp_ok htr 2 (d + 4) 0 0 [eB false] 192 80 [some (.ref 53), some (.int x1), some (.int k0)] [.int (σ 87 (Int32.toNatClampNeg x1)), .int x1, .ref 88] (hM p σ τ) ⟨h16, ?_⟩
      show xv l Ω (d + 4) 0 0 192 84 [some (.ref 53), some (.int x1), some (.int k0)] [.int x1, .ref 88] (hM p σ τ) r
      by_cases h17 : k0 = 1
      · rw [if_pos h17] at H
        refine xp_ok htr 3 (d + 4) 0 0 [eB true] 192 84 [some (.ref 53), some (.int x1), some (.int k0)] [.int x1, .ref 88] (hM p σ τ) ⟨h17, ?_⟩
        show xv l Ω (d + 4) 0 0 192 94 [some (.ref 53), some (.int x1), some (.int k0)] [.int x1, .ref 88] (hM p σ τ) r
        have h9 := g192_94_ok (Ω := Ω) htr d p τ _ _ _ _ r H
        exact xv_sub (L' := [some (.ref 53), some (.int x1), some (.int k0)]) ⟨rfl, ⟨rfl, ⟨rfl, trivial⟩⟩⟩ h9
      · rw [if_neg h17] at H
        refine xp_ok htr 3 (d + 4) 0 0 [eB false] 192 84 [some (.ref 53), some (.int x1), some (.int k0)] [.int x1, .ref 88] (hM p σ τ) ⟨h17, ?_⟩
        show xv l Ω (d + 4) 0 0 192 89 [some (.ref 53), some (.int x1), some (.int k0)] [.int x1, .ref 88] (hM p σ τ) r
        by_cases h19 : k0 = 2
        · rw [if_pos h19] at H
          refine xp_ok htr 3 (d + 4) 0 0 [eB false] 192 89 [some (.ref 53), some (.int x1), some (.int k0)] [.int x1, .ref 88] (hM p σ τ) ⟨h19, ?_⟩
          show xv l Ω (d + 4) 0 0 192 94 [some (.ref 53), some (.int x1), some (.int k0)] [.int x1, .ref 88] (hM p σ τ) r
          have h9 := g192_94_ok (Ω := Ω) htr d p τ _ _ _ _ r H
          exact xv_sub (L' := [some (.ref 53), some (.int x1), some (.int k0)]) ⟨rfl, ⟨rfl, ⟨rfl, trivial⟩⟩⟩ h9
        · rw [if_neg h19] at H
          refine xp_ok htr 3 (d + 4) 0 0 [eB true] 192 89 [some (.ref 53), some (.int x1), some (.int k0)] [.int x1, .ref 88] (hM p σ τ) ⟨h19, ?_⟩
          show xv l Ω (d + 4) 0 0 192 100 [some (.ref 53), some (.int x1), some (.int k0)] [.int x1, .ref 88] (hM p σ τ) r
          have h9 := g192_100_ok (Ω := Ω) htr d p τ _ _ _ _ r H
          exact xv_sub (L' := [some (.ref 53), some (.int x1), some (.int k0)]) ⟨rfl, ⟨rfl, ⟨rfl, trivial⟩⟩⟩ h9
    · rw [if_neg h16] at H
      refine xp_ok htr 2 (d + 4) 0 0 [eB true] 192 80 [some (.ref 53), some (.int x1), some (.int k0)] [.int (σ 87 (Int32.toNatClampNeg x1)), .int x1, .ref 88] (hM p σ τ) ⟨h16, ?_⟩
      show xv l Ω (d + 4) 0 0 192 100 [some (.ref 53), some (.int x1), some (.int k0)] [.int x1, .ref 88] (hM p σ τ) r
      have h9 := g192_100_ok (Ω := Ω) htr d p τ _ _ _ _ r H
      exact xv_sub (L' := [some (.ref 53), some (.int x1), some (.int k0)]) ⟨rfl, ⟨rfl, ⟨rfl, trivial⟩⟩⟩ h9
set_option maxRecDepth 8000 in
theorem g192_9b_ok {l : Launch} {Ω : xo_O} (htr : xH l) (d : Nat) (p : Nat) (τ : Nat → Nat → Int64) (x1 : Int32) (σ : xS) (r : xv_R) (H : xo (xd (a192_9 l Ω d p τ r) (xB true p τ r)) (g192_9b x1 σ)) : xv l Ω (d + 4) 0 0 192 9 [some (.ref 53), some (.int x1), none] [] (hM p σ τ) r := by
  unfold g192_9b at H
  by_cases h1 : x1 < 0
  · rw [if_pos h1] at H
    refine xp_ok htr 2 (d + 4) 0 0 [eB true] 192 9 [some (.ref 53), some (.int x1), none] [] (hM p σ τ) ⟨h1, ?_⟩
    show xv l Ω (d + 4) 0 0 192 108 [some (.ref 53), some (.int x1), none] [] (hM p σ τ) r
    exact xp_ok htr 1 (d + 4) 0 0 [] 192 108 [some (.ref 53), some (.int x1), none] [] (hM p σ τ) ⟨trivial, (Eq.symm H)⟩
  · rw [if_neg h1] at H
    refine xp_ok htr 2 (d + 4) 0 0 [eB false] 192 9 [some (.ref 53), some (.int x1), none] [] (hM p σ τ) ⟨h1, ?_⟩
    show xv l Ω (d + 4) 0 0 192 13 [some (.ref 53), some (.int x1), none] [] (hM p σ τ) r
    cases q4 : g193 x1 σ with
    | none => rw [q4] at H; exact False.elim H
    | some q40 =>
      obtain ⟨v2 | v2, s3⟩ := q40
      · rw [q4] at H; dsimp only at H
        have hc := g193_run (Ω := Ω) htr (d + 1) p τ x1 σ q4
        refine xp_ok htr 6 (d + 4) 0 0 [eC (some (.int v2)) (hM p s3 τ)] 192 13 [some (.ref 53), some (.int x1), none] [] (hM p σ τ) ⟨hc, ?_⟩
        show xv l Ω (d + 4) 0 0 192 23 [some (.ref 53), some (.int x1), none] [.int v2, .int x1, .ref 87] (hM p s3 τ) r
        cases g5 : xn x1 40 with
        | false => rw [g5, cond_false] at H; exact False.elim H
        | true =>
          rw [g5, cond_true] at H
          cases g6 : xn x1 80 with
          | false => rw [g6, cond_false] at H; exact False.elim H
          | true =>
            rw [g6, cond_true] at H
            cases q9 : g174 ((xh_ui s3 87 (Int32.toNatClampNeg x1) v2) 71 (Int32.toNatClampNeg x1)) (xh_ui s3 87 (Int32.toNatClampNeg x1) v2) with
            | none => rw [q9] at H; exact False.elim H
            | some q90 =>
              obtain ⟨v7 | v7, s8⟩ := q90
              · rw [q9] at H; dsimp only at H
                have hc := g174_run (Ω := Ω) htr (d + 3) p τ ((xh_ui s3 87 (Int32.toNatClampNeg x1) v2) 71 (Int32.toNatClampNeg x1)) (xh_ui s3 87 (Int32.toNatClampNeg x1) v2) q9
                refine xp_ok htr 6 (d + 4) 0 0 [eC (some (.int v7)) (hM p s8 τ)] 192 23 [some (.ref 53), some (.int x1), none] [.int v2, .int x1, .ref 87] (hM p s3 τ) ⟨(xn_in g5), (xn_in g6), hc, ?_⟩
                show xv l Ω (d + 4) 0 0 192 33 [some (.ref 53), some (.int x1), none] [.int v7] (hM p s8 τ) r
                by_cases h10 : v7 = 0
                · rw [if_pos h10] at H
                  refine xp_ok htr 1 (d + 4) 0 0 [eB false] 192 33 [some (.ref 53), some (.int x1), none] [.int v7] (hM p s8 τ) ⟨h10, ?_⟩
                  show xv l Ω (d + 4) 0 0 192 36 [some (.ref 53), some (.int x1), none] [] (hM p s8 τ) r
                  cases q13 : g199 x1 s8 with
                  | none => rw [q13] at H; exact False.elim H
                  | some q130 =>
                    obtain ⟨v11 | v11, s12⟩ := q130
                    · rw [q13] at H; dsimp only at H
                      have hc := g199_run (Ω := Ω) htr d p τ x1 s8 q13
                      refine xp_ok htr 6 (d + 4) 0 0 [eC (some (.int v11)) (hM p s12 τ)] 192 36 [some (.ref 53), some (.int x1), none] [] (hM p s8 τ) ⟨hc, ?_⟩
                      show xv l Ω (d + 4) 0 0 192 46 [some (.ref 53), some (.int x1), none] [.int v11, .int x1, .ref 88] (hM p s12 τ) r
                      refine xp_ok htr 2 (d + 4) 0 0 [] 192 46 [some (.ref 53), some (.int x1), none] [.int v11, .int x1, .ref 88] (hM p s12 τ) ⟨(xn_in g5), ?_⟩
                      show xv l Ω (d + 4) 0 0 192 102 [some (.ref 53), some (.int x1), none] [] (hM p (xh_ui s12 88 (Int32.toNatClampNeg x1) v11) τ) r
                      have h9 := g192_102_ok (Ω := Ω) htr d p τ _ _ r H
                      exact xv_sub (L' := [some (.ref 53), some (.int x1), none]) ⟨rfl, ⟨rfl, trivial⟩⟩ h9
                    · rw [q13] at H; exact False.elim H
                · rw [if_neg h10] at H
                  refine xp_ok htr 1 (d + 4) 0 0 [eB true] 192 33 [some (.ref 53), some (.int x1), none] [.int v7] (hM p s8 τ) ⟨h10, ?_⟩
                  show xv l Ω (d + 4) 0 0 192 50 [some (.ref 53), some (.int x1), none] [] (hM p s8 τ) r
                  by_cases h14 : (s8 87 (Int32.toNatClampNeg x1)) = 0
                  · rw [if_pos h14] at H
                    refine xp_ok htr 5 (d + 4) 0 0 [eB false] 192 50 [some (.ref 53), some (.int x1), none] [] (hM p s8 τ) ⟨(xn_in g5), h14, ?_⟩
                    show xv l Ω (d + 4) 0 0 192 59 [some (.ref 53), some (.int x1), none] [] (hM p s8 τ) r
                    refine xp_ok htr 2 (d + 4) 0 0 [] 192 59 [some (.ref 53), some (.int x1), none] [] (hM p s8 τ) ?_
                    show xv l Ω (d + 4) 0 0 192 68 [some (.ref 53), some (.int x1), none] [.int 0] (hM p s8 τ) r
                    have h9 := g192_68_ok (Ω := Ω) htr d p τ _ _ _ r H
                    exact xv_sub (L' := [some (.ref 53), some (.int x1), none]) ⟨rfl, ⟨rfl, trivial⟩⟩ h9
                  · rw [if_neg h14] at H
                    refine xp_ok htr 5 (d + 4) 0 0 [eB true] 192 50 [some (.ref 53), some (.int x1), none] [] (hM p s8 τ) ⟨(xn_in g5), h14, ?_⟩
                    show xv l Ω (d + 4) 0 0 192 63 [some (.ref 53), some (.int x1), none] [] (hM p s8 τ) r
                    cases q22 : g201 x1 s8 with
                    | none => rw [q22] at H; exact False.elim H
                    | some q220 =>
                      obtain ⟨v20 | v20, s21⟩ := q220
                      · rw [q22] at H; dsimp only at H
                        have hc := g201_run (Ω := Ω) htr (d + 1) p τ x1 s8 q22
                        refine xp_ok htr 3 (d + 4) 0 0 [eC (some (.int v20)) (hM p s21 τ)] 192 63 [some (.ref 53), some (.int x1), none] [] (hM p s8 τ) ⟨hc, ?_⟩
                        show xv l Ω (d + 4) 0 0 192 68 [some (.ref 53), some (.int x1), none] [.int v20] (hM p s21 τ) r
                        have h9 := g192_68_ok (Ω := Ω) htr d p τ _ _ _ r H
                        exact xv_sub (L' := [some (.ref 53), some (.int x1), none]) ⟨rfl, ⟨rfl, trivial⟩⟩ h9
                      · rw [q22] at H; exact False.elim H
              · rw [q9] at H; exact False.elim H
      · rw [q4] at H; exact False.elim H
set_option maxRecDepth 8000 in
theorem g192_9_ok {l : Launch} {Ω : xo_O} (htr : xH l) (d : Nat) (p : Nat) (τ : Nat → Nat → Int64) (x1 : Int32) (σ : xS) (r : xv_R) (H : xo (xB true p τ r) (g192_9 x1 σ)) : xv l Ω (d + 4) 0 0 192 9 [some (.ref 53), some (.int x1), none] [] (hM p σ τ) r :=
  xlo_ok (A := a192_9 l Ω d p τ r) (fun a H => g192_9b_ok htr d p τ a.1 a.2 r H) 1000 (x1, σ) H
set_option maxRecDepth 8000 in
theorem g192_run {l : Launch} {Ω : xo_O} (htr : xH l) (d : Nat) (p : Nat) (τ : Nat → Nat → Int64)  (σ : xS) {q : xQ} (hq : g192  σ = some q) : xv l Ω (d + 4) 0 0 192 0 (xs_loc (xm_l 192) [.ref 53]) [] (hM p σ τ) (xq_R true p τ q) := by
  have H : xo (xB true p τ (xq_R true p τ q)) (g192  σ) := by rw [hq]; exact rfl
  generalize xq_R true p τ q = r at H ⊢
  show xv l Ω (d + 4) 0 0 192 0 [some (.ref 53), none, none] [] (hM p σ τ) r
  unfold g192 at H
  refine xp_ok htr 7 (d + 4) 0 0 [] 192 0 [some (.ref 53), none, none] [] (hM p σ τ) ⟨(by unfold vp_in; decide), ?_⟩
  show xv l Ω (d + 4) 0 0 192 9 [some (.ref 53), some (.int ((σ 70 0) - 1)), none] [] (hM p σ τ) r
  have h9 := g192_9_ok (Ω := Ω) htr d p τ _ _ r H
  exact xv_sub (L' := [some (.ref 53), some (.int ((σ 70 0) - 1)), none]) ⟨rfl, ⟨rfl, trivial⟩⟩ h9
/- AccessDeskModel.decided -/
def g191 (a1 : Int32) (a2 : Int32) (a3 : Int32) (a4 : Int32) (σ : xS) : xO := (if (σ 70 0) = 0 then some ((Sum.inl 0, σ)) else (match g192 (xh_ui (xh_ui (xh_ui (xh_ui σ 53 42 a1) 53 43 a2) 53 44 a3) 53 45 a4) with | some (Sum.inl v2, s3) => some ((Sum.inl (s3 88 0), s3)) | some (Sum.inr v2, s3) => none | none => none))
set_option maxRecDepth 8000 in
theorem g191_run {l : Launch} {Ω : xo_O} (htr : xH l) (d : Nat) (p : Nat) (τ : Nat → Nat → Int64) (a1 : Int32) (a2 : Int32) (a3 : Int32) (a4 : Int32) (σ : xS) {q : xQ} (hq : g191 a1 a2 a3 a4 σ = some q) : xv l Ω (d + 5) 0 0 191 0 (xs_loc (xm_l 191) [.ref 53, .int a1, .int a2, .int a3, .int a4]) [] (hM p σ τ) (xq_R false p τ q) := by
  have H : xo (xB false p τ (xq_R false p τ q)) (g191 a1 a2 a3 a4 σ) := by rw [hq]; exact rfl
  generalize xq_R false p τ q = r at H ⊢
  show xv l Ω (d + 5) 0 0 191 0 [some (.ref 53), some (.int a1), some (.int a2), some (.int a3), some (.int a4)] [] (hM p σ τ) r
  unfold g191 at H
  by_cases h1 : (σ 70 0) = 0
  · rw [if_pos h1] at H
    refine xp_ok htr 5 (d + 5) 0 0 [eB false] 191 0 [some (.ref 53), some (.int a1), some (.int a2), some (.int a3), some (.int a4)] [] (hM p σ τ) ⟨(by unfold vp_in; decide), h1, ?_⟩
    show xv l Ω (d + 5) 0 0 191 9 [some (.ref 53), some (.int a1), some (.int a2), some (.int a3), some (.int a4)] [] (hM p σ τ) r
    exact xp_ok htr 2 (d + 5) 0 0 [] 191 9 [some (.ref 53), some (.int a1), some (.int a2), some (.int a3), some (.int a4)] [] (hM p σ τ) ⟨trivial, (Eq.symm H)⟩
  · rw [if_neg h1] at H
    refine xp_ok htr 5 (d + 5) 0 0 [eB true] 191 0 [some (.ref 53), some (.int a1), some (.int a2), some (.int a3), some (.int a4)] [] (hM p σ τ) ⟨(by unfold vp_in; decide), h1, ?_⟩
    show xv l Ω (d + 5) 0 0 191 11 [some (.ref 53), some (.int a1), some (.int a2), some (.int a3), some (.int a4)] [] (hM p σ τ) r
    refine xp_ok htr 8 (d + 5) 0 0 [] 191 11 [some (.ref 53), some (.int a1), some (.int a2), some (.int a3), some (.int a4)] [] (hM p σ τ) ?_
    show xv l Ω (d + 5) 0 0 191 23 [some (.ref 53), some (.int a1), some (.int a2), some (.int a3), some (.int a4)] [.int a3, .ref 53] (hM p (xh_ui (xh_ui σ 53 42 a1) 53 43 a2) τ) r
    cases q4 : g192 (xh_ui (xh_ui (xh_ui (xh_ui σ 53 42 a1) 53 43 a2) 53 44 a3) 53 45 a4) with
    | none => rw [q4] at H; exact False.elim H
    | some q40 =>
      obtain ⟨v2 | v2, s3⟩ := q40
      · rw [q4] at H; dsimp only at H
        have hc := g192_run (Ω := Ω) htr d p τ  (xh_ui (xh_ui (xh_ui (xh_ui σ 53 42 a1) 53 43 a2) 53 44 a3) 53 45 a4) q4
        refine xp_ok htr 6 (d + 5) 0 0 [eC none (hM p s3 τ)] 191 23 [some (.ref 53), some (.int a1), some (.int a2), some (.int a3), some (.int a4)] [.int a3, .ref 53] (hM p (xh_ui (xh_ui σ 53 42 a1) 53 43 a2) τ) ⟨hc, ?_⟩
        show xv l Ω (d + 5) 0 0 191 36 [some (.ref 53), some (.int a1), some (.int a2), some (.int a3), some (.int a4)] [] (hM p s3 τ) r
        exact xp_ok htr 5 (d + 5) 0 0 [] 191 36 [some (.ref 53), some (.int a1), some (.int a2), some (.int a3), some (.int a4)] [] (hM p s3 τ) ⟨(by unfold vp_in; decide), trivial, (Eq.symm H)⟩
      · rw [q4] at H; exact False.elim H
/- AccessDeskModel.decide -/
def g189_45 (x5 : Int32) (σ : xS) : Option xQ := (match g206 σ with | some (Sum.inl v9, s10) => some ((Sum.inl (x5 + (10 * v9)), s10)) | some (Sum.inr v9, s10) => none | none => none)
def g189 (a1 : Int32) (a2 : Int32) (a3 : Int32) (a4 : Int32) (σ : xS) : xO := (match g190 a1 a2 a3 a4 σ with | some (Sum.inl v1, s2) => (if ((xh_ui s2 53 21 v1) 53 21) = 0 then (match g191 a1 a2 a3 a4 (xh_ui s2 53 21 v1) with | some (Sum.inl v5, s6) => (if v5 = 1 then g189_45 v5 s6 else (if v5 = 2 then g189_45 v5 s6 else some ((Sum.inl v5, s6)))) | some (Sum.inr v5, s6) => none | none => none) else some ((Sum.inl 0, (xh_ui s2 53 21 v1)))) | some (Sum.inr v1, s2) => none | none => none)
set_option maxRecDepth 8000 in
theorem g189_45_ok {l : Launch} {Ω : xo_O} (htr : xH l) (d : Nat) (p : Nat) (τ : Nat → Nat → Int64) (x5 : Int32) (σ : xS) (r : xv_R) (H : xo (xB false p τ r) (g189_45 x5 σ)) : xv l Ω (d + 6) 0 0 189 45 [some (.ref 53), none, none, none, none, some (.int x5)] [] (hM p σ τ) r := by
  unfold g189_45 at H
  cases q11 : g206 σ with
  | none => rw [q11] at H; exact False.elim H
  | some q110 =>
    obtain ⟨v9 | v9, s10⟩ := q110
    · rw [q11] at H; dsimp only at H
      have hc := g206_run (Ω := Ω) htr (d + 4) p τ  σ q11
      refine xp_ok htr 4 (d + 6) 0 0 [eC (some (.int v9)) (hM p s10 τ)] 189 45 [some (.ref 53), none, none, none, none, some (.int x5)] [] (hM p σ τ) ⟨hc, ?_⟩
      show xv l Ω (d + 6) 0 0 189 53 [some (.ref 53), none, none, none, none, some (.int x5)] [.int v9, .int 10, .int x5] (hM p s10 τ) r
      exact xp_ok htr 4 (d + 6) 0 0 [] 189 53 [some (.ref 53), none, none, none, none, some (.int x5)] [.int v9, .int 10, .int x5] (hM p s10 τ) ⟨trivial, (Eq.symm H)⟩
    · rw [q11] at H; exact False.elim H
set_option maxRecDepth 8000 in
theorem g189_run {l : Launch} {Ω : xo_O} (htr : xH l) (d : Nat) (p : Nat) (τ : Nat → Nat → Int64) (a1 : Int32) (a2 : Int32) (a3 : Int32) (a4 : Int32) (σ : xS) {q : xQ} (hq : g189 a1 a2 a3 a4 σ = some q) : xv l Ω (d + 6) 0 0 189 0 (xs_loc (xm_l 189) [.ref 53, .int a1, .int a2, .int a3, .int a4]) [] (hM p σ τ) (xq_R false p τ q) := by
  have H : xo (xB false p τ (xq_R false p τ q)) (g189 a1 a2 a3 a4 σ) := by rw [hq]; exact rfl
  generalize xq_R false p τ q = r at H ⊢
  show xv l Ω (d + 6) 0 0 189 0 [some (.ref 53), some (.int a1), some (.int a2), some (.int a3), some (.int a4), none] [] (hM p σ τ) r
  unfold g189 at H
  cases q3 : g190 a1 a2 a3 a4 σ with
  | none => rw [q3] at H; exact False.elim H
  | some q30 =>
    obtain ⟨v1 | v1, s2⟩ := q30
    · rw [q3] at H; dsimp only at H
      have hc := g190_run (Ω := Ω) htr (d + 4) p τ a1 a2 a3 a4 σ q3
      refine xp_ok htr 7 (d + 6) 0 0 [eC (some (.int v1)) (hM p s2 τ)] 189 0 [some (.ref 53), some (.int a1), some (.int a2), some (.int a3), some (.int a4), none] [] (hM p σ τ) ⟨hc, ?_⟩
      show xv l Ω (d + 6) 0 0 189 10 [some (.ref 53), some (.int a1), some (.int a2), some (.int a3), some (.int a4), none] [.int v1, .ref 53] (hM p s2 τ) r
      by_cases h4 : ((xh_ui s2 53 21 v1) 53 21) = 0
      · rw [if_pos h4] at H
        refine xp_ok htr 4 (d + 6) 0 0 [eB true] 189 10 [some (.ref 53), some (.int a1), some (.int a2), some (.int a3), some (.int a4), none] [.int v1, .ref 53] (hM p s2 τ) ⟨h4, ?_⟩
        show xv l Ω (d + 6) 0 0 189 22 [some (.ref 53), some (.int a1), some (.int a2), some (.int a3), some (.int a4), none] [] (hM p (xh_ui s2 53 21 v1) τ) r
        cases q7 : g191 a1 a2 a3 a4 (xh_ui s2 53 21 v1) with
        | none => rw [q7] at H; exact False.elim H
        | some q70 =>
          obtain ⟨v5 | v5, s6⟩ := q70
          · rw [q7] at H; dsimp only at H
            have hc := g191_run (Ω := Ω) htr d p τ a1 a2 a3 a4 (xh_ui s2 53 21 v1) q7
            refine xp_ok htr 6 (d + 6) 0 0 [eC (some (.int v5)) (hM p s6 τ)] 189 22 [some (.ref 53), some (.int a1), some (.int a2), some (.int a3), some (.int a4), none] [] (hM p (xh_ui s2 53 21 v1) τ) ⟨hc, ?_⟩
            show xv l Ω (d + 6) 0 0 189 31 [some (.ref 53), some (.int a1), some (.int a2), some (.int a3), some (.int a4), none] [.int v5] (hM p s6 τ) r
            by_cases h8 : v5 = 1
            · rw [if_pos h8] at H
              refine xp_ok htr 4 (d + 6) 0 0 [eB true] 189 31 [some (.ref 53), some (.int a1), some (.int a2), some (.int a3), some (.int a4), none] [.int v5] (hM p s6 τ) ⟨h8, ?_⟩
              show xv l Ω (d + 6) 0 0 189 45 [some (.ref 53), some (.int a1), some (.int a2), some (.int a3), some (.int a4), some (.int v5)] [] (hM p s6 τ) r
              have h9 := g189_45_ok (Ω := Ω) htr d p τ _ _ r H
              exact xv_sub (L' := [some (.ref 53), none, none, none, none, some (.int v5)]) ⟨rfl, ⟨rfl, trivial⟩⟩ h9
            · rw [if_neg h8] at H
              refine xp_ok htr 4 (d + 6) 0 0 [eB false] 189 31 [some (.ref 53), some (.int a1), some (.int a2), some (.int a3), some (.int a4), none] [.int v5] (hM p s6 τ) ⟨h8, ?_⟩
              show xv l Ω (d + 6) 0 0 189 39 [some (.ref 53), some (.int a1), some (.int a2), some (.int a3), some (.int a4), some (.int v5)] [] (hM p s6 τ) r
              by_cases h12 : v5 = 2
              · rw [if_pos h12] at H
                refine xp_ok htr 3 (d + 6) 0 0 [eB false] 189 39 [some (.ref 53), some (.int a1), some (.int a2), some (.int a3), some (.int a4), some (.int v5)] [] (hM p s6 τ) ⟨h12, ?_⟩
                show xv l Ω (d + 6) 0 0 189 45 [some (.ref 53), some (.int a1), some (.int a2), some (.int a3), some (.int a4), some (.int v5)] [] (hM p s6 τ) r
                have h9 := g189_45_ok (Ω := Ω) htr d p τ _ _ r H
                exact xv_sub (L' := [some (.ref 53), none, none, none, none, some (.int v5)]) ⟨rfl, ⟨rfl, trivial⟩⟩ h9
              · rw [if_neg h12] at H
                refine xp_ok htr 3 (d + 6) 0 0 [eB true] 189 39 [some (.ref 53), some (.int a1), some (.int a2), some (.int a3), some (.int a4), some (.int v5)] [] (hM p s6 τ) ⟨h12, ?_⟩
                show xv l Ω (d + 6) 0 0 189 58 [some (.ref 53), some (.int a1), some (.int a2), some (.int a3), some (.int a4), some (.int v5)] [] (hM p s6 τ) r
                exact xp_ok htr 2 (d + 6) 0 0 [] 189 58 [some (.ref 53), some (.int a1), some (.int a2), some (.int a3), some (.int a4), some (.int v5)] [] (hM p s6 τ) ⟨trivial, (Eq.symm H)⟩
          · rw [q7] at H; exact False.elim H
      · rw [if_neg h4] at H
        refine xp_ok htr 4 (d + 6) 0 0 [eB false] 189 10 [some (.ref 53), some (.int a1), some (.int a2), some (.int a3), some (.int a4), none] [.int v1, .ref 53] (hM p s2 τ) ⟨h4, ?_⟩
        show xv l Ω (d + 6) 0 0 189 20 [some (.ref 53), some (.int a1), some (.int a2), some (.int a3), some (.int a4), none] [] (hM p (xh_ui s2 53 21 v1) τ) r
        exact xp_ok htr 2 (d + 6) 0 0 [] 189 20 [some (.ref 53), some (.int a1), some (.int a2), some (.int a3), some (.int a4), none] [] (hM p (xh_ui s2 53 21 v1) τ) ⟨trivial, (Eq.symm H)⟩
    · rw [q3] at H; exact False.elim H
/- AccessDeskModel.request -/
def g207_161 (x6 : Int32) (σ : xS) : Option xQ := (bif xn x6 16 then some ((Sum.inl (σ 68 (Int32.toNatClampNeg x6)), σ)) else none)
def g207_143 (x4 : Int32) (x5 : Int32) (x6 : Int32) (σ : xS) : Option xQ := (if x5 = 2 then (bif xn x6 16 then g207_161 x6 (xh_ui σ 68 (Int32.toNatClampNeg x6) ((σ 68 (Int32.toNatClampNeg x6)) + x4)) else none) else g207_161 x6 σ)
def g207_118 (x4 : Int32) (x5 : Int32) (x6 : Int32) (x9 : Int32) (k1 : Int32) (σ : xS) : Option xQ := (if x9 = 0 then some ((Sum.inl 0, (xh_ui σ 53 21 k1))) else (if x5 = 1 then (bif xn x6 16 then g207_143 x4 x5 x6 (xh_ui (xh_ui σ 53 21 k1) 68 (Int32.toNatClampNeg x6) x4) else none) else g207_143 x4 x5 x6 (xh_ui σ 53 21 k1)))
def g207_90 (x1 : Int32) (x4 : Int32) (x5 : Int32) (x6 : Int32) (x7 : Int32) (x8 : Int32) (k0 : Int32) (σ : xS) : Option xQ := (match g209 x1 x5 x6 x7 x8 k0 σ with | some (Sum.inl v17, s18) => (if k0 = 0 then g207_118 x4 x5 x6 k0 3 s18 else g207_118 x4 x5 x6 k0 0 s18) | some (Sum.inr v17, s18) => none | none => none)
def g207_89 (x1 : Int32) (x4 : Int32) (x5 : Int32) (x6 : Int32) (x7 : Int32) (x8 : Int32) (σ : xS) : Option xQ := g207_90 x1 x4 x5 x6 x7 x8 0 σ
def g207_66 (x1 : Int32) (x3 : Int32) (x4 : Int32) (x5 : Int32) (x6 : Int32) (x7 : Int32) (k0 : Int32) (σ : xS) : Option xQ := (if x7 = 1 then (match g208 k0 x1 x3 σ with | some (Sum.inl v13, s14) => (if v13 = 0 then g207_89 x1 x4 x5 x6 x7 k0 s14 else g207_90 x1 x4 x5 x6 x7 k0 1 s14) | some (Sum.inr v13, s14) => none | none => none) else g207_89 x1 x4 x5 x6 x7 k0 σ)
def g207_58 (x1 : Int32) (x3 : Int32) (x4 : Int32) (x5 : Int32) (x6 : Int32) (x7 : Int32) (σ : xS) : Option xQ := (match g206 σ with | some (Sum.inl v9, s10) => g207_66 x1 x3 x4 x5 x6 x7 v9 s10 | some (Sum.inr v9, s10) => none | none => none)
def g207 (a1 : Int32) (a2 : Int32) (a3 : Int32) (a4 : Int32) (σ : xS) : xO := (match g190 a1 (a2 >>> (4 &&& 31)) (a2 &&& 15) a3 σ with | some (Sum.inl v1, s2) => (if ((xh_ui s2 53 21 v1) 53 21) = 0 then (match g191 a1 (a2 >>> (4 &&& 31)) (a2 &&& 15) a3 (xh_ui s2 53 21 v1) with | some (Sum.inl v5, s6) => (if v5 = 1 then g207_58 a1 a3 a4 (a2 >>> (4 &&& 31)) (a2 &&& 15) v5 s6 else (if v5 = 2 then g207_58 a1 a3 a4 (a2 >>> (4 &&& 31)) (a2 &&& 15) v5 s6 else g207_66 a1 a3 a4 (a2 >>> (4 &&& 31)) (a2 &&& 15) v5 0 s6)) | some (Sum.inr v5, s6) => none | none => none) else some ((Sum.inl 0, (xh_ui s2 53 21 v1)))) | some (Sum.inr v1, s2) => none | none => none)
set_option maxRecDepth 8000 in
theorem g207_161_ok {l : Launch} {Ω : xo_O} (htr : xH l) (d : Nat) (p : Nat) (τ : Nat → Nat → Int64) (x6 : Int32) (σ : xS) (r : xv_R) (H : xo (xB false p τ r) (g207_161 x6 σ)) : xv l Ω (d + 6) 0 0 207 161 [some (.ref 53), none, none, none, none, none, some (.int x6), none, none, none] [] (hM p σ τ) r := by
  unfold g207_161 at H
  cases g26 : xn x6 16 with
  | false => rw [g26, cond_false] at H; exact False.elim H
  | true =>
    rw [g26, cond_true] at H
    exact xp_ok htr 5 (d + 6) 0 0 [] 207 161 [some (.ref 53), none, none, none, none, none, some (.int x6), none, none, none] [] (hM p σ τ) ⟨(xn_in g26), trivial, (Eq.symm H)⟩
set_option maxRecDepth 8000 in
theorem g207_143_ok {l : Launch} {Ω : xo_O} (htr : xH l) (d : Nat) (p : Nat) (τ : Nat → Nat → Int64) (x4 : Int32) (x5 : Int32) (x6 : Int32) (σ : xS) (r : xv_R) (H : xo (xB false p τ r) (g207_143 x4 x5 x6 σ)) : xv l Ω (d + 6) 0 0 207 143 [some (.ref 53), none, none, none, some (.int x4), some (.int x5), some (.int x6), none, none, none] [] (hM p σ τ) r := by
  unfold g207_143 at H
  by_cases h24 : x5 = 2
  · rw [if_pos h24] at H
    refine xp_ok htr 3 (d + 6) 0 0 [eB false] 207 143 [some (.ref 53), none, none, none, some (.int x4), some (.int x5), some (.int x6), none, none, none] [] (hM p σ τ) ⟨h24, ?_⟩
    show xv l Ω (d + 6) 0 0 207 149 [some (.ref 53), none, none, none, some (.int x4), some (.int x5), some (.int x6), none, none, none] [] (hM p σ τ) r
    cases g25 : xn x6 16 with
    | false => rw [g25, cond_false] at H; exact False.elim H
    | true =>
      rw [g25, cond_true] at H
      refine xp_ok htr 8 (d + 6) 0 0 [] 207 149 [some (.ref 53), none, none, none, some (.int x4), some (.int x5), some (.int x6), none, none, none] [] (hM p σ τ) ⟨(xn_in g25), (xn_in g25), ?_⟩
      show xv l Ω (d + 6) 0 0 207 161 [some (.ref 53), none, none, none, some (.int x4), some (.int x5), some (.int x6), none, none, none] [] (hM p (xh_ui σ 68 (Int32.toNatClampNeg x6) ((σ 68 (Int32.toNatClampNeg x6)) + x4)) τ) r
      have h9 := g207_161_ok (Ω := Ω) htr d p τ _ _ r H
      exact xv_sub (L' := [some (.ref 53), none, none, none, none, none, some (.int x6), none, none, none]) ⟨rfl, ⟨rfl, trivial⟩⟩ h9
  · rw [if_neg h24] at H
    refine xp_ok htr 3 (d + 6) 0 0 [eB true] 207 143 [some (.ref 53), none, none, none, some (.int x4), some (.int x5), some (.int x6), none, none, none] [] (hM p σ τ) ⟨h24, ?_⟩
    show xv l Ω (d + 6) 0 0 207 161 [some (.ref 53), none, none, none, some (.int x4), some (.int x5), some (.int x6), none, none, none] [] (hM p σ τ) r
    have h9 := g207_161_ok (Ω := Ω) htr d p τ _ _ r H
    exact xv_sub (L' := [some (.ref 53), none, none, none, none, none, some (.int x6), none, none, none]) ⟨rfl, ⟨rfl, trivial⟩⟩ h9
set_option maxRecDepth 8000 in
theorem g207_118_ok {l : Launch} {Ω : xo_O} (htr : xH l) (d : Nat) (p : Nat) (τ : Nat → Nat → Int64) (x4 : Int32) (x5 : Int32) (x6 : Int32) (x9 : Int32) (k1 : Int32) (σ : xS) (r : xv_R) (H : xo (xB false p τ r) (g207_118 x4 x5 x6 x9 k1 σ)) : xv l Ω (d + 6) 0 0 207 118 [some (.ref 53), none, none, none, some (.int x4), some (.int x5), some (.int x6), none, none, some (.int x9)] [.int k1, .ref 53] (hM p σ τ) r := by
  unfold g207_118 at H
  by_cases h21 : x9 = 0
  · rw [if_pos h21] at H
    refine xp_ok htr 3 (d + 6) 0 0 [eB false] 207 118 [some (.ref 53), none, none, none, some (.int x4), some (.int x5), some (.int x6), none, none, some (.int x9)] [.int k1, .ref 53] (hM p σ τ) ⟨h21, ?_⟩
    show xv l Ω (d + 6) 0 0 207 126 [some (.ref 53), none, none, none, some (.int x4), some (.int x5), some (.int x6), none, none, some (.int x9)] [] (hM p (xh_ui σ 53 21 k1) τ) r
    exact xp_ok htr 2 (d + 6) 0 0 [] 207 126 [some (.ref 53), none, none, none, some (.int x4), some (.int x5), some (.int x6), none, none, some (.int x9)] [] (hM p (xh_ui σ 53 21 k1) τ) ⟨trivial, (Eq.symm H)⟩
  · rw [if_neg h21] at H
    refine xp_ok htr 3 (d + 6) 0 0 [eB true] 207 118 [some (.ref 53), none, none, none, some (.int x4), some (.int x5), some (.int x6), none, none, some (.int x9)] [.int k1, .ref 53] (hM p σ τ) ⟨h21, ?_⟩
    show xv l Ω (d + 6) 0 0 207 128 [some (.ref 53), none, none, none, some (.int x4), some (.int x5), some (.int x6), none, none, some (.int x9)] [] (hM p (xh_ui σ 53 21 k1) τ) r
    by_cases h22 : x5 = 1
    · rw [if_pos h22] at H
      refine xp_ok htr 3 (d + 6) 0 0 [eB false] 207 128 [some (.ref 53), none, none, none, some (.int x4), some (.int x5), some (.int x6), none, none, some (.int x9)] [] (hM p (xh_ui σ 53 21 k1) τ) ⟨h22, ?_⟩
      show xv l Ω (d + 6) 0 0 207 134 [some (.ref 53), none, none, none, some (.int x4), some (.int x5), some (.int x6), none, none, some (.int x9)] [] (hM p (xh_ui σ 53 21 k1) τ) r
      cases g23 : xn x6 16 with
      | false => rw [g23, cond_false] at H; exact False.elim H
      | true =>
        rw [g23, cond_true] at H
        refine xp_ok htr 5 (d + 6) 0 0 [] 207 134 [some (.ref 53), none, none, none, some (.int x4), some (.int x5), some (.int x6), none, none, some (.int x9)] [] (hM p (xh_ui σ 53 21 k1) τ) ⟨(xn_in g23), ?_⟩
        show xv l Ω (d + 6) 0 0 207 143 [some (.ref 53), none, none, none, some (.int x4), some (.int x5), some (.int x6), none, none, some (.int x9)] [] (hM p (xh_ui (xh_ui σ 53 21 k1) 68 (Int32.toNatClampNeg x6) x4) τ) r
        have h9 := g207_143_ok (Ω := Ω) htr d p τ _ _ _ _ r H
        exact xv_sub (L' := [some (.ref 53), none, none, none, some (.int x4), some (.int x5), some (.int x6), none, none, none]) ⟨rfl, ⟨rfl, ⟨rfl, ⟨rfl, trivial⟩⟩⟩⟩ h9
    · rw [if_neg h22] at H
      refine xp_ok htr 3 (d + 6) 0 0 [eB true] 207 128 [some (.ref 53), none, none, none, some (.int x4), some (.int x5), some (.int x6), none, none, some (.int x9)] [] (hM p (xh_ui σ 53 21 k1) τ) ⟨h22, ?_⟩
      show xv l Ω (d + 6) 0 0 207 143 [some (.ref 53), none, none, none, some (.int x4), some (.int x5), some (.int x6), none, none, some (.int x9)] [] (hM p (xh_ui σ 53 21 k1) τ) r
      have h9 := g207_143_ok (Ω := Ω) htr d p τ _ _ _ _ r H
      exact xv_sub (L' := [some (.ref 53), none, none, none, some (.int x4), some (.int x5), some (.int x6), none, none, none]) ⟨rfl, ⟨rfl, ⟨rfl, ⟨rfl, trivial⟩⟩⟩⟩ h9
set_option maxRecDepth 8000 in
theorem g207_90_ok {l : Launch} {Ω : xo_O} (htr : xH l) (d : Nat) (p : Nat) (τ : Nat → Nat → Int64) (x1 : Int32) (x4 : Int32) (x5 : Int32) (x6 : Int32) (x7 : Int32) (x8 : Int32) (k0 : Int32) (σ : xS) (r : xv_R) (H : xo (xB false p τ r) (g207_90 x1 x4 x5 x6 x7 x8 k0 σ)) : xv l Ω (d + 6) 0 0 207 90 [some (.ref 53), some (.int x1), none, none, some (.int x4), some (.int x5), some (.int x6), some (.int x7), some (.int x8), none] [.int k0] (hM p σ τ) r := by
  unfold g207_90 at H
  refine xp_ok htr 8 (d + 6) 0 0 [] 207 90 [some (.ref 53), some (.int x1), none, none, some (.int x4), some (.int x5), some (.int x6), some (.int x7), some (.int x8), none] [.int k0] (hM p σ τ) ?_
  show xv l Ω (d + 6) 0 0 207 104 [some (.ref 53), some (.int x1), none, none, some (.int x4), some (.int x5), some (.int x6), some (.int x7), some (.int x8), some (.int k0)] [.int k0, .int x8, .int x7, .int x6, .int x5, .int x1, .ref 53] (hM p σ τ) r
  cases q19 : g209 x1 x5 x6 x7 x8 k0 σ with
  | none => rw [q19] at H; exact False.elim H
  | some q190 =>
    obtain ⟨v17 | v17, s18⟩ := q190
    · rw [q19] at H; dsimp only at H
      have hc := g209_run (Ω := Ω) htr (d + 4) p τ x1 x5 x6 x7 x8 k0 σ q19
      refine xp_ok htr 1 (d + 6) 0 0 [eC none (hM p s18 τ)] 207 104 [some (.ref 53), some (.int x1), none, none, some (.int x4), some (.int x5), some (.int x6), some (.int x7), some (.int x8), some (.int k0)] [.int k0, .int x8, .int x7, .int x6, .int x5, .int x1, .ref 53] (hM p σ τ) ⟨hc, ?_⟩
      show xv l Ω (d + 6) 0 0 207 107 [some (.ref 53), some (.int x1), none, none, some (.int x4), some (.int x5), some (.int x6), some (.int x7), some (.int x8), some (.int k0)] [] (hM p s18 τ) r
      by_cases h20 : k0 = 0
      · rw [if_pos h20] at H
        refine xp_ok htr 3 (d + 6) 0 0 [eB true] 207 107 [some (.ref 53), some (.int x1), none, none, some (.int x4), some (.int x5), some (.int x6), some (.int x7), some (.int x8), some (.int k0)] [] (hM p s18 τ) ⟨h20, ?_⟩
        show xv l Ω (d + 6) 0 0 207 117 [some (.ref 53), some (.int x1), none, none, some (.int x4), some (.int x5), some (.int x6), some (.int x7), some (.int x8), some (.int k0)] [.ref 53] (hM p s18 τ) r
        refine xp_ok htr 1 (d + 6) 0 0 [] 207 117 [some (.ref 53), some (.int x1), none, none, some (.int x4), some (.int x5), some (.int x6), some (.int x7), some (.int x8), some (.int k0)] [.ref 53] (hM p s18 τ) ?_
        show xv l Ω (d + 6) 0 0 207 118 [some (.ref 53), some (.int x1), none, none, some (.int x4), some (.int x5), some (.int x6), some (.int x7), some (.int x8), some (.int k0)] [.int 3, .ref 53] (hM p s18 τ) r
        have h9 := g207_118_ok (Ω := Ω) htr d p τ _ _ _ _ _ _ r H
        exact xv_sub (L' := [some (.ref 53), none, none, none, some (.int x4), some (.int x5), some (.int x6), none, none, some (.int k0)]) ⟨rfl, ⟨rfl, ⟨rfl, ⟨rfl, ⟨rfl, trivial⟩⟩⟩⟩⟩ h9
      · rw [if_neg h20] at H
        refine xp_ok htr 3 (d + 6) 0 0 [eB false] 207 107 [some (.ref 53), some (.int x1), none, none, some (.int x4), some (.int x5), some (.int x6), some (.int x7), some (.int x8), some (.int k0)] [] (hM p s18 τ) ⟨h20, ?_⟩
        show xv l Ω (d + 6) 0 0 207 113 [some (.ref 53), some (.int x1), none, none, some (.int x4), some (.int x5), some (.int x6), some (.int x7), some (.int x8), some (.int k0)] [.ref 53] (hM p s18 τ) r
        refine xp_ok htr 2 (d + 6) 0 0 [] 207 113 [some (.ref 53), some (.int x1), none, none, some (.int x4), some (.int x5), some (.int x6), some (.int x7), some (.int x8), some (.int k0)] [.ref 53] (hM p s18 τ) ?_
        show xv l Ω (d + 6) 0 0 207 118 [some (.ref 53), some (.int x1), none, none, some (.int x4), some (.int x5), some (.int x6), some (.int x7), some (.int x8), some (.int k0)] [.int 0, .ref 53] (hM p s18 τ) r
        have h9 := g207_118_ok (Ω := Ω) htr d p τ _ _ _ _ _ _ r H
        exact xv_sub (L' := [some (.ref 53), none, none, none, some (.int x4), some (.int x5), some (.int x6), none, none, some (.int k0)]) ⟨rfl, ⟨rfl, ⟨rfl, ⟨rfl, ⟨rfl, trivial⟩⟩⟩⟩⟩ h9
    · rw [q19] at H; exact False.elim H
set_option maxRecDepth 8000 in
theorem g207_89_ok {l : Launch} {Ω : xo_O} (htr : xH l) (d : Nat) (p : Nat) (τ : Nat → Nat → Int64) (x1 : Int32) (x4 : Int32) (x5 : Int32) (x6 : Int32) (x7 : Int32) (x8 : Int32) (σ : xS) (r : xv_R) (H : xo (xB false p τ r) (g207_89 x1 x4 x5 x6 x7 x8 σ)) : xv l Ω (d + 6) 0 0 207 89 [some (.ref 53), some (.int x1), none, none, some (.int x4), some (.int x5), some (.int x6), some (.int x7), some (.int x8), none] [] (hM p σ τ) r := by
  unfold g207_89 at H
  refine xp_ok htr 1 (d + 6) 0 0 [] 207 89 [some (.ref 53), some (.int x1), none, none, some (.int x4), some (.int x5), some (.int x6), some (.int x7), some (.int x8), none] [] (hM p σ τ) ?_
  show xv l Ω (d + 6) 0 0 207 90 [some (.ref 53), some (.int x1), none, none, some (.int x4), some (.int x5), some (.int x6), some (.int x7), some (.int x8), none] [.int 0] (hM p σ τ) r
  have h9 := g207_90_ok (Ω := Ω) htr d p τ _ _ _ _ _ _ _ _ r H
  exact xv_sub (L' := [some (.ref 53), some (.int x1), none, none, some (.int x4), some (.int x5), some (.int x6), some (.int x7), some (.int x8), none]) ⟨rfl, ⟨rfl, ⟨rfl, ⟨rfl, ⟨rfl, ⟨rfl, ⟨rfl, trivial⟩⟩⟩⟩⟩⟩⟩ h9
set_option maxRecDepth 8000 in
theorem g207_66_ok {l : Launch} {Ω : xo_O} (htr : xH l) (d : Nat) (p : Nat) (τ : Nat → Nat → Int64) (x1 : Int32) (x3 : Int32) (x4 : Int32) (x5 : Int32) (x6 : Int32) (x7 : Int32) (k0 : Int32) (σ : xS) (r : xv_R) (H : xo (xB false p τ r) (g207_66 x1 x3 x4 x5 x6 x7 k0 σ)) : xv l Ω (d + 6) 0 0 207 66 [some (.ref 53), some (.int x1), none, some (.int x3), some (.int x4), some (.int x5), some (.int x6), some (.int x7), none, none] [.int k0] (hM p σ τ) r := by
  unfold g207_66 at H
  by_cases h12 : x7 = 1
  · rw [if_pos h12] at H
    refine xp_ok htr 4 (d + 6) 0 0 [eB false] 207 66 [some (.ref 53), some (.int x1), none, some (.int x3), some (.int x4), some (.int x5), some (.int x6), some (.int x7), none, none] [.int k0] (hM p σ τ) ⟨h12, ?_⟩
    show xv l Ω (d + 6) 0 0 207 74 [some (.ref 53), some (.int x1), none, some (.int x3), some (.int x4), some (.int x5), some (.int x6), some (.int x7), some (.int k0), none] [] (hM p σ τ) r
    cases q15 : g208 k0 x1 x3 σ with
    | none => rw [q15] at H; exact False.elim H
    | some q150 =>
      obtain ⟨v13 | v13, s14⟩ := q150
      · rw [q15] at H; dsimp only at H
        have hc := g208_run (Ω := Ω) htr (d + 5) p τ k0 x1 x3 σ q15
        refine xp_ok htr 5 (d + 6) 0 0 [eC (some (.int v13)) (hM p s14 τ)] 207 74 [some (.ref 53), some (.int x1), none, some (.int x3), some (.int x4), some (.int x5), some (.int x6), some (.int x7), some (.int k0), none] [] (hM p σ τ) ⟨hc, ?_⟩
        show xv l Ω (d + 6) 0 0 207 82 [some (.ref 53), some (.int x1), none, some (.int x3), some (.int x4), some (.int x5), some (.int x6), some (.int x7), some (.int k0), none] [.int v13] (hM p s14 τ) r
        by_cases h16 : v13 = 0
        · rw [if_pos h16] at H
          refine xp_ok htr 1 (d + 6) 0 0 [eB true] 207 82 [some (.ref 53), some (.int x1), none, some (.int x3), some (.int x4), some (.int x5), some (.int x6), some (.int x7), some (.int k0), none] [.int v13] (hM p s14 τ) ⟨h16, ?_⟩
          show xv l Ω (d + 6) 0 0 207 89 [some (.ref 53), some (.int x1), none, some (.int x3), some (.int x4), some (.int x5), some (.int x6), some (.int x7), some (.int k0), none] [] (hM p s14 τ) r
          have h9 := g207_89_ok (Ω := Ω) htr d p τ _ _ _ _ _ _ _ r H
          exact xv_sub (L' := [some (.ref 53), some (.int x1), none, none, some (.int x4), some (.int x5), some (.int x6), some (.int x7), some (.int k0), none]) ⟨rfl, ⟨rfl, ⟨rfl, ⟨rfl, ⟨rfl, ⟨rfl, ⟨rfl, trivial⟩⟩⟩⟩⟩⟩⟩ h9
        · rw [if_neg h16] at H
          refine xp_ok htr 1 (d + 6) 0 0 [eB false] 207 82 [some (.ref 53), some (.int x1), none, some (.int x3), some (.int x4), some (.int x5), some (.int x6), some (.int x7), some (.int k0), none] [.int v13] (hM p s14 τ) ⟨h16, ?_⟩
          show xv l Ω (d + 6) 0 0 207 85 [some (.ref 53), some (.int x1), none, some (.int x3), some (.int x4), some (.int x5), some (.int x6), some (.int x7), some (.int k0), none] [] (hM p s14 τ) r
          refine xp_ok htr 2 (d + 6) 0 0 [] 207 85 [some (.ref 53), some (.int x1), none, some (.int x3), some (.int x4), some (.int x5), some (.int x6), some (.int x7), some (.int k0), none] [] (hM p s14 τ) ?_
          show xv l Ω (d + 6) 0 0 207 90 [some (.ref 53), some (.int x1), none, some (.int x3), some (.int x4), some (.int x5), some (.int x6), some (.int x7), some (.int k0), none] [.int 1] (hM p s14 τ) r
          have h9 := g207_90_ok (Ω := Ω) htr d p τ _ _ _ _ _ _ _ _ r H
          exact xv_sub (L' := [some (.ref 53), some (.int x1), none, none, some (.int x4), some (.int x5), some (.int x6), some (.int x7), some (.int k0), none]) ⟨rfl, ⟨rfl, ⟨rfl, ⟨rfl, ⟨rfl, ⟨rfl, ⟨rfl, trivial⟩⟩⟩⟩⟩⟩⟩ h9
      · rw [q15] at H; exact False.elim H
  · rw [if_neg h12] at H
    refine xp_ok htr 4 (d + 6) 0 0 [eB true] 207 66 [some (.ref 53), some (.int x1), none, some (.int x3), some (.int x4), some (.int x5), some (.int x6), some (.int x7), none, none] [.int k0] (hM p σ τ) ⟨h12, ?_⟩
    show xv l Ω (d + 6) 0 0 207 89 [some (.ref 53), some (.int x1), none, some (.int x3), some (.int x4), some (.int x5), some (.int x6), some (.int x7), some (.int k0), none] [] (hM p σ τ) r
    have h9 := g207_89_ok (Ω := Ω) htr d p τ _ _ _ _ _ _ _ r H
    exact xv_sub (L' := [some (.ref 53), some (.int x1), none, none, some (.int x4), some (.int x5), some (.int x6), some (.int x7), some (.int k0), none]) ⟨rfl, ⟨rfl, ⟨rfl, ⟨rfl, ⟨rfl, ⟨rfl, ⟨rfl, trivial⟩⟩⟩⟩⟩⟩⟩ h9
set_option maxRecDepth 8000 in
theorem g207_58_ok {l : Launch} {Ω : xo_O} (htr : xH l) (d : Nat) (p : Nat) (τ : Nat → Nat → Int64) (x1 : Int32) (x3 : Int32) (x4 : Int32) (x5 : Int32) (x6 : Int32) (x7 : Int32) (σ : xS) (r : xv_R) (H : xo (xB false p τ r) (g207_58 x1 x3 x4 x5 x6 x7 σ)) : xv l Ω (d + 6) 0 0 207 58 [some (.ref 53), some (.int x1), none, some (.int x3), some (.int x4), some (.int x5), some (.int x6), some (.int x7), none, none] [] (hM p σ τ) r := by
  unfold g207_58 at H
  cases q11 : g206 σ with
  | none => rw [q11] at H; exact False.elim H
  | some q110 =>
    obtain ⟨v9 | v9, s10⟩ := q110
    · rw [q11] at H; dsimp only at H
      have hc := g206_run (Ω := Ω) htr (d + 4) p τ  σ q11
      refine xp_ok htr 2 (d + 6) 0 0 [eC (some (.int v9)) (hM p s10 τ)] 207 58 [some (.ref 53), some (.int x1), none, some (.int x3), some (.int x4), some (.int x5), some (.int x6), some (.int x7), none, none] [] (hM p σ τ) ⟨hc, ?_⟩
      show xv l Ω (d + 6) 0 0 207 62 [some (.ref 53), some (.int x1), none, some (.int x3), some (.int x4), some (.int x5), some (.int x6), some (.int x7), none, none] [.int v9] (hM p s10 τ) r
      refine xp_ok htr 1 (d + 6) 0 0 [] 207 62 [some (.ref 53), some (.int x1), none, some (.int x3), some (.int x4), some (.int x5), some (.int x6), some (.int x7), none, none] [.int v9] (hM p s10 τ) ?_
      show xv l Ω (d + 6) 0 0 207 66 [some (.ref 53), some (.int x1), none, some (.int x3), some (.int x4), some (.int x5), some (.int x6), some (.int x7), none, none] [.int v9] (hM p s10 τ) r
      have h9 := g207_66_ok (Ω := Ω) htr d p τ _ _ _ _ _ _ _ _ r H
      exact xv_sub (L' := [some (.ref 53), some (.int x1), none, some (.int x3), some (.int x4), some (.int x5), some (.int x6), some (.int x7), none, none]) ⟨rfl, ⟨rfl, ⟨rfl, ⟨rfl, ⟨rfl, ⟨rfl, ⟨rfl, trivial⟩⟩⟩⟩⟩⟩⟩ h9
    · rw [q11] at H; exact False.elim H
set_option maxRecDepth 8000 in
theorem g207_run {l : Launch} {Ω : xo_O} (htr : xH l) (d : Nat) (p : Nat) (τ : Nat → Nat → Int64) (a1 : Int32) (a2 : Int32) (a3 : Int32) (a4 : Int32) (σ : xS) {q : xQ} (hq : g207 a1 a2 a3 a4 σ = some q) : xv l Ω (d + 6) 0 0 207 0 (xs_loc (xm_l 207) [.ref 53, .int a1, .int a2, .int a3, .int a4]) [] (hM p σ τ) (xq_R false p τ q) := by
  have H : xo (xB false p τ (xq_R false p τ q)) (g207 a1 a2 a3 a4 σ) := by rw [hq]; exact rfl
  generalize xq_R false p τ q = r at H ⊢
  show xv l Ω (d + 6) 0 0 207 0 [some (.ref 53), some (.int a1), some (.int a2), some (.int a3), some (.int a4), none, none, none, none, none] [] (hM p σ τ) r
  unfold g207 at H
  refine xp_ok htr 8 (d + 6) 0 0 [] 207 0 [some (.ref 53), some (.int a1), some (.int a2), some (.int a3), some (.int a4), none, none, none, none, none] [] (hM p σ τ) ?_
  show xv l Ω (d + 6) 0 0 207 11 [some (.ref 53), some (.int a1), some (.int a2), some (.int a3), some (.int a4), some (.int (a2 >>> (4 &&& 31))), some (.int (a2 &&& 15)), none, none, none] [] (hM p σ τ) r
  cases q3 : g190 a1 (a2 >>> (4 &&& 31)) (a2 &&& 15) a3 σ with
  | none => rw [q3] at H; exact False.elim H
  | some q30 =>
    obtain ⟨v1 | v1, s2⟩ := q30
    · rw [q3] at H; dsimp only at H
      have hc := g190_run (Ω := Ω) htr (d + 4) p τ a1 (a2 >>> (4 &&& 31)) (a2 &&& 15) a3 σ q3
      refine xp_ok htr 7 (d + 6) 0 0 [eC (some (.int v1)) (hM p s2 τ)] 207 11 [some (.ref 53), some (.int a1), some (.int a2), some (.int a3), some (.int a4), some (.int (a2 >>> (4 &&& 31))), some (.int (a2 &&& 15)), none, none, none] [] (hM p σ τ) ⟨hc, ?_⟩
      show xv l Ω (d + 6) 0 0 207 22 [some (.ref 53), some (.int a1), some (.int a2), some (.int a3), some (.int a4), some (.int (a2 >>> (4 &&& 31))), some (.int (a2 &&& 15)), none, none, none] [.int v1, .ref 53] (hM p s2 τ) r
      by_cases h4 : ((xh_ui s2 53 21 v1) 53 21) = 0
      · rw [if_pos h4] at H
        refine xp_ok htr 4 (d + 6) 0 0 [eB true] 207 22 [some (.ref 53), some (.int a1), some (.int a2), some (.int a3), some (.int a4), some (.int (a2 >>> (4 &&& 31))), some (.int (a2 &&& 15)), none, none, none] [.int v1, .ref 53] (hM p s2 τ) ⟨h4, ?_⟩
        show xv l Ω (d + 6) 0 0 207 34 [some (.ref 53), some (.int a1), some (.int a2), some (.int a3), some (.int a4), some (.int (a2 >>> (4 &&& 31))), some (.int (a2 &&& 15)), none, none, none] [] (hM p (xh_ui s2 53 21 v1) τ) r
        cases q7 : g191 a1 (a2 >>> (4 &&& 31)) (a2 &&& 15) a3 (xh_ui s2 53 21 v1) with
        | none => rw [q7] at H; exact False.elim H
        | some q70 =>
          obtain ⟨v5 | v5, s6⟩ := q70
          · rw [q7] at H; dsimp only at H
            have hc := g191_run (Ω := Ω) htr d p τ a1 (a2 >>> (4 &&& 31)) (a2 &&& 15) a3 (xh_ui s2 53 21 v1) q7
            refine xp_ok htr 6 (d + 6) 0 0 [eC (some (.int v5)) (hM p s6 τ)] 207 34 [some (.ref 53), some (.int a1), some (.int a2), some (.int a3), some (.int a4), some (.int (a2 >>> (4 &&& 31))), some (.int (a2 &&& 15)), none, none, none] [] (hM p (xh_ui s2 53 21 v1) τ) ⟨hc, ?_⟩
            show xv l Ω (d + 6) 0 0 207 44 [some (.ref 53), some (.int a1), some (.int a2), some (.int a3), some (.int a4), some (.int (a2 >>> (4 &&& 31))), some (.int (a2 &&& 15)), none, none, none] [.int v5] (hM p s6 τ) r
            by_cases h8 : v5 = 1
            · rw [if_pos h8] at H
              refine xp_ok htr 4 (d + 6) 0 0 [eB true] 207 44 [some (.ref 53), some (.int a1), some (.int a2), some (.int a3), some (.int a4), some (.int (a2 >>> (4 &&& 31))), some (.int (a2 &&& 15)), none, none, none] [.int v5] (hM p s6 τ) ⟨h8, ?_⟩
              show xv l Ω (d + 6) 0 0 207 58 [some (.ref 53), some (.int a1), some (.int a2), some (.int a3), some (.int a4), some (.int (a2 >>> (4 &&& 31))), some (.int (a2 &&& 15)), some (.int v5), none, none] [] (hM p s6 τ) r
              have h9 := g207_58_ok (Ω := Ω) htr d p τ _ _ _ _ _ _ _ r H
              exact xv_sub (L' := [some (.ref 53), some (.int a1), none, some (.int a3), some (.int a4), some (.int (a2 >>> (4 &&& 31))), some (.int (a2 &&& 15)), some (.int v5), none, none]) ⟨rfl, ⟨rfl, ⟨rfl, ⟨rfl, ⟨rfl, ⟨rfl, ⟨rfl, trivial⟩⟩⟩⟩⟩⟩⟩ h9
            · rw [if_neg h8] at H
              refine xp_ok htr 4 (d + 6) 0 0 [eB false] 207 44 [some (.ref 53), some (.int a1), some (.int a2), some (.int a3), some (.int a4), some (.int (a2 >>> (4 &&& 31))), some (.int (a2 &&& 15)), none, none, none] [.int v5] (hM p s6 τ) ⟨h8, ?_⟩
              show xv l Ω (d + 6) 0 0 207 52 [some (.ref 53), some (.int a1), some (.int a2), some (.int a3), some (.int a4), some (.int (a2 >>> (4 &&& 31))), some (.int (a2 &&& 15)), some (.int v5), none, none] [] (hM p s6 τ) r
              by_cases h27 : v5 = 2
              · rw [if_pos h27] at H
                refine xp_ok htr 3 (d + 6) 0 0 [eB false] 207 52 [some (.ref 53), some (.int a1), some (.int a2), some (.int a3), some (.int a4), some (.int (a2 >>> (4 &&& 31))), some (.int (a2 &&& 15)), some (.int v5), none, none] [] (hM p s6 τ) ⟨h27, ?_⟩
                show xv l Ω (d + 6) 0 0 207 58 [some (.ref 53), some (.int a1), some (.int a2), some (.int a3), some (.int a4), some (.int (a2 >>> (4 &&& 31))), some (.int (a2 &&& 15)), some (.int v5), none, none] [] (hM p s6 τ) r
                have h9 := g207_58_ok (Ω := Ω) htr d p τ _ _ _ _ _ _ _ r H
                exact xv_sub (L' := [some (.ref 53), some (.int a1), none, some (.int a3), some (.int a4), some (.int (a2 >>> (4 &&& 31))), some (.int (a2 &&& 15)), some (.int v5), none, none]) ⟨rfl, ⟨rfl, ⟨rfl, ⟨rfl, ⟨rfl, ⟨rfl, ⟨rfl, trivial⟩⟩⟩⟩⟩⟩⟩ h9
              · rw [if_neg h27] at H
                refine xp_ok htr 3 (d + 6) 0 0 [eB true] 207 52 [some (.ref 53), some (.int a1), some (.int a2), some (.int a3), some (.int a4), some (.int (a2 >>> (4 &&& 31))), some (.int (a2 &&& 15)), some (.int v5), none, none] [] (hM p s6 τ) ⟨h27, ?_⟩
                show xv l Ω (d + 6) 0 0 207 65 [some (.ref 53), some (.int a1), some (.int a2), some (.int a3), some (.int a4), some (.int (a2 >>> (4 &&& 31))), some (.int (a2 &&& 15)), some (.int v5), none, none] [] (hM p s6 τ) r
                refine xp_ok htr 1 (d + 6) 0 0 [] 207 65 [some (.ref 53), some (.int a1), some (.int a2), some (.int a3), some (.int a4), some (.int (a2 >>> (4 &&& 31))), some (.int (a2 &&& 15)), some (.int v5), none, none] [] (hM p s6 τ) ?_
                show xv l Ω (d + 6) 0 0 207 66 [some (.ref 53), some (.int a1), some (.int a2), some (.int a3), some (.int a4), some (.int (a2 >>> (4 &&& 31))), some (.int (a2 &&& 15)), some (.int v5), none, none] [.int 0] (hM p s6 τ) r
                have h9 := g207_66_ok (Ω := Ω) htr d p τ _ _ _ _ _ _ _ _ r H
                exact xv_sub (L' := [some (.ref 53), some (.int a1), none, some (.int a3), some (.int a4), some (.int (a2 >>> (4 &&& 31))), some (.int (a2 &&& 15)), some (.int v5), none, none]) ⟨rfl, ⟨rfl, ⟨rfl, ⟨rfl, ⟨rfl, ⟨rfl, ⟨rfl, trivial⟩⟩⟩⟩⟩⟩⟩ h9
          · rw [q7] at H; exact False.elim H
      · rw [if_neg h4] at H
        refine xp_ok htr 4 (d + 6) 0 0 [eB false] 207 22 [some (.ref 53), some (.int a1), some (.int a2), some (.int a3), some (.int a4), some (.int (a2 >>> (4 &&& 31))), some (.int (a2 &&& 15)), none, none, none] [.int v1, .ref 53] (hM p s2 τ) ⟨h4, ?_⟩
        show xv l Ω (d + 6) 0 0 207 32 [some (.ref 53), some (.int a1), some (.int a2), some (.int a3), some (.int a4), some (.int (a2 >>> (4 &&& 31))), some (.int (a2 &&& 15)), none, none, none] [] (hM p (xh_ui s2 53 21 v1) τ) r
        exact xp_ok htr 2 (d + 6) 0 0 [] 207 32 [some (.ref 53), some (.int a1), some (.int a2), some (.int a3), some (.int a4), some (.int (a2 >>> (4 &&& 31))), some (.int (a2 &&& 15)), none, none, none] [] (hM p (xh_ui s2 53 21 v1) τ) ⟨trivial, (Eq.symm H)⟩
    · rw [q3] at H; exact False.elim H
