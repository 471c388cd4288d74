/-! the methods as functions: laid by program (wip/whole/dec.py) -/
/- AccessDeskModel.onlyOne -/
def g204_61 (x1 : Int32) (x2 : Int32) (x3 : Int32) (σ : xS) : Option ((Int32 × Int32 × Int32 × xS) ⊕ xQ) := some (Sum.inl (x1, x2, (x3 + 1), σ))
def g204_38 (x1 : Int32) (x2 : Int32) (x3 : Int32) (σ : xS) : Option ((Int32 × Int32 × Int32 × xS) ⊕ xQ) := (bif xn x3 80 then (if (σ 72 (Int32.toNatClampNeg x3)) = x1 then (bif xn x3 40 then (if (σ 87 (Int32.toNatClampNeg x3)) = 1 then g204_61 x1 (x2 + 1) x3 σ else g204_61 x1 x2 x3 σ) else none) else g204_61 x1 x2 x3 σ) else none)
def g204_6b (x1 : Int32) (x2 : Int32) (x3 : Int32) (σ : xS) : Option ((Int32 × Int32 × Int32 × xS) ⊕ xQ) := (if (σ 70 0) ≤ x3 then (if x2 ≤ 1 then (if x2 = 0 then some (Sum.inr ((Sum.inl 0, σ))) else (match g205 x1 σ with | some (Sum.inl v4, s5) => (bif xn v4 40 then some (Sum.inr ((Sum.inl (s5 88 (Int32.toNatClampNeg v4)), s5))) else none) | some (Sum.inr v4, s5) => none | none => none)) else some (Sum.inr ((Sum.inl 5, σ)))) else (bif xn x3 80 then (if (σ 72 (Int32.toNatClampNeg x3)) = x1 then (bif xn x3 40 then (if (σ 87 (Int32.toNatClampNeg x3)) = 2 then some (Sum.inr ((Sum.inl 5, σ))) else g204_38 x1 x2 x3 σ) else none) else g204_38 x1 x2 x3 σ) else none))
def g204_6 (x1 : Int32) (x2 : Int32) (x3 : Int32) (σ : xS) : Option xQ := xlo (fun a : Int32 × Int32 × Int32 × xS => g204_6b a.1 a.2.1 a.2.2.1 a.2.2.2) 1000 (x1, x2, x3, σ)
def g204 (a1 : Int32) (σ : xS) : xO := g204_6 a1 0 (a1 + 1) σ
def a204_6 (l : Launch) (Ω : xo_O) (d p : Nat) (τ : Nat → Nat → Int64) (r : xv_R) : Int32 × Int32 × Int32 × xS → Prop := fun a => xv l Ω (d + 1) 0 0 204 6 [some (.ref 53), some (.int a.1), some (.int a.2.1), some (.int a.2.2.1)] [] (hM p a.2.2.2 τ) r
theorem g204_61_ok {l : Launch} {Ω : xo_O} (htr : xH l) (d : Nat) (p : Nat) (τ : Nat → Nat → Int64) (x1 : Int32) (x2 : Int32) (x3 : Int32) (σ : xS) (r : xv_R) (H : xo (xd (a204_6 l Ω d p τ r) (xB false p τ r)) (g204_61 x1 x2 x3 σ)) : xv l Ω (d + 1) 0 0 204 61 [some (.ref 53), some (.int x1), some (.int x2), some (.int x3)] [] (hM p σ τ) r := by
  unfold g204_61 at H
  refine xp_ok htr 2 (d + 1) 0 0 [] 204 61 [some (.ref 53), some (.int x1), some (.int x2), some (.int x3)] [] (hM p σ τ) ?_
  show xv l Ω (d + 1) 0 0 204 6 [some (.ref 53), some (.int x1), some (.int x2), some (.int (x3 + 1))] [] (hM p σ τ) r
  exact xv_sub (L' := [some (.ref 53), some (.int x1), some (.int x2), some (.int (x3 + 1))]) ⟨rfl, ⟨rfl, ⟨rfl, ⟨rfl, trivial⟩⟩⟩⟩ H
theorem g204_38_ok {l : Launch} {Ω : xo_O} (htr : xH l) (d : Nat) (p : Nat) (τ : Nat → Nat → Int64) (x1 : Int32) (x2 : Int32) (x3 : Int32) (σ : xS) (r : xv_R) (H : xo (xd (a204_6 l Ω d p τ r) (xB false p τ r)) (g204_38 x1 x2 x3 σ)) : xv l Ω (d + 1) 0 0 204 38 [some (.ref 53), some (.int x1), some (.int x2), some (.int x3)] [] (hM p σ τ) r := by
  unfold g204_38 at H
  cases g12 : xn x3 80 with
  | false => rw [g12, cond_false] at H; exact False.elim H
  | true =>
    rw [g12, cond_true] at H
    by_cases h13 : (σ 72 (Int32.toNatClampNeg x3)) = x1
    · rw [if_pos h13] at H
      refine xp_ok htr 6 (d + 1) 0 0 [eB false] 204 38 [some (.ref 53), some (.int x1), some (.int x2), some (.int x3)] [] (hM p σ τ) ⟨(xn_in g12), h13, ?_⟩
      show xv l Ω (d + 1) 0 0 204 48 [some (.ref 53), some (.int x1), some (.int x2), some (.int x3)] [] (hM p σ τ) r
      cases g14 : xn x3 40 with
      | false => rw [g14, cond_false] at H; exact False.elim H
      | true =>
        rw [g14, cond_true] at H
        by_cases h15 : (σ 87 (Int32.toNatClampNeg x3)) = 1
        · rw [if_pos h15] at H
          refine xp_ok htr 6 (d + 1) 0 0 [eB false] 204 48 [some (.ref 53), some (.int x1), some (.int x2), some (.int x3)] [] (hM p σ τ) ⟨(xn_in g14), h15, ?_⟩
          show xv l Ω (d + 1) 0 0 204 58 [some (.ref 53), some (.int x1), some (.int x2), some (.int x3)] [] (hM p σ τ) r
          refine xp_ok htr 1 (d + 1) 0 0 [] 204 58 [some (.ref 53), some (.int x1), some (.int x2), some (.int x3)] [] (hM p σ τ) ?_
          show xv l Ω (d + 1) 0 0 204 61 [some (.ref 53), some (.int x1), some (.int (x2 + 1)), some (.int x3)] [] (hM p σ τ) r
          exact xv_sub (L' := [some (.ref 53), some (.int x1), some (.int (x2 + 1)), some (.int x3)]) ⟨rfl, ⟨rfl, ⟨rfl, ⟨rfl, trivial⟩⟩⟩⟩ (g204_61_ok htr d p τ x1 (x2 + 1) x3 σ r H)
        · rw [if_neg h15] at H
          refine xp_ok htr 6 (d + 1) 0 0 [eB true] 204 48 [some (.ref 53), some (.int x1), some (.int x2), some (.int x3)] [] (hM p σ τ) ⟨(xn_in g14), h15, ?_⟩
          show xv l Ω (d + 1) 0 0 204 61 [some (.ref 53), some (.int x1), some (.int x2), some (.int x3)] [] (hM p σ τ) r
          exact xv_sub (L' := [some (.ref 53), some (.int x1), some (.int x2), some (.int x3)]) ⟨rfl, ⟨rfl, ⟨rfl, ⟨rfl, trivial⟩⟩⟩⟩ (g204_61_ok htr d p τ x1 x2 x3 σ r H)
    · rw [if_neg h13] at H
      refine xp_ok htr 6 (d + 1) 0 0 [eB true] 204 38 [some (.ref 53), some (.int x1), some (.int x2), some (.int x3)] [] (hM p σ τ) ⟨(xn_in g12), h13, ?_⟩
      show xv l Ω (d + 1) 0 0 204 61 [some (.ref 53), some (.int x1), some (.int x2), some (.int x3)] [] (hM p σ τ) r
      exact xv_sub (L' := [some (.ref 53), some (.int x1), some (.int x2), some (.int x3)]) ⟨rfl, ⟨rfl, ⟨rfl, ⟨rfl, trivial⟩⟩⟩⟩ (g204_61_ok htr d p τ x1 x2 x3 σ r H)
theorem g204_6b_ok {l : Launch} {Ω : xo_O} (htr : xH l) (d : Nat) (p : Nat) (τ : Nat → Nat → Int64) (x1 : Int32) (x2 : Int32) (x3 : Int32) (σ : xS) (r : xv_R) (H : xo (xd (a204_6 l Ω d p τ r) (xB false p τ r)) (g204_6b x1 x2 x3 σ)) : xv l Ω (d + 1) 0 0 204 6 [some (.ref 53), some (.int x1), some (.int x2), some (.int x3)] [] (hM p σ τ) r := by
  unfold g204_6b at H
  by_cases h1 : (σ 70 0) ≤ x3
  · rw [if_pos h1] at H
    refine xp_ok htr 6 (d + 1) 0 0 [eB true] 204 6 [some (.ref 53), some (.int x1), some (.int x2), some (.int x3)] [] (hM p σ τ) ⟨(by unfold vp_in; decide), h1, ?_⟩
    show xv l Ω (d + 1) 0 0 204 67 [some (.ref 53), some (.int x1), some (.int x2), some (.int x3)] [] (hM p σ τ) r
    by_cases h2 : x2 ≤ 1
    · rw [if_pos h2] at H
      refine xp_ok htr 3 (d + 1) 0 0 [eB true] 204 67 [some (.ref 53), some (.int x1), some (.int x2), some (.int x3)] [] (hM p σ τ) ⟨h2, ?_⟩
      show xv l Ω (d + 1) 0 0 204 76 [some (.ref 53), some (.int x1), some (.int x2), some (.int x3)] [] (hM p σ τ) r
      by_cases h3 : x2 = 0
      · rw [if_pos h3] at H
        refine xp_ok htr 2 (d + 1) 0 0 [eB false] 204 76 [some (.ref 53), some (.int x1), some (.int x2), some (.int x3)] [] (hM p σ τ) ⟨h3, ?_⟩
        show xv l Ω (d + 1) 0 0 204 80 [some (.ref 53), some (.int x1), some (.int x2), some (.int x3)] [] (hM p σ τ) r
        exact xp_ok htr 3 (d + 1) 0 0 [] 204 80 [some (.ref 53), some (.int x1), some (.int x2), some (.int x3)] [] (hM p σ τ) ⟨trivial, (Eq.symm H)⟩
      · rw [if_neg h3] at H
        refine xp_ok htr 2 (d + 1) 0 0 [eB true] 204 76 [some (.ref 53), some (.int x1), some (.int x2), some (.int x3)] [] (hM p σ τ) ⟨h3, ?_⟩
        show xv l Ω (d + 1) 0 0 204 84 [some (.ref 53), some (.int x1), some (.int x2), some (.int x3)] [] (hM p σ τ) r
        cases q6 : g205 x1 σ with
        | none => rw [q6] at H; exact False.elim H
        | some q60 =>
          obtain ⟨v4 | v4, s5⟩ := q60
          · rw [q6] at H; dsimp only at H
            have hc := g205_run (Ω := Ω) htr d p τ x1 σ q6
            refine xp_ok htr 5 (d + 1) 0 0 [eC (some (.int v4)) (hM p s5 τ)] 204 84 [some (.ref 53), some (.int x1), some (.int x2), some (.int x3)] [] (hM p σ τ) ⟨hc, ?_⟩
            show xv l Ω (d + 1) 0 0 204 93 [some (.ref 53), some (.int x1), some (.int x2), some (.int x3)] [.int v4, .ref 88] (hM p s5 τ) r
            cases g7 : xn v4 40 with
            | false => rw [g7, cond_false] at H; exact False.elim H
            | true =>
              rw [g7, cond_true] at H
              exact xp_ok htr 2 (d + 1) 0 0 [] 204 93 [some (.ref 53), some (.int x1), some (.int x2), some (.int x3)] [.int v4, .ref 88] (hM p s5 τ) ⟨(xn_in g7), trivial, (Eq.symm H)⟩
          · rw [q6] at H; exact False.elim H
    · rw [if_neg h2] at H
      refine xp_ok htr 3 (d + 1) 0 0 [eB false] 204 67 [some (.ref 53), some (.int x1), some (.int x2), some (.int x3)] [] (hM p σ τ) ⟨h2, ?_⟩
      show xv l Ω (d + 1) 0 0 204 72 [some (.ref 53), some (.int x1), some (.int x2), some (.int x3)] [] (hM p σ τ) r
      exact xp_ok htr 3 (d + 1) 0 0 [] 204 72 [some (.ref 53), some (.int x1), some (.int x2), some (.int x3)] [] (hM p σ τ) ⟨trivial, (Eq.symm H)⟩
  · rw [if_neg h1] at H
    refine xp_ok htr 6 (d + 1) 0 0 [eB false] 204 6 [some (.ref 53), some (.int x1), some (.int x2), some (.int x3)] [] (hM p σ τ) ⟨(by unfold vp_in; decide), h1, ?_⟩
    show xv l Ω (d + 1) 0 0 204 16 [some (.ref 53), some (.int x1), some (.int x2), some (.int x3)] [] (hM p σ τ) r
    cases g8 : xn x3 80 with
    | false => rw [g8, cond_false] at H; exact False.elim H
    | true =>
      rw [g8, cond_true] at H
      by_cases h9 : (σ 72 (Int32.toNatClampNeg x3)) = x1
      · rw [if_pos h9] at H
        refine xp_ok htr 6 (d + 1) 0 0 [eB false] 204 16 [some (.ref 53), some (.int x1), some (.int x2), some (.int x3)] [] (hM p σ τ) ⟨(xn_in g8), h9, ?_⟩
        show xv l Ω (d + 1) 0 0 204 26 [some (.ref 53), some (.int x1), some (.int x2), some (.int x3)] [] (hM p σ τ) r
        cases g10 : xn x3 40 with
        | false => rw [g10, cond_false] at H; exact False.elim H
        | true =>
          rw [g10, cond_true] at H
          by_cases h11 : (σ 87 (Int32.toNatClampNeg x3)) = 2
          · rw [if_pos h11] at H
            refine xp_ok htr 6 (d + 1) 0 0 [eB false] 204 26 [some (.ref 53), some (.int x1), some (.int x2), some (.int x3)] [] (hM p σ τ) ⟨(xn_in g10), h11, ?_⟩
            show xv l Ω (d + 1) 0 0 204 36 [some (.ref 53), some (.int x1), some (.int x2), some (.int x3)] [] (hM p σ τ) r
            exact xp_ok htr 2 (d + 1) 0 0 [] 204 36 [some (.ref 53), some (.int x1), some (.int x2), some (.int x3)] [] (hM p σ τ) ⟨trivial, (Eq.symm H)⟩
          · rw [if_neg h11] at H
            refine xp_ok htr 6 (d + 1) 0 0 [eB true] 204 26 [some (.ref 53), some (.int x1), some (.int x2), some (.int x3)] [] (hM p σ τ) ⟨(xn_in g10), h11, ?_⟩
            show xv l Ω (d + 1) 0 0 204 38 [some (.ref 53), some (.int x1), some (.int x2), some (.int x3)] [] (hM p σ τ) r
            exact xv_sub (L' := [some (.ref 53), some (.int x1), some (.int x2), some (.int x3)]) ⟨rfl, ⟨rfl, ⟨rfl, ⟨rfl, trivial⟩⟩⟩⟩ (g204_38_ok htr d p τ x1 x2 x3 σ r H)
      · rw [if_neg h9] at H
        refine xp_ok htr 6 (d + 1) 0 0 [eB true] 204 16 [some (.ref 53), some (.int x1), some (.int x2), some (.int x3)] [] (hM p σ τ) ⟨(xn_in g8), h9, ?_⟩
        show xv l Ω (d + 1) 0 0 204 38 [some (.ref 53), some (.int x1), some (.int x2), some (.int x3)] [] (hM p σ τ) r
        exact xv_sub (L' := [some (.ref 53), some (.int x1), some (.int x2), some (.int x3)]) ⟨rfl, ⟨rfl, ⟨rfl, ⟨rfl, trivial⟩⟩⟩⟩ (g204_38_ok htr d p τ x1 x2 x3 σ r H)
theorem g204_6_ok {l : Launch} {Ω : xo_O} (htr : xH l) (d : Nat) (p : Nat) (τ : Nat → Nat → Int64) (x1 : Int32) (x2 : Int32) (x3 : Int32) (σ : xS) (r : xv_R) (H : xo (xB false p τ r) (g204_6 x1 x2 x3 σ)) : xv l Ω (d + 1) 0 0 204 6 [some (.ref 53), some (.int x1), some (.int x2), some (.int x3)] [] (hM p σ τ) r :=
  xlo_ok (A := a204_6 l Ω d p τ r) (fun a H => g204_6b_ok htr d p τ a.1 a.2.1 a.2.2.1 a.2.2.2 r H) 1000 (x1, x2, x3, σ) H
theorem g204_run {l : Launch} {Ω : xo_O} (htr : xH l) (d : Nat) (p : Nat) (τ : Nat → Nat → Int64) (a1 : Int32) (σ : xS) {q : xQ} (hq : g204 a1 σ = some q) : xv l Ω (d + 1) 0 0 204 0 (xs_loc (xm_l 204) [.ref 53, .int a1]) [] (hM p σ τ) (xq_R false p τ q) := by
  have H : xo (xB false p τ (xq_R false p τ q)) (g204 a1 σ) := by rw [hq]; exact rfl
  generalize xq_R false p τ q = r at H ⊢
  show xv l Ω (d + 1) 0 0 204 0 [some (.ref 53), some (.int a1), none, none] [] (hM p σ τ) r
  unfold g204 at H
  refine xp_ok htr 6 (d + 1) 0 0 [] 204 0 [some (.ref 53), some (.int a1), none, none] [] (hM p σ τ) ?_
  show xv l Ω (d + 1) 0 0 204 6 [some (.ref 53), some (.int a1), some (.int 0), some (.int (a1 + 1))] [] (hM p σ τ) r
  exact xv_sub (L' := [some (.ref 53), some (.int a1), some (.int 0), some (.int (a1 + 1))]) ⟨rfl, ⟨rfl, ⟨rfl, ⟨rfl, trivial⟩⟩⟩⟩ (g204_6_ok htr d p τ a1 0 (a1 + 1) σ r H)
/- AccessDeskModel.combined -/
def g201 (a1 : Int32) (σ : xS) : xO := (bif xn a1 80 then (if (σ 71 (Int32.toNatClampNeg a1)) = 68 then (match g202 a1 2 1 σ with | some (Sum.inl v3, s4) => some ((Sum.inl v3, s4)) | some (Sum.inr v3, s4) => none | none => none) else (if (σ 71 (Int32.toNatClampNeg a1)) = 79 then (match g204 a1 σ with | some (Sum.inl v6, s7) => some ((Sum.inl v6, s7)) | some (Sum.inr v6, s7) => none | none => none) else (if (σ 71 (Int32.toNatClampNeg a1)) = 80 then (match g202 a1 1 2 σ with | some (Sum.inl v9, s10) => some ((Sum.inl v9, s10)) | some (Sum.inr v9, s10) => none | none => none) else (if (σ 71 (Int32.toNatClampNeg a1)) = 88 then (match g203 a1 1 σ with | some (Sum.inl v12, s13) => (if v12 = 0 then some ((Sum.inl 2, s13)) else some ((Sum.inl 1, s13))) | some (Sum.inr v12, s13) => none | none => none) else (if (σ 71 (Int32.toNatClampNeg a1)) = 89 then (match g203 a1 2 σ with | some (Sum.inl v16, s17) => (if v16 = 0 then some ((Sum.inl 1, s17)) else some ((Sum.inl 2, s17))) | some (Sum.inr v16, s17) => none | none => none) else (match g205 a1 σ with | some (Sum.inl v20, s21) => (if v20 = (-1) then some ((Sum.inl 0, s21)) else (match g205 a1 s21 with | some (Sum.inl v24, s25) => (bif xn v24 40 then some ((Sum.inl (s25 88 (Int32.toNatClampNeg v24)), s25)) else none) | some (Sum.inr v24, s25) => none | none => none)) | some (Sum.inr v20, s21) => none | none => none)))))) else none)
theorem g201_run {l : Launch} {Ω : xo_O} (htr : xH l) (d : Nat) (p : Nat) (τ : Nat → Nat → Int64) (a1 : Int32) (σ : xS) {q : xQ} (hq : g201 a1 σ = some q) : xv l Ω (d + 2) 0 0 201 0 (xs_loc (xm_l 201) [.ref 53, .int a1]) [] (hM p σ τ) (xq_R false p τ q) := by
  have H : xo (xB false p τ (xq_R false p τ q)) (g201 a1 σ) := by rw [hq]; exact rfl
  generalize xq_R false p τ q = r at H ⊢
  show xv l Ω (d + 2) 0 0 201 0 [some (.ref 53), some (.int a1)] [] (hM p σ τ) r
  unfold g201 at H
  cases g1 : xn a1 80 with
  | false => rw [g1, cond_false] at H; exact False.elim H
  | true =>
    rw [g1, cond_true] at H
    by_cases h2_0 : (σ 71 (Int32.toNatClampNeg a1)) = 68
    · rw [if_pos h2_0] at H
      refine xp_ok htr 5 (d + 2) 0 0 [eS (some 68)] 201 0 [some (.ref 53), some (.int a1)] [] (hM p σ τ) ⟨(xn_in g1), h2_0, ?_⟩
      show xv l Ω (d + 2) 0 0 201 56 [some (.ref 53), some (.int a1)] [] (hM p σ τ) r
      cases q5 : g202 a1 2 1 σ with
      | none => rw [q5] at H; exact False.elim H
      | some q50 =>
        obtain ⟨v3 | v3, s4⟩ := q50
        · rw [q5] at H; dsimp only at H
          have hc := g202_run (Ω := Ω) htr d p τ a1 2 1 σ q5
          refine xp_ok htr 5 (d + 2) 0 0 [eC (some (.int v3)) (hM p s4 τ)] 201 56 [some (.ref 53), some (.int a1)] [] (hM p σ τ) ⟨hc, ?_⟩
          show xv l Ω (d + 2) 0 0 201 63 [some (.ref 53), some (.int a1)] [.int v3] (hM p s4 τ) r
          exact xp_ok htr 1 (d + 2) 0 0 [] 201 63 [some (.ref 53), some (.int a1)] [.int v3] (hM p s4 τ) ⟨trivial, (Eq.symm H)⟩
        · rw [q5] at H; exact False.elim H
    rw [if_neg h2_0] at H
    by_cases h2_1 : (σ 71 (Int32.toNatClampNeg a1)) = 79
    · rw [if_pos h2_1] at H
      refine xp_ok htr 5 (d + 2) 0 0 [eS (some 79)] 201 0 [some (.ref 53), some (.int a1)] [] (hM p σ τ) ⟨(xn_in g1), h2_1, ?_⟩
      show xv l Ω (d + 2) 0 0 201 102 [some (.ref 53), some (.int a1)] [] (hM p σ τ) r
      cases q8 : g204 a1 σ with
      | none => rw [q8] at H; exact False.elim H
      | some q80 =>
        obtain ⟨v6 | v6, s7⟩ := q80
        · rw [q8] at H; dsimp only at H
          have hc := g204_run (Ω := Ω) htr d p τ a1 σ q8
          refine xp_ok htr 3 (d + 2) 0 0 [eC (some (.int v6)) (hM p s7 τ)] 201 102 [some (.ref 53), some (.int a1)] [] (hM p σ τ) ⟨hc, ?_⟩
          show xv l Ω (d + 2) 0 0 201 107 [some (.ref 53), some (.int a1)] [.int v6] (hM p s7 τ) r
          exact xp_ok htr 1 (d + 2) 0 0 [] 201 107 [some (.ref 53), some (.int a1)] [.int v6] (hM p s7 τ) ⟨trivial, (Eq.symm H)⟩
        · rw [q8] at H; exact False.elim H
    rw [if_neg h2_1] at H
    by_cases h2_2 : (σ 71 (Int32.toNatClampNeg a1)) = 80
    · rw [if_pos h2_2] at H
      refine xp_ok htr 5 (d + 2) 0 0 [eS (some 80)] 201 0 [some (.ref 53), some (.int a1)] [] (hM p σ τ) ⟨(xn_in g1), h2_2, ?_⟩
      show xv l Ω (d + 2) 0 0 201 64 [some (.ref 53), some (.int a1)] [] (hM p σ τ) r
      cases q11 : g202 a1 1 2 σ with
      | none => rw [q11] at H; exact False.elim H
      | some q110 =>
        obtain ⟨v9 | v9, s10⟩ := q110
        · rw [q11] at H; dsimp only at H
          have hc := g202_run (Ω := Ω) htr d p τ a1 1 2 σ q11
          refine xp_ok htr 5 (d + 2) 0 0 [eC (some (.int v9)) (hM p s10 τ)] 201 64 [some (.ref 53), some (.int a1)] [] (hM p σ τ) ⟨hc, ?_⟩
          show xv l Ω (d + 2) 0 0 201 71 [some (.ref 53), some (.int a1)] [.int v9] (hM p s10 τ) r
          exact xp_ok htr 1 (d + 2) 0 0 [] 201 71 [some (.ref 53), some (.int a1)] [.int v9] (hM p s10 τ) ⟨trivial, (Eq.symm H)⟩
        · rw [q11] at H; exact False.elim H
    rw [if_neg h2_2] at H
    by_cases h2_3 : (σ 71 (Int32.toNatClampNeg a1)) = 88
    · rw [if_pos h2_3] at H
      refine xp_ok htr 5 (d + 2) 0 0 [eS (some 88)] 201 0 [some (.ref 53), some (.int a1)] [] (hM p σ τ) ⟨(xn_in g1), h2_3, ?_⟩
      show xv l Ω (d + 2) 0 0 201 72 [some (.ref 53), some (.int a1)] [] (hM p σ τ) r
      cases q14 : g203 a1 1 σ with
      | none => rw [q14] at H; exact False.elim H
      | some q140 =>
        obtain ⟨v12 | v12, s13⟩ := q140
        · rw [q14] at H; dsimp only at H
          have hc := g203_run (Ω := Ω) htr (d + 1) p τ a1 1 σ q14
          refine xp_ok htr 4 (d + 2) 0 0 [eC (some (.int v12)) (hM p s13 τ)] 201 72 [some (.ref 53), some (.int a1)] [] (hM p σ τ) ⟨hc, ?_⟩
          show xv l Ω (d + 2) 0 0 201 78 [some (.ref 53), some (.int a1)] [.int v12] (hM p s13 τ) r
          by_cases h15 : v12 = 0
          · rw [if_pos h15] at H
            refine xp_ok htr 1 (d + 2) 0 0 [eB true] 201 78 [some (.ref 53), some (.int a1)] [.int v12] (hM p s13 τ) ⟨h15, ?_⟩
            show xv l Ω (d + 2) 0 0 201 85 [some (.ref 53), some (.int a1)] [] (hM p s13 τ) r
            exact xp_ok htr 2 (d + 2) 0 0 [] 201 85 [some (.ref 53), some (.int a1)] [] (hM p s13 τ) ⟨trivial, (Eq.symm H)⟩
          · rw [if_neg h15] at H
            refine xp_ok htr 1 (d + 2) 0 0 [eB false] 201 78 [some (.ref 53), some (.int a1)] [.int v12] (hM p s13 τ) ⟨h15, ?_⟩
            show xv l Ω (d + 2) 0 0 201 81 [some (.ref 53), some (.int a1)] [] (hM p s13 τ) r
            exact xp_ok htr 3 (d + 2) 0 0 [] 201 81 [some (.ref 53), some (.int a1)] [] (hM p s13 τ) ⟨trivial, (Eq.symm H)⟩
        · rw [q14] at H; exact False.elim H
    rw [if_neg h2_3] at H
    by_cases h2_4 : (σ 71 (Int32.toNatClampNeg a1)) = 89
    · rw [if_pos h2_4] at H
      refine xp_ok htr 5 (d + 2) 0 0 [eS (some 89)] 201 0 [some (.ref 53), some (.int a1)] [] (hM p σ τ) ⟨(xn_in g1), h2_4, ?_⟩
      show xv l Ω (d + 2) 0 0 201 87 [some (.ref 53), some (.int a1)] [] (hM p σ τ) r
      cases q18 : g203 a1 2 σ with
      | none => rw [q18] at H; exact False.elim H
      | some q180 =>
        obtain ⟨v16 | v16, s17⟩ := q180
        · rw [q18] at H; dsimp only at H
          have hc := g203_run (Ω := Ω) htr (d + 1) p τ a1 2 σ q18
          refine xp_ok htr 4 (d + 2) 0 0 [eC (some (.int v16)) (hM p s17 τ)] 201 87 [some (.ref 53), some (.int a1)] [] (hM p σ τ) ⟨hc, ?_⟩
          show xv l Ω (d + 2) 0 0 201 93 [some (.ref 53), some (.int a1)] [.int v16] (hM p s17 τ) r
          by_cases h19 : v16 = 0
          · rw [if_pos h19] at H
            refine xp_ok htr 1 (d + 2) 0 0 [eB true] 201 93 [some (.ref 53), some (.int a1)] [.int v16] (hM p s17 τ) ⟨h19, ?_⟩
            show xv l Ω (d + 2) 0 0 201 100 [some (.ref 53), some (.int a1)] [] (hM p s17 τ) r
            exact xp_ok htr 2 (d + 2) 0 0 [] 201 100 [some (.ref 53), some (.int a1)] [] (hM p s17 τ) ⟨trivial, (Eq.symm H)⟩
          · rw [if_neg h19] at H
            refine xp_ok htr 1 (d + 2) 0 0 [eB false] 201 93 [some (.ref 53), some (.int a1)] [.int v16] (hM p s17 τ) ⟨h19, ?_⟩
            show xv l Ω (d + 2) 0 0 201 96 [some (.ref 53), some (.int a1)] [] (hM p s17 τ) r
            exact xp_ok htr 3 (d + 2) 0 0 [] 201 96 [some (.ref 53), some (.int a1)] [] (hM p s17 τ) ⟨trivial, (Eq.symm H)⟩
        · rw [q18] at H; exact False.elim H
    rw [if_neg h2_4] at H
    refine xp_ok htr 5 (d + 2) 0 0 [eS none] 201 0 [some (.ref 53), some (.int a1)] [] (hM p σ τ) ⟨(xn_in g1), ⟨h2_0, h2_1, h2_2, h2_3, h2_4, trivial⟩, ?_⟩
    show xv l Ω (d + 2) 0 0 201 108 [some (.ref 53), some (.int a1)] [] (hM p σ τ) r
    cases q22 : g205 a1 σ with
    | none => rw [q22] at H; exact False.elim H
    | some q220 =>
      obtain ⟨v20 | v20, s21⟩ := q220
      · rw [q22] at H; dsimp only at H
        have hc := g205_run (Ω := Ω) htr (d + 1) p τ a1 σ q22
        refine xp_ok htr 3 (d + 2) 0 0 [eC (some (.int v20)) (hM p s21 τ)] 201 108 [some (.ref 53), some (.int a1)] [] (hM p σ τ) ⟨hc, ?_⟩
        show xv l Ω (d + 2) 0 0 201 113 [some (.ref 53), some (.int a1)] [.int v20] (hM p s21 τ) r
        by_cases h23 : v20 = (-1)
        · rw [if_pos h23] at H
          refine xp_ok htr 2 (d + 2) 0 0 [eB false] 201 113 [some (.ref 53), some (.int a1)] [.int v20] (hM p s21 τ) ⟨h23, ?_⟩
          show xv l Ω (d + 2) 0 0 201 117 [some (.ref 53), some (.int a1)] [] (hM p s21 τ) r
          exact xp_ok htr 3 (d + 2) 0 0 [] 201 117 [some (.ref 53), some (.int a1)] [] (hM p s21 τ) ⟨trivial, (Eq.symm H)⟩
        · rw [if_neg h23] at H
          refine xp_ok htr 2 (d + 2) 0 0 [eB true] 201 113 [some (.ref 53), some (.int a1)] [.int v20] (hM p s21 τ) ⟨h23, ?_⟩
          show xv l Ω (d + 2) 0 0 201 121 [some (.ref 53), some (.int a1)] [] (hM p s21 τ) r
          cases q26 : g205 a1 s21 with
          | none => rw [q26] at H; exact False.elim H
          | some q260 =>
            obtain ⟨v24 | v24, s25⟩ := q260
            · rw [q26] at H; dsimp only at H
              have hc := g205_run (Ω := Ω) htr (d + 1) p τ a1 s21 q26
              refine xp_ok htr 5 (d + 2) 0 0 [eC (some (.int v24)) (hM p s25 τ)] 201 121 [some (.ref 53), some (.int a1)] [] (hM p s21 τ) ⟨hc, ?_⟩
              show xv l Ω (d + 2) 0 0 201 130 [some (.ref 53), some (.int a1)] [.int v24, .ref 88] (hM p s25 τ) r
              cases g27 : xn v24 40 with
              | false => rw [g27, cond_false] at H; exact False.elim H
              | true =>
                rw [g27, cond_true] at H
                exact xp_ok htr 2 (d + 2) 0 0 [] 201 130 [some (.ref 53), some (.int a1)] [.int v24, .ref 88] (hM p s25 τ) ⟨(xn_in g27), trivial, (Eq.symm H)⟩
            · rw [q26] at H; exact False.elim H
      · rw [q22] at H; exact False.elim H
/- AccessDeskModel.duties -/
def g206_160 (x1 : Int32) (x2 : Int32) (σ : xS) : Option ((Int32 × Int32 × xS) ⊕ xQ) := some (Sum.inl (x1, (x2 + 1), σ))
def g206_158 (x2 : Int32) (k0 : Int32) (k1 : Int32) (σ : xS) : Option ((Int32 × Int32 × xS) ⊕ xQ) := g206_160 (k0 ||| k1) x2 σ
def g206_108 (x1 : Int32) (x2 : Int32) (k1 : Int32) (k2 : Int32) (σ : xS) : Option ((Int32 × Int32 × xS) ⊕ xQ) := (bif xn k1 40 then (bif xn x2 40 then (if ((xh_ui σ 89 (Int32.toNatClampNeg k1) (vp_nar .boolean k2)) 89 (Int32.toNatClampNeg x2)) = 0 then g206_160 x1 x2 (xh_ui σ 89 (Int32.toNatClampNeg k1) (vp_nar .boolean k2)) else (if ((xh_ui σ 89 (Int32.toNatClampNeg k1) (vp_nar .boolean k2)) 88 0) = 1 then (bif xn x2 80 then g206_158 x2 x1 ((xh_ui σ 89 (Int32.toNatClampNeg k1) (vp_nar .boolean k2)) 77 (Int32.toNatClampNeg x2)) (xh_ui σ 89 (Int32.toNatClampNeg k1) (vp_nar .boolean k2)) else none) else (if ((xh_ui σ 89 (Int32.toNatClampNeg k1) (vp_nar .boolean k2)) 88 0) = 2 then (bif xn x2 80 then g206_158 x2 x1 ((xh_ui σ 89 (Int32.toNatClampNeg k1) (vp_nar .boolean k2)) 78 (Int32.toNatClampNeg x2)) (xh_ui σ 89 (Int32.toNatClampNeg k1) (vp_nar .boolean k2)) else none) else g206_158 x2 x1 0 (xh_ui σ 89 (Int32.toNatClampNeg k1) (vp_nar .boolean k2))))) else none) else none)
def g206_103 (x1 : Int32) (x2 : Int32) (k1 : Int32) (σ : xS) : Option ((Int32 × Int32 × xS) ⊕ xQ) := g206_108 x1 x2 k1 1 σ
def g206_107 (x1 : Int32) (x2 : Int32) (k1 : Int32) (σ : xS) : Option ((Int32 × Int32 × xS) ⊕ xQ) := g206_108 x1 x2 k1 0 σ
def g206_62 (x1 : Int32) (x2 : Int32) (x3 : Int32) (k0 : Int32) (σ : xS) : Option ((Int32 × Int32 × xS) ⊕ xQ) := (bif xn x2 40 then (if (σ 88 (Int32.toNatClampNeg x2)) = (σ 88 0) then (if x3 = (-1) then g206_103 x1 x2 x2 σ else (bif xn x3 40 then (if (σ 89 (Int32.toNatClampNeg x3)) = 0 then g206_107 x1 x2 x2 σ else (if k0 = 0 then g206_103 x1 x2 x2 σ else g206_107 x1 x2 x2 σ)) else none)) else g206_107 x1 x2 x2 σ) else none)
def g206_61 (x1 : Int32) (x2 : Int32) (x3 : Int32) (σ : xS) : Option ((Int32 × Int32 × xS) ⊕ xQ) := g206_62 x1 x2 x3 0 σ
def g206_48 (x1 : Int32) (x2 : Int32) (x3 : Int32) (σ : xS) : Option ((Int32 × Int32 × xS) ⊕ xQ) := (match g205 x3 σ with | some (Sum.inl v19, s20) => (if v19 = x2 then g206_61 x1 x2 x3 s20 else g206_62 x1 x2 x3 1 s20) | some (Sum.inr v19, s20) => none | none => none)
def g206_4b (x1 : Int32) (x2 : Int32) (σ : xS) : Option ((Int32 × Int32 × xS) ⊕ xQ) := (if (σ 70 0) ≤ x2 then some (Sum.inr ((Sum.inl x1, σ))) else (bif xn x2 80 then (if (σ 72 (Int32.toNatClampNeg x2)) = (-1) then g206_61 x1 x2 (σ 72 (Int32.toNatClampNeg x2)) σ else (bif xn (σ 72 (Int32.toNatClampNeg x2)) 80 then (if (σ 71 (Int32.toNatClampNeg (σ 72 (Int32.toNatClampNeg x2)))) = 70 then g206_48 x1 x2 (σ 72 (Int32.toNatClampNeg x2)) σ else (if (σ 71 (Int32.toNatClampNeg (σ 72 (Int32.toNatClampNeg x2)))) = 79 then g206_48 x1 x2 (σ 72 (Int32.toNatClampNeg x2)) σ else g206_61 x1 x2 (σ 72 (Int32.toNatClampNeg x2)) σ)) else none)) else none))
def g206_4 (x1 : Int32) (x2 : Int32) (σ : xS) : Option xQ := xlo (fun a : Int32 × Int32 × xS => g206_4b a.1 a.2.1 a.2.2) 1000 (x1, x2, σ)
def g206  (σ : xS) : xO := g206_4 0 0 σ
def a206_4 (l : Launch) (Ω : xo_O) (d p : Nat) (τ : Nat → Nat → Int64) (r : xv_R) : Int32 × Int32 × xS → Prop := fun a => xv l Ω (d + 1) 0 0 206 4 [some (.ref 53), some (.int a.1), some (.int a.2.1), none, none] [] (hM p a.2.2 τ) r
theorem g206_160_ok {l : Launch} {Ω : xo_O} (htr : xH l) (d : Nat) (p : Nat) (τ : Nat → Nat → Int64) (x1 : Int32) (x2 : Int32) (σ : xS) (r : xv_R) (H : xo (xd (a206_4 l Ω d p τ r) (xB false p τ r)) (g206_160 x1 x2 σ)) : xv l Ω (d + 1) 0 0 206 160 [some (.ref 53), some (.int x1), some (.int x2), none, none] [] (hM p σ τ) r := by
  unfold g206_160 at H
  refine xp_ok htr 2 (d + 1) 0 0 [] 206 160 [some (.ref 53), some (.int x1), some (.int x2), none, none] [] (hM p σ τ) ?_
  show xv l Ω (d + 1) 0 0 206 4 [some (.ref 53), some (.int x1), some (.int (x2 + 1)), none, none] [] (hM p σ τ) r
  exact xv_sub (L' := [some (.ref 53), some (.int x1), some (.int (x2 + 1)), none, none]) ⟨rfl, ⟨rfl, ⟨rfl, trivial⟩⟩⟩ H
theorem g206_158_ok {l : Launch} {Ω : xo_O} (htr : xH l) (d : Nat) (p : Nat) (τ : Nat → Nat → Int64) (x2 : Int32) (k0 : Int32) (k1 : Int32) (σ : xS) (r : xv_R) (H : xo (xd (a206_4 l Ω d p τ r) (xB false p τ r)) (g206_158 x2 k0 k1 σ)) : xv l Ω (d + 1) 0 0 206 158 [some (.ref 53), none, some (.int x2), none, none] [.int k1, .int k0] (hM p σ τ) r := by
  unfold g206_158 at H
  refine xp_ok htr 2 (d + 1) 0 0 [] 206 158 [some (.ref 53), none, some (.int x2), none, none] [.int k1, .int k0] (hM p σ τ) ?_
  show xv l Ω (d + 1) 0 0 206 160 [some (.ref 53), some (.int (k0 ||| k1)), some (.int x2), none, none] [] (hM p σ τ) r
  exact xv_sub (L' := [some (.ref 53), some (.int (k0 ||| k1)), some (.int x2), none, none]) ⟨rfl, ⟨rfl, ⟨rfl, trivial⟩⟩⟩ (g206_160_ok htr d p τ (k0 ||| k1) x2 σ r H)
theorem g206_108_ok {l : Launch} {Ω : xo_O} (htr : xH l) (d : Nat) (p : Nat) (τ : Nat → Nat → Int64) (x1 : Int32) (x2 : Int32) (k1 : Int32) (k2 : Int32) (σ : xS) (r : xv_R) (H : xo (xd (a206_4 l Ω d p τ r) (xB false p τ r)) (g206_108 x1 x2 k1 k2 σ)) : xv l Ω (d + 1) 0 0 206 108 [some (.ref 53), some (.int x1), some (.int x2), none, none] [.int k2, .int k1, .ref 89] (hM p σ τ) r := by
  unfold g206_108 at H
  cases g7 : xn k1 40 with
  | false => rw [g7, cond_false] at H; exact False.elim H
  | true =>
    rw [g7, cond_true] at H
    cases g8 : xn x2 40 with
    | false => rw [g8, cond_false] at H; exact False.elim H
    | true =>
      rw [g8, cond_true] at H
      by_cases h9 : ((xh_ui σ 89 (Int32.toNatClampNeg k1) (vp_nar .boolean k2)) 89 (Int32.toNatClampNeg x2)) = 0
      · rw [if_pos h9] at H
        refine xp_ok htr 6 (d + 1) 0 0 [eB true] 206 108 [some (.ref 53), some (.int x1), some (.int x2), none, none] [.int k2, .int k1, .ref 89] (hM p σ τ) ⟨(xn_in g7), (xn_in g8), h9, ?_⟩
        show xv l Ω (d + 1) 0 0 206 160 [some (.ref 53), some (.int x1), some (.int x2), none, none] [] (hM p (xh_ui σ 89 (Int32.toNatClampNeg k1) (vp_nar .boolean k2)) τ) r
        exact xv_sub (L' := [some (.ref 53), some (.int x1), some (.int x2), none, none]) ⟨rfl, ⟨rfl, ⟨rfl, trivial⟩⟩⟩ (g206_160_ok htr d p τ x1 x2 (xh_ui σ 89 (Int32.toNatClampNeg k1) (vp_nar .boolean k2)) r H)
      · rw [if_neg h9] at H
        refine xp_ok htr 6 (d + 1) 0 0 [eB false] 206 108 [some (.ref 53), some (.int x1), some (.int x2), none, none] [.int k2, .int k1, .ref 89] (hM p σ τ) ⟨(xn_in g7), (xn_in g8), h9, ?_⟩
        show xv l Ω (d + 1) 0 0 206 118 [some (.ref 53), some (.int x1), some (.int x2), none, none] [] (hM p (xh_ui σ 89 (Int32.toNatClampNeg k1) (vp_nar .boolean k2)) τ) r
        by_cases h10 : ((xh_ui σ 89 (Int32.toNatClampNeg k1) (vp_nar .boolean k2)) 88 0) = 1
        · rw [if_pos h10] at H
          refine xp_ok htr 7 (d + 1) 0 0 [eB false] 206 118 [some (.ref 53), some (.int x1), some (.int x2), none, none] [] (hM p (xh_ui σ 89 (Int32.toNatClampNeg k1) (vp_nar .boolean k2)) τ) ⟨(by unfold vp_in; decide), h10, ?_⟩
          show xv l Ω (d + 1) 0 0 206 129 [some (.ref 53), some (.int x1), some (.int x2), none, none] [.int x1] (hM p (xh_ui σ 89 (Int32.toNatClampNeg k1) (vp_nar .boolean k2)) τ) r
          cases g11 : xn x2 80 with
          | false => rw [g11, cond_false] at H; exact False.elim H
          | true =>
            rw [g11, cond_true] at H
            refine xp_ok htr 5 (d + 1) 0 0 [] 206 129 [some (.ref 53), some (.int x1), some (.int x2), none, none] [.int x1] (hM p (xh_ui σ 89 (Int32.toNatClampNeg k1) (vp_nar .boolean k2)) τ) ⟨(xn_in g11), ?_⟩
            show xv l Ω (d + 1) 0 0 206 158 [some (.ref 53), some (.int x1), some (.int x2), none, none] [.int ((xh_ui σ 89 (Int32.toNatClampNeg k1) (vp_nar .boolean k2)) 77 (Int32.toNatClampNeg x2)), .int x1] (hM p (xh_ui σ 89 (Int32.toNatClampNeg k1) (vp_nar .boolean k2)) τ) r
            exact xv_sub (L' := [some (.ref 53), none, some (.int x2), none, none]) ⟨rfl, ⟨rfl, trivial⟩⟩ (g206_158_ok htr d p τ x2 x1 ((xh_ui σ 89 (Int32.toNatClampNeg k1) (vp_nar .boolean k2)) 77 (Int32.toNatClampNeg x2)) (xh_ui σ 89 (Int32.toNatClampNeg k1) (vp_nar .boolean k2)) r H)
        · rw [if_neg h10] at H
          refine xp_ok htr 7 (d + 1) 0 0 [eB true] 206 118 [some (.ref 53), some (.int x1), some (.int x2), none, none] [] (hM p (xh_ui σ 89 (Int32.toNatClampNeg k1) (vp_nar .boolean k2)) τ) ⟨(by unfold vp_in; decide), h10, ?_⟩
          show xv l Ω (d + 1) 0 0 206 138 [some (.ref 53), some (.int x1), some (.int x2), none, none] [.int x1] (hM p (xh_ui σ 89 (Int32.toNatClampNeg k1) (vp_nar .boolean k2)) τ) r
          by_cases h12 : ((xh_ui σ 89 (Int32.toNatClampNeg k1) (vp_nar .boolean k2)) 88 0) = 2
          · rw [if_pos h12] at H
            refine xp_ok htr 6 (d + 1) 0 0 [eB false] 206 138 [some (.ref 53), some (.int x1), some (.int x2), none, none] [.int x1] (hM p (xh_ui σ 89 (Int32.toNatClampNeg k1) (vp_nar .boolean k2)) τ) ⟨(by unfold vp_in; decide), h12, ?_⟩
            show xv l Ω (d + 1) 0 0 206 148 [some (.ref 53), some (.int x1), some (.int x2), none, none] [.int x1] (hM p (xh_ui σ 89 (Int32.toNatClampNeg k1) (vp_nar .boolean k2)) τ) r
            cases g13 : xn x2 80 with
            | false => rw [g13, cond_false] at H; exact False.elim H
            | true =>
              rw [g13, cond_true] at H
              refine xp_ok htr 5 (d + 1) 0 0 [] 206 148 [some (.ref 53), some (.int x1), some (.int x2), none, none] [.int x1] (hM p (xh_ui σ 89 (Int32.toNatClampNeg k1) (vp_nar .boolean k2)) τ) ⟨(xn_in g13), ?_⟩
              show xv l Ω (d + 1) 0 0 206 158 [some (.ref 53), some (.int x1), some (.int x2), none, none] [.int ((xh_ui σ 89 (Int32.toNatClampNeg k1) (vp_nar .boolean k2)) 78 (Int32.toNatClampNeg x2)), .int x1] (hM p (xh_ui σ 89 (Int32.toNatClampNeg k1) (vp_nar .boolean k2)) τ) r
              exact xv_sub (L' := [some (.ref 53), none, some (.int x2), none, none]) ⟨rfl, ⟨rfl, trivial⟩⟩ (g206_158_ok htr d p τ x2 x1 ((xh_ui σ 89 (Int32.toNatClampNeg k1) (vp_nar .boolean k2)) 78 (Int32.toNatClampNeg x2)) (xh_ui σ 89 (Int32.toNatClampNeg k1) (vp_nar .boolean k2)) r H)
          · rw [if_neg h12] at H
            refine xp_ok htr 6 (d + 1) 0 0 [eB true] 206 138 [some (.ref 53), some (.int x1), some (.int x2), none, none] [.int x1] (hM p (xh_ui σ 89 (Int32.toNatClampNeg k1) (vp_nar .boolean k2)) τ) ⟨(by unfold vp_in; decide), h12, ?_⟩
            show xv l Ω (d + 1) 0 0 206 157 [some (.ref 53), some (.int x1), some (.int x2), none, none] [.int x1] (hM p (xh_ui σ 89 (Int32.toNatClampNeg k1) (vp_nar .boolean k2)) τ) r
            refine xp_ok htr 1 (d + 1) 0 0 [] 206 157 [some (.ref 53), some (.int x1), some (.int x2), none, none] [.int x1] (hM p (xh_ui σ 89 (Int32.toNatClampNeg k1) (vp_nar .boolean k2)) τ) ?_
            show xv l Ω (d + 1) 0 0 206 158 [some (.ref 53), some (.int x1), some (.int x2), none, none] [.int 0, .int x1] (hM p (xh_ui σ 89 (Int32.toNatClampNeg k1) (vp_nar .boolean k2)) τ) r
            exact xv_sub (L' := [some (.ref 53), none, some (.int x2), none, none]) ⟨rfl, ⟨rfl, trivial⟩⟩ (g206_158_ok htr d p τ x2 x1 0 (xh_ui σ 89 (Int32.toNatClampNeg k1) (vp_nar .boolean k2)) r H)
theorem g206_103_ok {l : Launch} {Ω : xo_O} (htr : xH l) (d : Nat) (p : Nat) (τ : Nat → Nat → Int64) (x1 : Int32) (x2 : Int32) (k1 : Int32) (σ : xS) (r : xv_R) (H : xo (xd (a206_4 l Ω d p τ r) (xB false p τ r)) (g206_103 x1 x2 k1 σ)) : xv l Ω (d + 1) 0 0 206 103 [some (.ref 53), some (.int x1), some (.int x2), none, none] [.int k1, .ref 89] (hM p σ τ) r := by
  unfold g206_103 at H
  refine xp_ok htr 2 (d + 1) 0 0 [] 206 103 [some (.ref 53), some (.int x1), some (.int x2), none, none] [.int k1, .ref 89] (hM p σ τ) ?_
  show xv l Ω (d + 1) 0 0 206 108 [some (.ref 53), some (.int x1), some (.int x2), none, none] [.int 1, .int k1, .ref 89] (hM p σ τ) r
  exact xv_sub (L' := [some (.ref 53), some (.int x1), some (.int x2), none, none]) ⟨rfl, ⟨rfl, ⟨rfl, trivial⟩⟩⟩ (g206_108_ok htr d p τ x1 x2 k1 1 σ r H)
theorem g206_107_ok {l : Launch} {Ω : xo_O} (htr : xH l) (d : Nat) (p : Nat) (τ : Nat → Nat → Int64) (x1 : Int32) (x2 : Int32) (k1 : Int32) (σ : xS) (r : xv_R) (H : xo (xd (a206_4 l Ω d p τ r) (xB false p τ r)) (g206_107 x1 x2 k1 σ)) : xv l Ω (d + 1) 0 0 206 107 [some (.ref 53), some (.int x1), some (.int x2), none, none] [.int k1, .ref 89] (hM p σ τ) r := by
  unfold g206_107 at H
  refine xp_ok htr 1 (d + 1) 0 0 [] 206 107 [some (.ref 53), some (.int x1), some (.int x2), none, none] [.int k1, .ref 89] (hM p σ τ) ?_
  show xv l Ω (d + 1) 0 0 206 108 [some (.ref 53), some (.int x1), some (.int x2), none, none] [.int 0, .int k1, .ref 89] (hM p σ τ) r
  exact xv_sub (L' := [some (.ref 53), some (.int x1), some (.int x2), none, none]) ⟨rfl, ⟨rfl, ⟨rfl, trivial⟩⟩⟩ (g206_108_ok htr d p τ x1 x2 k1 0 σ r H)
theorem g206_62_ok {l : Launch} {Ω : xo_O} (htr : xH l) (d : Nat) (p : Nat) (τ : Nat → Nat → Int64) (x1 : Int32) (x2 : Int32) (x3 : Int32) (k0 : Int32) (σ : xS) (r : xv_R) (H : xo (xd (a206_4 l Ω d p τ r) (xB false p τ r)) (g206_62 x1 x2 x3 k0 σ)) : xv l Ω (d + 1) 0 0 206 62 [some (.ref 53), some (.int x1), some (.int x2), some (.int x3), none] [.int k0] (hM p σ τ) r := by
  unfold g206_62 at H
  cases g4 : xn x2 40 with
  | false => rw [g4, cond_false] at H; exact False.elim H
  | true =>
    rw [g4, cond_true] at H
    refine xp_ok htr 8 (d + 1) 0 0 [] 206 62 [some (.ref 53), some (.int x1), some (.int x2), some (.int x3), none] [.int k0] (hM p σ τ) ⟨(xn_in g4), ?_⟩
    show xv l Ω (d + 1) 0 0 206 75 [some (.ref 53), some (.int x1), some (.int x2), some (.int x3), some (.int k0)] [.int (σ 88 (Int32.toNatClampNeg x2)), .int x2, .ref 89] (hM p σ τ) r
    by_cases h5 : (σ 88 (Int32.toNatClampNeg x2)) = (σ 88 0)
    · rw [if_pos h5] at H
      refine xp_ok htr 5 (d + 1) 0 0 [eB false] 206 75 [some (.ref 53), some (.int x1), some (.int x2), some (.int x3), some (.int k0)] [.int (σ 88 (Int32.toNatClampNeg x2)), .int x2, .ref 89] (hM p σ τ) ⟨(by unfold vp_in; decide), h5, ?_⟩
      show xv l Ω (d + 1) 0 0 206 84 [some (.ref 53), some (.int x1), some (.int x2), some (.int x3), some (.int k0)] [.int x2, .ref 89] (hM p σ τ) r
      by_cases h6 : x3 = (-1)
      · rw [if_pos h6] at H
        refine xp_ok htr 3 (d + 1) 0 0 [eB true] 206 84 [some (.ref 53), some (.int x1), some (.int x2), some (.int x3), some (.int k0)] [.int x2, .ref 89] (hM p σ τ) ⟨h6, ?_⟩
        show xv l Ω (d + 1) 0 0 206 103 [some (.ref 53), some (.int x1), some (.int x2), some (.int x3), some (.int k0)] [.int x2, .ref 89] (hM p σ τ) r
        exact xv_sub (L' := [some (.ref 53), some (.int x1), some (.int x2), none, none]) ⟨rfl, ⟨rfl, ⟨rfl, trivial⟩⟩⟩ (g206_103_ok htr d p τ x1 x2 x2 σ r H)
      · rw [if_neg h6] at H
        refine xp_ok htr 3 (d + 1) 0 0 [eB false] 206 84 [some (.ref 53), some (.int x1), some (.int x2), some (.int x3), some (.int k0)] [.int x2, .ref 89] (hM p σ τ) ⟨h6, ?_⟩
        show xv l Ω (d + 1) 0 0 206 89 [some (.ref 53), some (.int x1), some (.int x2), some (.int x3), some (.int k0)] [.int x2, .ref 89] (hM p σ τ) r
        cases g14 : xn x3 40 with
        | false => rw [g14, cond_false] at H; exact False.elim H
        | true =>
          rw [g14, cond_true] at H
          by_cases h15 : (σ 89 (Int32.toNatClampNeg x3)) = 0
          · rw [if_pos h15] at H
            refine xp_ok htr 5 (d + 1) 0 0 [eB true] 206 89 [some (.ref 53), some (.int x1), some (.int x2), some (.int x3), some (.int k0)] [.int x2, .ref 89] (hM p σ τ) ⟨(xn_in g14), h15, ?_⟩
            show xv l Ω (d + 1) 0 0 206 107 [some (.ref 53), some (.int x1), some (.int x2), some (.int x3), some (.int k0)] [.int x2, .ref 89] (hM p σ τ) r
            exact xv_sub (L' := [some (.ref 53), some (.int x1), some (.int x2), none, none]) ⟨rfl, ⟨rfl, ⟨rfl, trivial⟩⟩⟩ (g206_107_ok htr d p τ x1 x2 x2 σ r H)
          · rw [if_neg h15] at H
            refine xp_ok htr 5 (d + 1) 0 0 [eB false] 206 89 [some (.ref 53), some (.int x1), some (.int x2), some (.int x3), some (.int k0)] [.int x2, .ref 89] (hM p σ τ) ⟨(xn_in g14), h15, ?_⟩
            show xv l Ω (d + 1) 0 0 206 98 [some (.ref 53), some (.int x1), some (.int x2), some (.int x3), some (.int k0)] [.int x2, .ref 89] (hM p σ τ) r
            by_cases h16 : k0 = 0
            · rw [if_pos h16] at H
              refine xp_ok htr 2 (d + 1) 0 0 [eB false] 206 98 [some (.ref 53), some (.int x1), some (.int x2), some (.int x3), some (.int k0)] [.int x2, .ref 89] (hM p σ τ) ⟨h16, ?_⟩
              show xv l Ω (d + 1) 0 0 206 103 [some (.ref 53), some (.int x1), some (.int x2), some (.int x3), some (.int k0)] [.int x2, .ref 89] (hM p σ τ) r
              exact xv_sub (L' := [some (.ref 53), some (.int x1), some (.int x2), none, none]) ⟨rfl, ⟨rfl, ⟨rfl, trivial⟩⟩⟩ (g206_103_ok htr d p τ x1 x2 x2 σ r H)
            · rw [if_neg h16] at H
              refine xp_ok htr 2 (d + 1) 0 0 [eB true] 206 98 [some (.ref 53), some (.int x1), some (.int x2), some (.int x3), some (.int k0)] [.int x2, .ref 89] (hM p σ τ) ⟨h16, ?_⟩
              show xv l Ω (d + 1) 0 0 206 107 [some (.ref 53), some (.int x1), some (.int x2), some (.int x3), some (.int k0)] [.int x2, .ref 89] (hM p σ τ) r
              exact xv_sub (L' := [some (.ref 53), some (.int x1), some (.int x2), none, none]) ⟨rfl, ⟨rfl, ⟨rfl, trivial⟩⟩⟩ (g206_107_ok htr d p τ x1 x2 x2 σ r H)
    · rw [if_neg h5] at H
      refine xp_ok htr 5 (d + 1) 0 0 [eB true] 206 75 [some (.ref 53), some (.int x1), some (.int x2), some (.int x3), some (.int k0)] [.int (σ 88 (Int32.toNatClampNeg x2)), .int x2, .ref 89] (hM p σ τ) ⟨(by unfold vp_in; decide), h5, ?_⟩
      show xv l Ω (d + 1) 0 0 206 107 [some (.ref 53), some (.int x1), some (.int x2), some (.int x3), some (.int k0)] [.int x2, .ref 89] (hM p σ τ) r
      exact xv_sub (L' := [some (.ref 53), some (.int x1), some (.int x2), none, none]) ⟨rfl, ⟨rfl, ⟨rfl, trivial⟩⟩⟩ (g206_107_ok htr d p τ x1 x2 x2 σ r H)
theorem g206_61_ok {l : Launch} {Ω : xo_O} (htr : xH l) (d : Nat) (p : Nat) (τ : Nat → Nat → Int64) (x1 : Int32) (x2 : Int32) (x3 : Int32) (σ : xS) (r : xv_R) (H : xo (xd (a206_4 l Ω d p τ r) (xB false p τ r)) (g206_61 x1 x2 x3 σ)) : xv l Ω (d + 1) 0 0 206 61 [some (.ref 53), some (.int x1), some (.int x2), some (.int x3), none] [] (hM p σ τ) r := by
  unfold g206_61 at H
  refine xp_ok htr 1 (d + 1) 0 0 [] 206 61 [some (.ref 53), some (.int x1), some (.int x2), some (.int x3), none] [] (hM p σ τ) ?_
  show xv l Ω (d + 1) 0 0 206 62 [some (.ref 53), some (.int x1), some (.int x2), some (.int x3), none] [.int 0] (hM p σ τ) r
  exact xv_sub (L' := [some (.ref 53), some (.int x1), some (.int x2), some (.int x3), none]) ⟨rfl, ⟨rfl, ⟨rfl, ⟨rfl, trivial⟩⟩⟩⟩ (g206_62_ok htr d p τ x1 x2 x3 0 σ r H)
theorem g206_48_ok {l : Launch} {Ω : xo_O} (htr : xH l) (d : Nat) (p : Nat) (τ : Nat → Nat → Int64) (x1 : Int32) (x2 : Int32) (x3 : Int32) (σ : xS) (r : xv_R) (H : xo (xd (a206_4 l Ω d p τ r) (xB false p τ r)) (g206_48 x1 x2 x3 σ)) : xv l Ω (d + 1) 0 0 206 48 [some (.ref 53), some (.int x1), some (.int x2), some (.int x3), none] [] (hM p σ τ) r := by
  unfold g206_48 at H
  cases q21 : g205 x3 σ with
  | none => rw [q21] at H; exact False.elim H
  | some q210 =>
    obtain ⟨v19 | v19, s20⟩ := q210
    · rw [q21] at H; dsimp only at H
      have hc := g205_run (Ω := Ω) htr d p τ x3 σ q21
      refine xp_ok htr 3 (d + 1) 0 0 [eC (some (.int v19)) (hM p s20 τ)] 206 48 [some (.ref 53), some (.int x1), some (.int x2), some (.int x3), none] [] (hM p σ τ) ⟨hc, ?_⟩
      show xv l Ω (d + 1) 0 0 206 53 [some (.ref 53), some (.int x1), some (.int x2), some (.int x3), none] [.int v19] (hM p s20 τ) r
      by_cases h22 : v19 = x2
      · rw [if_pos h22] at H
        refine xp_ok htr 2 (d + 1) 0 0 [eB true] 206 53 [some (.ref 53), some (.int x1), some (.int x2), some (.int x3), none] [.int v19] (hM p s20 τ) ⟨h22, ?_⟩
        show xv l Ω (d + 1) 0 0 206 61 [some (.ref 53), some (.int x1), some (.int x2), some (.int x3), none] [] (hM p s20 τ) r
        exact xv_sub (L' := [some (.ref 53), some (.int x1), some (.int x2), some (.int x3), none]) ⟨rfl, ⟨rfl, ⟨rfl, ⟨rfl, trivial⟩⟩⟩⟩ (g206_61_ok htr d p τ x1 x2 x3 s20 r H)
      · rw [if_neg h22] at H
        refine xp_ok htr 2 (d + 1) 0 0 [eB false] 206 53 [some (.ref 53), some (.int x1), some (.int x2), some (.int x3), none] [.int v19] (hM p s20 τ) ⟨h22, ?_⟩
        show xv l Ω (d + 1) 0 0 206 57 [some (.ref 53), some (.int x1), some (.int x2), some (.int x3), none] [] (hM p s20 τ) r
        refine xp_ok htr 2 (d + 1) 0 0 [] 206 57 [some (.ref 53), some (.int x1), some (.int x2), some (.int x3), none] [] (hM p s20 τ) ?_
        show xv l Ω (d + 1) 0 0 206 62 [some (.ref 53), some (.int x1), some (.int x2), some (.int x3), none] [.int 1] (hM p s20 τ) r
        exact xv_sub (L' := [some (.ref 53), some (.int x1), some (.int x2), some (.int x3), none]) ⟨rfl, ⟨rfl, ⟨rfl, ⟨rfl, trivial⟩⟩⟩⟩ (g206_62_ok htr d p τ x1 x2 x3 1 s20 r H)
    · rw [q21] at H; exact False.elim H
theorem g206_4b_ok {l : Launch} {Ω : xo_O} (htr : xH l) (d : Nat) (p : Nat) (τ : Nat → Nat → Int64) (x1 : Int32) (x2 : Int32) (σ : xS) (r : xv_R) (H : xo (xd (a206_4 l Ω d p τ r) (xB false p τ r)) (g206_4b x1 x2 σ)) : xv l Ω (d + 1) 0 0 206 4 [some (.ref 53), some (.int x1), some (.int x2), none, none] [] (hM p σ τ) r := by
  unfold g206_4b at H
  by_cases h1 : (σ 70 0) ≤ x2
  · rw [if_pos h1] at H
    refine xp_ok htr 6 (d + 1) 0 0 [eB true] 206 4 [some (.ref 53), some (.int x1), some (.int x2), none, none] [] (hM p σ τ) ⟨(by unfold vp_in; decide), h1, ?_⟩
    show xv l Ω (d + 1) 0 0 206 166 [some (.ref 53), some (.int x1), some (.int x2), none, none] [] (hM p σ τ) r
    exact xp_ok htr 2 (d + 1) 0 0 [] 206 166 [some (.ref 53), some (.int x1), some (.int x2), none, none] [] (hM p σ τ) ⟨trivial, (Eq.symm H)⟩
  · rw [if_neg h1] at H
    refine xp_ok htr 6 (d + 1) 0 0 [eB false] 206 4 [some (.ref 53), some (.int x1), some (.int x2), none, none] [] (hM p σ τ) ⟨(by unfold vp_in; decide), h1, ?_⟩
    show xv l Ω (d + 1) 0 0 206 14 [some (.ref 53), some (.int x1), some (.int x2), none, none] [] (hM p σ τ) r
    cases g2 : xn x2 80 with
    | false => rw [g2, cond_false] at H; exact False.elim H
    | true =>
      rw [g2, cond_true] at H
      by_cases h3 : (σ 72 (Int32.toNatClampNeg x2)) = (-1)
      · rw [if_pos h3] at H
        refine xp_ok htr 8 (d + 1) 0 0 [eB true] 206 14 [some (.ref 53), some (.int x1), some (.int x2), none, none] [] (hM p σ τ) ⟨(xn_in g2), h3, ?_⟩
        show xv l Ω (d + 1) 0 0 206 61 [some (.ref 53), some (.int x1), some (.int x2), some (.int (σ 72 (Int32.toNatClampNeg x2))), none] [] (hM p σ τ) r
        exact xv_sub (L' := [some (.ref 53), some (.int x1), some (.int x2), some (.int (σ 72 (Int32.toNatClampNeg x2))), none]) ⟨rfl, ⟨rfl, ⟨rfl, ⟨rfl, trivial⟩⟩⟩⟩ (g206_61_ok htr d p τ x1 x2 (σ 72 (Int32.toNatClampNeg x2)) σ r H)
      · rw [if_neg h3] at H
        refine xp_ok htr 8 (d + 1) 0 0 [eB false] 206 14 [some (.ref 53), some (.int x1), some (.int x2), none, none] [] (hM p σ τ) ⟨(xn_in g2), h3, ?_⟩
        show xv l Ω (d + 1) 0 0 206 26 [some (.ref 53), some (.int x1), some (.int x2), some (.int (σ 72 (Int32.toNatClampNeg x2))), none] [] (hM p σ τ) r
        cases g17 : xn (σ 72 (Int32.toNatClampNeg x2)) 80 with
        | false => rw [g17, cond_false] at H; exact False.elim H
        | true =>
          rw [g17, cond_true] at H
          by_cases h18 : (σ 71 (Int32.toNatClampNeg (σ 72 (Int32.toNatClampNeg x2)))) = 70
          · rw [if_pos h18] at H
            refine xp_ok htr 6 (d + 1) 0 0 [eB true] 206 26 [some (.ref 53), some (.int x1), some (.int x2), some (.int (σ 72 (Int32.toNatClampNeg x2))), none] [] (hM p σ τ) ⟨(xn_in g17), h18, ?_⟩
            show xv l Ω (d + 1) 0 0 206 48 [some (.ref 53), some (.int x1), some (.int x2), some (.int (σ 72 (Int32.toNatClampNeg x2))), none] [] (hM p σ τ) r
            exact xv_sub (L' := [some (.ref 53), some (.int x1), some (.int x2), some (.int (σ 72 (Int32.toNatClampNeg x2))), none]) ⟨rfl, ⟨rfl, ⟨rfl, ⟨rfl, trivial⟩⟩⟩⟩ (g206_48_ok htr d p τ x1 x2 (σ 72 (Int32.toNatClampNeg x2)) σ r H)
          · rw [if_neg h18] at H
            refine xp_ok htr 6 (d + 1) 0 0 [eB false] 206 26 [some (.ref 53), some (.int x1), some (.int x2), some (.int (σ 72 (Int32.toNatClampNeg x2))), none] [] (hM p σ τ) ⟨(xn_in g17), h18, ?_⟩
            show xv l Ω (d + 1) 0 0 206 37 [some (.ref 53), some (.int x1), some (.int x2), some (.int (σ 72 (Int32.toNatClampNeg x2))), none] [] (hM p σ τ) r
            by_cases h23 : (σ 71 (Int32.toNatClampNeg (σ 72 (Int32.toNatClampNeg x2)))) = 79
            · rw [if_pos h23] at H
              refine xp_ok htr 6 (d + 1) 0 0 [eB false] 206 37 [some (.ref 53), some (.int x1), some (.int x2), some (.int (σ 72 (Int32.toNatClampNeg x2))), none] [] (hM p σ τ) ⟨(xn_in g17), h23, ?_⟩
              show xv l Ω (d + 1) 0 0 206 48 [some (.ref 53), some (.int x1), some (.int x2), some (.int (σ 72 (Int32.toNatClampNeg x2))), none] [] (hM p σ τ) r
              exact xv_sub (L' := [some (.ref 53), some (.int x1), some (.int x2), some (.int (σ 72 (Int32.toNatClampNeg x2))), none]) ⟨rfl, ⟨rfl, ⟨rfl, ⟨rfl, trivial⟩⟩⟩⟩ (g206_48_ok htr d p τ x1 x2 (σ 72 (Int32.toNatClampNeg x2)) σ r H)
            · rw [if_neg h23] at H
              refine xp_ok htr 6 (d + 1) 0 0 [eB true] 206 37 [some (.ref 53), some (.int x1), some (.int x2), some (.int (σ 72 (Int32.toNatClampNeg x2))), none] [] (hM p σ τ) ⟨(xn_in g17), h23, ?_⟩
              show xv l Ω (d + 1) 0 0 206 61 [some (.ref 53), some (.int x1), some (.int x2), some (.int (σ 72 (Int32.toNatClampNeg x2))), none] [] (hM p σ τ) r
              exact xv_sub (L' := [some (.ref 53), some (.int x1), some (.int x2), some (.int (σ 72 (Int32.toNatClampNeg x2))), none]) ⟨rfl, ⟨rfl, ⟨rfl, ⟨rfl, trivial⟩⟩⟩⟩ (g206_61_ok htr d p τ x1 x2 (σ 72 (Int32.toNatClampNeg x2)) σ r H)
theorem g206_4_ok {l : Launch} {Ω : xo_O} (htr : xH l) (d : Nat) (p : Nat) (τ : Nat → Nat → Int64) (x1 : Int32) (x2 : Int32) (σ : xS) (r : xv_R) (H : xo (xB false p τ r) (g206_4 x1 x2 σ)) : xv l Ω (d + 1) 0 0 206 4 [some (.ref 53), some (.int x1), some (.int x2), none, none] [] (hM p σ τ) r :=
  xlo_ok (A := a206_4 l Ω d p τ r) (fun a H => g206_4b_ok htr d p τ a.1 a.2.1 a.2.2 r H) 1000 (x1, x2, σ) H
theorem g206_run {l : Launch} {Ω : xo_O} (htr : xH l) (d : Nat) (p : Nat) (τ : Nat → Nat → Int64)  (σ : xS) {q : xQ} (hq : g206  σ = some q) : xv l Ω (d + 1) 0 0 206 0 (xs_loc (xm_l 206) [.ref 53]) [] (hM p σ τ) (xq_R false p τ q) := by
  have H : xo (xB false p τ (xq_R false p τ q)) (g206  σ) := by rw [hq]; exact rfl
  generalize xq_R false p τ q = r at H ⊢
  show xv l Ω (d + 1) 0 0 206 0 [some (.ref 53), none, none, none, none] [] (hM p σ τ) r
  unfold g206 at H
  refine xp_ok htr 4 (d + 1) 0 0 [] 206 0 [some (.ref 53), none, none, none, none] [] (hM p σ τ) ?_
  show xv l Ω (d + 1) 0 0 206 4 [some (.ref 53), some (.int 0), some (.int 0), none, none] [] (hM p σ τ) r
  exact xv_sub (L' := [some (.ref 53), some (.int 0), some (.int 0), none, none]) ⟨rfl, ⟨rfl, ⟨rfl, trivial⟩⟩⟩ (g206_4_ok htr d p τ 0 0 σ r H)
/- AccessDeskModel.fulfilled -/
def g208_49 (x1 : Int32) (x2 : Int32) (k0 : Int32) (σ : xS) : Option xQ := (if k0 = 0 then (bif decide (k0 = 0 ∨ k0 = 1) then some ((Sum.inl k0, σ)) else none) else (if ((x1 >>> (4 &&& 31)) &&& 1) = 1 then (bif xn x2 6 then (bif decide (k0 = 0 ∨ k0 = 1) then some ((Sum.inl k0, (xh_ui σ 61 (Int32.toNatClampNeg x2) ((σ 61 (Int32.toNatClampNeg x2)) + 1)))) else none) else none) else (bif decide (k0 = 0 ∨ k0 = 1) then some ((Sum.inl k0, σ)) else none)))
def g208_48 (x1 : Int32) (x2 : Int32) (σ : xS) : Option xQ := g208_49 x1 x2 0 σ
def g208_44 (x1 : Int32) (x2 : Int32) (σ : xS) : Option xQ := g208_49 x1 x2 1 σ
def g208_24 (x1 : Int32) (x2 : Int32) (x3 : Int32) (σ : xS) : Option xQ := (if ((x1 >>> (5 &&& 31)) &&& 1) = 0 then g208_44 x1 x2 σ else (if x3 < 8 then g208_48 x1 x2 σ else (if 17 < x3 then g208_48 x1 x2 σ else g208_44 x1 x2 σ)))
def g208 (a1 : Int32) (a2 : Int32) (a3 : Int32) (σ : xS) : xO := (if 64 ≤ a1 then g208_48 a1 a2 σ else (if ((a1 >>> (4 &&& 31)) &&& 1) = 0 then g208_24 a1 a2 a3 σ else (bif xn a2 6 then (if 3 ≤ (σ 61 (Int32.toNatClampNeg a2)) then g208_48 a1 a2 σ else g208_24 a1 a2 a3 σ) else none)))
theorem g208_49_ok {l : Launch} {Ω : xo_O} (htr : xH l) (d : Nat) (p : Nat) (τ : Nat → Nat → Int64) (x1 : Int32) (x2 : Int32) (k0 : Int32) (σ : xS) (r : xv_R) (H : xo (xB false p τ r) (g208_49 x1 x2 k0 σ)) : xv l Ω d 0 0 208 49 [some (.ref 53), some (.int x1), some (.int x2), none, none] [.int k0] (hM p σ τ) r := by
  unfold g208_49 at H
  by_cases h2 : k0 = 0
  · rw [if_pos h2] at H
    refine xp_ok htr 3 d 0 0 [eB true] 208 49 [some (.ref 53), some (.int x1), some (.int x2), none, none] [.int k0] (hM p σ τ) ⟨h2, ?_⟩
    show xv l Ω d 0 0 208 75 [some (.ref 53), some (.int x1), some (.int x2), none, some (.int k0)] [] (hM p σ τ) r
    cases g3 : decide (k0 = 0 ∨ k0 = 1) with
    | false => rw [g3, cond_false] at H; exact False.elim H
    | true =>
      rw [g3, cond_true] at H
      exact xp_ok htr 2 d 0 0 [] 208 75 [some (.ref 53), some (.int x1), some (.int x2), none, some (.int k0)] [] (hM p σ τ) ⟨(xb01 g3), (Eq.symm H)⟩
  · rw [if_neg h2] at H
    refine xp_ok htr 3 d 0 0 [eB false] 208 49 [some (.ref 53), some (.int x1), some (.int x2), none, none] [.int k0] (hM p σ τ) ⟨h2, ?_⟩
    show xv l Ω d 0 0 208 56 [some (.ref 53), some (.int x1), some (.int x2), none, some (.int k0)] [] (hM p σ τ) r
    by_cases h4 : ((x1 >>> (4 &&& 31)) &&& 1) = 1
    · rw [if_pos h4] at H
      refine xp_ok htr 7 d 0 0 [eB false] 208 56 [some (.ref 53), some (.int x1), some (.int x2), none, some (.int k0)] [] (hM p σ τ) ⟨h4, ?_⟩
      show xv l Ω d 0 0 208 65 [some (.ref 53), some (.int x1), some (.int x2), none, some (.int k0)] [] (hM p σ τ) r
      cases g5 : xn x2 6 with
      | false => rw [g5, cond_false] at H; exact False.elim H
      | true =>
        rw [g5, cond_true] at H
        refine xp_ok htr 8 d 0 0 [] 208 65 [some (.ref 53), some (.int x1), some (.int x2), none, some (.int k0)] [] (hM p σ τ) ⟨(xn_in g5), (xn_in g5), ?_⟩
        show xv l Ω d 0 0 208 75 [some (.ref 53), some (.int x1), some (.int x2), none, some (.int k0)] [] (hM p (xh_ui σ 61 (Int32.toNatClampNeg x2) ((σ 61 (Int32.toNatClampNeg x2)) + 1)) τ) r
        cases g6 : decide (k0 = 0 ∨ k0 = 1) with
        | false => rw [g6, cond_false] at H; exact False.elim H
        | true =>
          rw [g6, cond_true] at H
          exact xp_ok htr 2 d 0 0 [] 208 75 [some (.ref 53), some (.int x1), some (.int x2), none, some (.int k0)] [] (hM p (xh_ui σ 61 (Int32.toNatClampNeg x2) ((σ 61 (Int32.toNatClampNeg x2)) + 1)) τ) ⟨(xb01 g6), (Eq.symm H)⟩
    · rw [if_neg h4] at H
      refine xp_ok htr 7 d 0 0 [eB true] 208 56 [some (.ref 53), some (.int x1), some (.int x2), none, some (.int k0)] [] (hM p σ τ) ⟨h4, ?_⟩
      show xv l Ω d 0 0 208 75 [some (.ref 53), some (.int x1), some (.int x2), none, some (.int k0)] [] (hM p σ τ) r
      cases g7 : decide (k0 = 0 ∨ k0 = 1) with
      | false => rw [g7, cond_false] at H; exact False.elim H
      | true =>
        rw [g7, cond_true] at H
        exact xp_ok htr 2 d 0 0 [] 208 75 [some (.ref 53), some (.int x1), some (.int x2), none, some (.int k0)] [] (hM p σ τ) ⟨(xb01 g7), (Eq.symm H)⟩
theorem g208_48_ok {l : Launch} {Ω : xo_O} (htr : xH l) (d : Nat) (p : Nat) (τ : Nat → Nat → Int64) (x1 : Int32) (x2 : Int32) (σ : xS) (r : xv_R) (H : xo (xB false p τ r) (g208_48 x1 x2 σ)) : xv l Ω d 0 0 208 48 [some (.ref 53), some (.int x1), some (.int x2), none, none] [] (hM p σ τ) r := by
  unfold g208_48 at H
  refine xp_ok htr 1 d 0 0 [] 208 48 [some (.ref 53), some (.int x1), some (.int x2), none, none] [] (hM p σ τ) ?_
  show xv l Ω d 0 0 208 49 [some (.ref 53), some (.int x1), some (.int x2), none, none] [.int 0] (hM p σ τ) r
  exact xv_sub (L' := [some (.ref 53), some (.int x1), some (.int x2), none, none]) ⟨rfl, ⟨rfl, ⟨rfl, trivial⟩⟩⟩ (g208_49_ok htr d p τ x1 x2 0 σ r H)
theorem g208_44_ok {l : Launch} {Ω : xo_O} (htr : xH l) (d : Nat) (p : Nat) (τ : Nat → Nat → Int64) (x1 : Int32) (x2 : Int32) (σ : xS) (r : xv_R) (H : xo (xB false p τ r) (g208_44 x1 x2 σ)) : xv l Ω d 0 0 208 44 [some (.ref 53), some (.int x1), some (.int x2), none, none] [] (hM p σ τ) r := by
  unfold g208_44 at H
  refine xp_ok htr 2 d 0 0 [] 208 44 [some (.ref 53), some (.int x1), some (.int x2), none, none] [] (hM p σ τ) ?_
  show xv l Ω d 0 0 208 49 [some (.ref 53), some (.int x1), some (.int x2), none, none] [.int 1] (hM p σ τ) r
  exact xv_sub (L' := [some (.ref 53), some (.int x1), some (.int x2), none, none]) ⟨rfl, ⟨rfl, ⟨rfl, trivial⟩⟩⟩ (g208_49_ok htr d p τ x1 x2 1 σ r H)
theorem g208_24_ok {l : Launch} {Ω : xo_O} (htr : xH l) (d : Nat) (p : Nat) (τ : Nat → Nat → Int64) (x1 : Int32) (x2 : Int32) (x3 : Int32) (σ : xS) (r : xv_R) (H : xo (xB false p τ r) (g208_24 x1 x2 x3 σ)) : xv l Ω d 0 0 208 24 [some (.ref 53), some (.int x1), some (.int x2), some (.int x3), none] [] (hM p σ τ) r := by
  unfold g208_24 at H
  by_cases h9 : ((x1 >>> (5 &&& 31)) &&& 1) = 0
  · rw [if_pos h9] at H
    refine xp_ok htr 6 d 0 0 [eB true] 208 24 [some (.ref 53), some (.int x1), some (.int x2), some (.int x3), none] [] (hM p σ τ) ⟨h9, ?_⟩
    show xv l Ω d 0 0 208 44 [some (.ref 53), some (.int x1), some (.int x2), some (.int x3), none] [] (hM p σ τ) r
    exact xv_sub (L' := [some (.ref 53), some (.int x1), some (.int x2), none, none]) ⟨rfl, ⟨rfl, ⟨rfl, trivial⟩⟩⟩ (g208_44_ok htr d p τ x1 x2 σ r H)
  · rw [if_neg h9] at H
    refine xp_ok htr 6 d 0 0 [eB false] 208 24 [some (.ref 53), some (.int x1), some (.int x2), some (.int x3), none] [] (hM p σ τ) ⟨h9, ?_⟩
    show xv l Ω d 0 0 208 32 [some (.ref 53), some (.int x1), some (.int x2), some (.int x3), none] [] (hM p σ τ) r
    by_cases h10 : x3 < 8
    · rw [if_pos h10] at H
      refine xp_ok htr 3 d 0 0 [eB true] 208 32 [some (.ref 53), some (.int x1), some (.int x2), some (.int x3), none] [] (hM p σ τ) ⟨h10, ?_⟩
      show xv l Ω d 0 0 208 48 [some (.ref 53), some (.int x1), some (.int x2), some (.int x3), none] [] (hM p σ τ) r
      exact xv_sub (L' := [some (.ref 53), some (.int x1), some (.int x2), none, none]) ⟨rfl, ⟨rfl, ⟨rfl, trivial⟩⟩⟩ (g208_48_ok htr d p τ x1 x2 σ r H)
    · rw [if_neg h10] at H
      refine xp_ok htr 3 d 0 0 [eB false] 208 32 [some (.ref 53), some (.int x1), some (.int x2), some (.int x3), none] [] (hM p σ τ) ⟨h10, ?_⟩
      show xv l Ω d 0 0 208 38 [some (.ref 53), some (.int x1), some (.int x2), some (.int x3), none] [] (hM p σ τ) r
      by_cases h11 : 17 < x3
      · rw [if_pos h11] at H
        refine xp_ok htr 3 d 0 0 [eB true] 208 38 [some (.ref 53), some (.int x1), some (.int x2), some (.int x3), none] [] (hM p σ τ) ⟨h11, ?_⟩
        show xv l Ω d 0 0 208 48 [some (.ref 53), some (.int x1), some (.int x2), some (.int x3), none] [] (hM p σ τ) r
        exact xv_sub (L' := [some (.ref 53), some (.int x1), some (.int x2), none, none]) ⟨rfl, ⟨rfl, ⟨rfl, trivial⟩⟩⟩ (g208_48_ok htr d p τ x1 x2 σ r H)
      · rw [if_neg h11] at H
        refine xp_ok htr 3 d 0 0 [eB false] 208 38 [some (.ref 53), some (.int x1), some (.int x2), some (.int x3), none] [] (hM p σ τ) ⟨h11, ?_⟩
        show xv l Ω d 0 0 208 44 [some (.ref 53), some (.int x1), some (.int x2), some (.int x3), none] [] (hM p σ τ) r
        exact xv_sub (L' := [some (.ref 53), some (.int x1), some (.int x2), none, none]) ⟨rfl, ⟨rfl, ⟨rfl, trivial⟩⟩⟩ (g208_44_ok htr d p τ x1 x2 σ r H)
theorem g208_run {l : Launch} {Ω : xo_O} (htr : xH l) (d : Nat) (p : Nat) (τ : Nat → Nat → Int64) (a1 : Int32) (a2 : Int32) (a3 : Int32) (σ : xS) {q : xQ} (hq : g208 a1 a2 a3 σ = some q) : xv l Ω d 0 0 208 0 (xs_loc (xm_l 208) [.ref 53, .int a1, .int a2, .int a3]) [] (hM p σ τ) (xq_R false p τ q) := by
  have H : xo (xB false p τ (xq_R false p τ q)) (g208 a1 a2 a3 σ) := by rw [hq]; exact rfl
  generalize xq_R false p τ q = r at H ⊢
  show xv l Ω d 0 0 208 0 [some (.ref 53), some (.int a1), some (.int a2), some (.int a3), none] [] (hM p σ τ) r
  unfold g208 at H
  by_cases h1 : 64 ≤ a1
  · rw [if_pos h1] at H
    refine xp_ok htr 3 d 0 0 [eB true] 208 0 [some (.ref 53), some (.int a1), some (.int a2), some (.int a3), none] [] (hM p σ τ) ⟨h1, ?_⟩
    show xv l Ω d 0 0 208 48 [some (.ref 53), some (.int a1), some (.int a2), some (.int a3), none] [] (hM p σ τ) r
    exact xv_sub (L' := [some (.ref 53), some (.int a1), some (.int a2), none, none]) ⟨rfl, ⟨rfl, ⟨rfl, trivial⟩⟩⟩ (g208_48_ok htr d p τ a1 a2 σ r H)
  · rw [if_neg h1] at H
    refine xp_ok htr 3 d 0 0 [eB false] 208 0 [some (.ref 53), some (.int a1), some (.int a2), some (.int a3), none] [] (hM p σ τ) ⟨h1, ?_⟩
    show xv l Ω d 0 0 208 6 [some (.ref 53), some (.int a1), some (.int a2), some (.int a3), none] [] (hM p σ τ) r
    by_cases h8 : ((a1 >>> (4 &&& 31)) &&& 1) = 0
    · rw [if_pos h8] at H
      refine xp_ok htr 6 d 0 0 [eB true] 208 6 [some (.ref 53), some (.int a1), some (.int a2), some (.int a3), none] [] (hM p σ τ) ⟨h8, ?_⟩
      show xv l Ω d 0 0 208 24 [some (.ref 53), some (.int a1), some (.int a2), some (.int a3), none] [] (hM p σ τ) r
      exact xv_sub (L' := [some (.ref 53), some (.int a1), some (.int a2), some (.int a3), none]) ⟨rfl, ⟨rfl, ⟨rfl, ⟨rfl, trivial⟩⟩⟩⟩ (g208_24_ok htr d p τ a1 a2 a3 σ r H)
    · rw [if_neg h8] at H
      refine xp_ok htr 6 d 0 0 [eB false] 208 6 [some (.ref 53), some (.int a1), some (.int a2), some (.int a3), none] [] (hM p σ τ) ⟨h8, ?_⟩
      show xv l Ω d 0 0 208 14 [some (.ref 53), some (.int a1), some (.int a2), some (.int a3), none] [] (hM p σ τ) r
      cases g12 : xn a2 6 with
      | false => rw [g12, cond_false] at H; exact False.elim H
      | true =>
        rw [g12, cond_true] at H
        by_cases h13 : 3 ≤ (σ 61 (Int32.toNatClampNeg a2))
        · rw [if_pos h13] at H
          refine xp_ok htr 6 d 0 0 [eB true] 208 14 [some (.ref 53), some (.int a1), some (.int a2), some (.int a3), none] [] (hM p σ τ) ⟨(xn_in g12), h13, ?_⟩
          show xv l Ω d 0 0 208 48 [some (.ref 53), some (.int a1), some (.int a2), some (.int a3), none] [] (hM p σ τ) r
          exact xv_sub (L' := [some (.ref 53), some (.int a1), some (.int a2), none, none]) ⟨rfl, ⟨rfl, ⟨rfl, trivial⟩⟩⟩ (g208_48_ok htr d p τ a1 a2 σ r H)
        · rw [if_neg h13] at H
          refine xp_ok htr 6 d 0 0 [eB false] 208 14 [some (.ref 53), some (.int a1), some (.int a2), some (.int a3), none] [] (hM p σ τ) ⟨(xn_in g12), h13, ?_⟩
          show xv l Ω d 0 0 208 24 [some (.ref 53), some (.int a1), some (.int a2), some (.int a3), none] [] (hM p σ τ) r
          exact xv_sub (L' := [some (.ref 53), some (.int a1), some (.int a2), some (.int a3), none]) ⟨rfl, ⟨rfl, ⟨rfl, ⟨rfl, trivial⟩⟩⟩⟩ (g208_24_ok htr d p τ a1 a2 a3 σ r H)
/- AccessDeskModel.linkOf -/
def g210_5b (x2 : Int32) (x3 : Int32) (x4 : Int32) (σ : xS) : Option ((Int32 × Int32 × Int32 × xS) ⊕ xQ) := (if 6 ≤ x4 then some (Sum.inr ((Sum.inl ((x3 ^^^ x2) * 16777619), σ))) else (bif xn ((7 * (x2 - x2 / 40 * 40)) + x4) 280 then some (Sum.inl (x2, ((x3 ^^^ (σ 91 (Int32.toNatClampNeg ((7 * (x2 - x2 / 40 * 40)) + x4)))) * 16777619), (x4 + 1), σ)) else none))
def g210_5 (x2 : Int32) (x3 : Int32) (x4 : Int32) (σ : xS) : Option xQ := xlo (fun a : Int32 × Int32 × Int32 × xS => g210_5b a.1 a.2.1 a.2.2.1 a.2.2.2) 1000 (x2, x3, x4, σ)
def g210 (a1 : Int32) (a2 : Int32) (σ : xS) : xO := g210_5 a2 a1 0 σ
def a210_5 (l : Launch) (Ω : xo_O) (d p : Nat) (τ : Nat → Nat → Int64) (r : xv_R) : Int32 × Int32 × Int32 × xS → Prop := fun a => xv l Ω d 0 0 210 5 [some (.ref 53), none, some (.int a.1), some (.int a.2.1), some (.int a.2.2.1)] [] (hM p a.2.2.2 τ) r
theorem g210_5b_ok {l : Launch} {Ω : xo_O} (htr : xH l) (d : Nat) (p : Nat) (τ : Nat → Nat → Int64) (x2 : Int32) (x3 : Int32) (x4 : Int32) (σ : xS) (r : xv_R) (H : xo (xd (a210_5 l Ω d p τ r) (xB false p τ r)) (g210_5b x2 x3 x4 σ)) : xv l Ω d 0 0 210 5 [some (.ref 53), none, some (.int x2), some (.int x3), some (.int x4)] [] (hM p σ τ) r := by
  unfold g210_5b at H
  by_cases h1 : 6 ≤ x4
  · rw [if_pos h1] at H
    refine xp_ok htr 3 d 0 0 [eB true] 210 5 [some (.ref 53), none, some (.int x2), some (.int x3), some (.int x4)] [] (hM p σ τ) ⟨h1, ?_⟩
    show xv l Ω d 0 0 210 40 [some (.ref 53), none, some (.int x2), some (.int x3), some (.int x4)] [] (hM p σ τ) r
    exact xp_ok htr 6 d 0 0 [] 210 40 [some (.ref 53), none, some (.int x2), some (.int x3), some (.int x4)] [] (hM p σ τ) ⟨trivial, (Eq.symm H)⟩
  · rw [if_neg h1] at H
    refine xp_ok htr 3 d 0 0 [eB false] 210 5 [some (.ref 53), none, some (.int x2), some (.int x3), some (.int x4)] [] (hM p σ τ) ⟨h1, ?_⟩
    show xv l Ω d 0 0 210 12 [some (.ref 53), none, some (.int x2), some (.int x3), some (.int x4)] [] (hM p σ τ) r
    refine xp_ok htr 8 d 0 0 [] 210 12 [some (.ref 53), none, some (.int x2), some (.int x3), some (.int x4)] [] (hM p σ τ) ⟨(by decide), ?_⟩
    show xv l Ω d 0 0 210 24 [some (.ref 53), none, some (.int x2), some (.int x3), some (.int x4)] [.int (7 * (x2 - x2 / 40 * 40)), .ref 91, .int x3] (hM p σ τ) r
    cases g2 : xn ((7 * (x2 - x2 / 40 * 40)) + x4) 280 with
    | false => rw [g2, cond_false] at H; exact False.elim H
    | true =>
      rw [g2, cond_true] at H
      refine xp_ok htr 8 d 0 0 [] 210 24 [some (.ref 53), none, some (.int x2), some (.int x3), some (.int x4)] [.int (7 * (x2 - x2 / 40 * 40)), .ref 91, .int x3] (hM p σ τ) ⟨(xn_in g2), ?_⟩
      show xv l Ω d 0 0 210 37 [some (.ref 53), none, some (.int x2), some (.int ((x3 ^^^ (σ 91 (Int32.toNatClampNeg ((7 * (x2 - x2 / 40 * 40)) + x4)))) * 16777619)), some (.int (x4 + 1))] [] (hM p σ τ) r
      refine xp_ok htr 1 d 0 0 [] 210 37 [some (.ref 53), none, some (.int x2), some (.int ((x3 ^^^ (σ 91 (Int32.toNatClampNeg ((7 * (x2 - x2 / 40 * 40)) + x4)))) * 16777619)), some (.int (x4 + 1))] [] (hM p σ τ) ?_
      show xv l Ω d 0 0 210 5 [some (.ref 53), none, some (.int x2), some (.int ((x3 ^^^ (σ 91 (Int32.toNatClampNeg ((7 * (x2 - x2 / 40 * 40)) + x4)))) * 16777619)), some (.int (x4 + 1))] [] (hM p σ τ) r
      exact xv_sub (L' := [some (.ref 53), none, some (.int x2), some (.int ((x3 ^^^ (σ 91 (Int32.toNatClampNeg ((7 * (x2 - x2 / 40 * 40)) + x4)))) * 16777619)), some (.int (x4 + 1))]) ⟨rfl, ⟨rfl, ⟨rfl, ⟨rfl, trivial⟩⟩⟩⟩ H
theorem g210_5_ok {l : Launch} {Ω : xo_O} (htr : xH l) (d : Nat) (p : Nat) (τ : Nat → Nat → Int64) (x2 : Int32) (x3 : Int32) (x4 : Int32) (σ : xS) (r : xv_R) (H : xo (xB false p τ r) (g210_5 x2 x3 x4 σ)) : xv l Ω d 0 0 210 5 [some (.ref 53), none, some (.int x2), some (.int x3), some (.int x4)] [] (hM p σ τ) r :=
  xlo_ok (A := a210_5 l Ω d p τ r) (fun a H => g210_5b_ok htr d p τ a.1 a.2.1 a.2.2.1 a.2.2.2 r H) 1000 (x2, x3, x4, σ) H
theorem g210_run {l : Launch} {Ω : xo_O} (htr : xH l) (d : Nat) (p : Nat) (τ : Nat → Nat → Int64) (a1 : Int32) (a2 : Int32) (σ : xS) {q : xQ} (hq : g210 a1 a2 σ = some q) : xv l Ω d 0 0 210 0 (xs_loc (xm_l 210) [.ref 53, .int a1, .int a2]) [] (hM p σ τ) (xq_R false p τ q) := by
  have H : xo (xB false p τ (xq_R false p τ q)) (g210 a1 a2 σ) := by rw [hq]; exact rfl
  generalize xq_R false p τ q = r at H ⊢
  show xv l Ω d 0 0 210 0 [some (.ref 53), some (.int a1), some (.int a2), none, none] [] (hM p σ τ) r
  unfold g210 at H
  refine xp_ok htr 4 d 0 0 [] 210 0 [some (.ref 53), some (.int a1), some (.int a2), none, none] [] (hM p σ τ) ?_
  show xv l Ω d 0 0 210 5 [some (.ref 53), some (.int a1), some (.int a2), some (.int a1), some (.int 0)] [] (hM p σ τ) r
  exact xv_sub (L' := [some (.ref 53), none, some (.int a2), some (.int a1), some (.int 0)]) ⟨rfl, ⟨rfl, ⟨rfl, ⟨rfl, trivial⟩⟩⟩⟩ (g210_5_ok htr d p τ a2 a1 0 σ r H)
/- AccessDeskModel.write -/
def g209_147 (x7 : Int32) (x8 : Int32) (k1 : Int32) (k2 : Int32) (σ : xS) : Option xQ := (bif xn k1 280 then (match g210 x7 ((xh_ui σ 91 (Int32.toNatClampNeg k1) k2) 53 51) (xh_ui σ 91 (Int32.toNatClampNeg k1) k2) with | some (Sum.inl v10, s11) => (bif xn (x8 + 6) 280 then some ((Sum.inl 0, (xh_ui (xh_ui s11 91 (Int32.toNatClampNeg (x8 + 6)) v10) 53 51 (((xh_ui s11 91 (Int32.toNatClampNeg (x8 + 6)) v10) 53 51) + 1)))) else none) | some (Sum.inr v10, s11) => none | none => none) else none)
def g209_67 (x1 : Int32) (x2 : Int32) (x3 : Int32) (x4 : Int32) (x5 : Int32) (x6 : Int32) (x7 : Int32) (σ : xS) : Option xQ := (bif xn (7 * ((σ 53 51) - (σ 53 51) / 40 * 40)) 280 then (bif xn ((7 * ((σ 53 51) - (σ 53 51) / 40 * 40)) + 1) 280 then (bif xn ((7 * ((σ 53 51) - (σ 53 51) / 40 * 40)) + 2) 280 then (bif xn ((7 * ((σ 53 51) - (σ 53 51) / 40 * 40)) + 3) 280 then (bif xn ((7 * ((σ 53 51) - (σ 53 51) / 40 * 40)) + 4) 280 then (if x6 = 0 then g209_147 x7 (7 * ((σ 53 51) - (σ 53 51) / 40 * 40)) ((7 * ((σ 53 51) - (σ 53 51) / 40 * 40)) + 5) 0 (xh_ui (xh_ui (xh_ui (xh_ui (xh_ui σ 91 (Int32.toNatClampNeg (7 * ((σ 53 51) - (σ 53 51) / 40 * 40))) x1) 91 (Int32.toNatClampNeg ((7 * ((σ 53 51) - (σ 53 51) / 40 * 40)) + 1)) x2) 91 (Int32.toNatClampNeg ((7 * ((σ 53 51) - (σ 53 51) / 40 * 40)) + 2)) x3) 91 (Int32.toNatClampNeg ((7 * ((σ 53 51) - (σ 53 51) / 40 * 40)) + 3)) x4) 91 (Int32.toNatClampNeg ((7 * ((σ 53 51) - (σ 53 51) / 40 * 40)) + 4)) x5) else g209_147 x7 (7 * ((σ 53 51) - (σ 53 51) / 40 * 40)) ((7 * ((σ 53 51) - (σ 53 51) / 40 * 40)) + 5) 1 (xh_ui (xh_ui (xh_ui (xh_ui (xh_ui σ 91 (Int32.toNatClampNeg (7 * ((σ 53 51) - (σ 53 51) / 40 * 40))) x1) 91 (Int32.toNatClampNeg ((7 * ((σ 53 51) - (σ 53 51) / 40 * 40)) + 1)) x2) 91 (Int32.toNatClampNeg ((7 * ((σ 53 51) - (σ 53 51) / 40 * 40)) + 2)) x3) 91 (Int32.toNatClampNeg ((7 * ((σ 53 51) - (σ 53 51) / 40 * 40)) + 3)) x4) 91 (Int32.toNatClampNeg ((7 * ((σ 53 51) - (σ 53 51) / 40 * 40)) + 4)) x5)) else none) else none) else none) else none) else none)
def g209_34 (x1 : Int32) (x2 : Int32) (x3 : Int32) (x4 : Int32) (x5 : Int32) (x6 : Int32) (k0 : Int32) (σ : xS) : Option xQ := (if (σ 53 51) < 40 then g209_67 x1 x2 x3 x4 x5 x6 k0 σ else (bif xn ((7 * ((σ 53 51) - (σ 53 51) / 40 * 40)) + 6) 280 then g209_67 x1 x2 x3 x4 x5 x6 k0 (xh_ui σ 53 52 (σ 91 (Int32.toNatClampNeg ((7 * ((σ 53 51) - (σ 53 51) / 40 * 40)) + 6)))) else none))
def g209 (a1 : Int32) (a2 : Int32) (a3 : Int32) (a4 : Int32) (a5 : Int32) (a6 : Int32) (σ : xS) : xO := (if (σ 53 51) = 0 then g209_34 a1 a2 a3 a4 a5 a6 (σ 53 52) σ else (bif xn ((7 * (((σ 53 51) - 1) - ((σ 53 51) - 1) / 40 * 40)) + 6) 280 then g209_34 a1 a2 a3 a4 a5 a6 (σ 91 (Int32.toNatClampNeg ((7 * (((σ 53 51) - 1) - ((σ 53 51) - 1) / 40 * 40)) + 6))) σ else none))
theorem g209_147_ok {l : Launch} {Ω : xo_O} (htr : xH l) (d : Nat) (p : Nat) (τ : Nat → Nat → Int64) (x7 : Int32) (x8 : Int32) (k1 : Int32) (k2 : Int32) (σ : xS) (r : xv_R) (H : xo (xB true p τ r) (g209_147 x7 x8 k1 k2 σ)) : xv l Ω (d + 1) 0 0 209 147 [some (.ref 53), none, none, none, none, none, none, some (.int x7), some (.int x8)] [.int k2, .int k1, .ref 91] (hM p σ τ) r := by
  unfold g209_147 at H
  cases g9 : xn k1 280 with
  | false => rw [g9, cond_false] at H; exact False.elim H
  | true =>
    rw [g9, cond_true] at H
    refine xp_ok htr 8 (d + 1) 0 0 [] 209 147 [some (.ref 53), none, none, none, none, none, none, some (.int x7), some (.int x8)] [.int k2, .int k1, .ref 91] (hM p σ τ) ⟨(xn_in g9), ?_⟩
    show xv l Ω (d + 1) 0 0 209 160 [some (.ref 53), none, none, none, none, none, none, some (.int x7), some (.int x8)] [.int x7, .ref 53, .int (x8 + 6), .ref 91] (hM p (xh_ui σ 91 (Int32.toNatClampNeg k1) k2) τ) r
    cases q12 : g210 x7 ((xh_ui σ 91 (Int32.toNatClampNeg k1) k2) 53 51) (xh_ui σ 91 (Int32.toNatClampNeg k1) k2) with
    | none => rw [q12] at H; exact False.elim H
    | some q120 =>
      obtain ⟨v10 | v10, s11⟩ := q120
      · rw [q12] at H; dsimp only at H
        have hc := g210_run (Ω := Ω) htr d p τ x7 ((xh_ui σ 91 (Int32.toNatClampNeg k1) k2) 53 51) (xh_ui σ 91 (Int32.toNatClampNeg k1) k2) q12
        refine xp_ok htr 3 (d + 1) 0 0 [eC (some (.int v10)) (hM p s11 τ)] 209 160 [some (.ref 53), none, none, none, none, none, none, some (.int x7), some (.int x8)] [.int x7, .ref 53, .int (x8 + 6), .ref 91] (hM p (xh_ui σ 91 (Int32.toNatClampNeg k1) k2) τ) ⟨hc, ?_⟩
        show xv l Ω (d + 1) 0 0 209 167 [some (.ref 53), none, none, none, none, none, none, some (.int x7), some (.int x8)] [.int v10, .int (x8 + 6), .ref 91] (hM p s11 τ) r
        cases g13 : xn (x8 + 6) 280 with
        | false => rw [g13, cond_false] at H; exact False.elim H
        | true =>
          rw [g13, cond_true] at H
          exact xp_ok htr 8 (d + 1) 0 0 [] 209 167 [some (.ref 53), none, none, none, none, none, none, some (.int x7), some (.int x8)] [.int v10, .int (x8 + 6), .ref 91] (hM p s11 τ) ⟨(xn_in g13), trivial, (Eq.symm H)⟩
      · rw [q12] at H; exact False.elim H
theorem g209_67_ok {l : Launch} {Ω : xo_O} (htr : xH l) (d : Nat) (p : Nat) (τ : Nat → Nat → Int64) (x1 : Int32) (x2 : Int32) (x3 : Int32) (x4 : Int32) (x5 : Int32) (x6 : Int32) (x7 : Int32) (σ : xS) (r : xv_R) (H : xo (xB true p τ r) (g209_67 x1 x2 x3 x4 x5 x6 x7 σ)) : xv l Ω (d + 1) 0 0 209 67 [some (.ref 53), some (.int x1), some (.int x2), some (.int x3), some (.int x4), some (.int x5), some (.int x6), some (.int x7), none] [] (hM p σ τ) r := by
  unfold g209_67 at H
  refine xp_ok htr 8 (d + 1) 0 0 [] 209 67 [some (.ref 53), some (.int x1), some (.int x2), some (.int x3), some (.int x4), some (.int x5), some (.int x6), some (.int x7), none] [] (hM p σ τ) ⟨(by decide), ?_⟩
  show xv l Ω (d + 1) 0 0 209 80 [some (.ref 53), some (.int x1), some (.int x2), some (.int x3), some (.int x4), some (.int x5), some (.int x6), some (.int x7), some (.int (7 * ((σ 53 51) - (σ 53 51) / 40 * 40)))] [.ref 53] (hM p σ τ) r
  cases g3 : xn (7 * ((σ 53 51) - (σ 53 51) / 40 * 40)) 280 with
  | false => rw [g3, cond_false] at H; exact False.elim H
  | true =>
    rw [g3, cond_true] at H
    refine xp_ok htr 8 (d + 1) 0 0 [] 209 80 [some (.ref 53), some (.int x1), some (.int x2), some (.int x3), some (.int x4), some (.int x5), some (.int x6), some (.int x7), some (.int (7 * ((σ 53 51) - (σ 53 51) / 40 * 40)))] [.ref 53] (hM p σ τ) ⟨(xn_in g3), ?_⟩
    show xv l Ω (d + 1) 0 0 209 94 [some (.ref 53), some (.int x1), some (.int x2), some (.int x3), some (.int x4), some (.int x5), some (.int x6), some (.int x7), some (.int (7 * ((σ 53 51) - (σ 53 51) / 40 * 40)))] [.int 1, .int (7 * ((σ 53 51) - (σ 53 51) / 40 * 40)), .ref 91] (hM p (xh_ui σ 91 (Int32.toNatClampNeg (7 * ((σ 53 51) - (σ 53 51) / 40 * 40))) x1) τ) r
    cases g4 : xn ((7 * ((σ 53 51) - (σ 53 51) / 40 * 40)) + 1) 280 with
    | false => rw [g4, cond_false] at H; exact False.elim H
    | true =>
      rw [g4, cond_true] at H
      refine xp_ok htr 8 (d + 1) 0 0 [] 209 94 [some (.ref 53), some (.int x1), some (.int x2), some (.int x3), some (.int x4), some (.int x5), some (.int x6), some (.int x7), some (.int (7 * ((σ 53 51) - (σ 53 51) / 40 * 40)))] [.int 1, .int (7 * ((σ 53 51) - (σ 53 51) / 40 * 40)), .ref 91] (hM p (xh_ui σ 91 (Int32.toNatClampNeg (7 * ((σ 53 51) - (σ 53 51) / 40 * 40))) x1) τ) ⟨(xn_in g4), ?_⟩
      show xv l Ω (d + 1) 0 0 209 105 [some (.ref 53), some (.int x1), some (.int x2), some (.int x3), some (.int x4), some (.int x5), some (.int x6), some (.int x7), some (.int (7 * ((σ 53 51) - (σ 53 51) / 40 * 40)))] [.int ((7 * ((σ 53 51) - (σ 53 51) / 40 * 40)) + 2), .ref 91] (hM p (xh_ui (xh_ui σ 91 (Int32.toNatClampNeg (7 * ((σ 53 51) - (σ 53 51) / 40 * 40))) x1) 91 (Int32.toNatClampNeg ((7 * ((σ 53 51) - (σ 53 51) / 40 * 40)) + 1)) x2) τ) r
      cases g5 : xn ((7 * ((σ 53 51) - (σ 53 51) / 40 * 40)) + 2) 280 with
      | false => rw [g5, cond_false] at H; exact False.elim H
      | true =>
        rw [g5, cond_true] at H
        refine xp_ok htr 8 (d + 1) 0 0 [] 209 105 [some (.ref 53), some (.int x1), some (.int x2), some (.int x3), some (.int x4), some (.int x5), some (.int x6), some (.int x7), some (.int (7 * ((σ 53 51) - (σ 53 51) / 40 * 40)))] [.int ((7 * ((σ 53 51) - (σ 53 51) / 40 * 40)) + 2), .ref 91] (hM p (xh_ui (xh_ui σ 91 (Int32.toNatClampNeg (7 * ((σ 53 51) - (σ 53 51) / 40 * 40))) x1) 91 (Int32.toNatClampNeg ((7 * ((σ 53 51) - (σ 53 51) / 40 * 40)) + 1)) x2) τ) ⟨(xn_in g5), ?_⟩
        show xv l Ω (d + 1) 0 0 209 117 [some (.ref 53), some (.int x1), some (.int x2), some (.int x3), some (.int x4), some (.int x5), some (.int x6), some (.int x7), some (.int (7 * ((σ 53 51) - (σ 53 51) / 40 * 40)))] [.int x4, .int ((7 * ((σ 53 51) - (σ 53 51) / 40 * 40)) + 3), .ref 91] (hM p (xh_ui (xh_ui (xh_ui σ 91 (Int32.toNatClampNeg (7 * ((σ 53 51) - (σ 53 51) / 40 * 40))) x1) 91 (Int32.toNatClampNeg ((7 * ((σ 53 51) - (σ 53 51) / 40 * 40)) + 1)) x2) 91 (Int32.toNatClampNeg ((7 * ((σ 53 51) - (σ 53 51) / 40 * 40)) + 2)) x3) τ) r
        cases g6 : xn ((7 * ((σ 53 51) - (σ 53 51) / 40 * 40)) + 3) 280 with
        | false => rw [g6, cond_false] at H; exact False.elim H
        | true =>
          rw [g6, cond_true] at H
          cases g7 : xn ((7 * ((σ 53 51) - (σ 53 51) / 40 * 40)) + 4) 280 with
          | false => rw [g7, cond_false] at H; exact False.elim H
          | true =>
            rw [g7, cond_true] at H
            refine xp_ok htr 8 (d + 1) 0 0 [] 209 117 [some (.ref 53), some (.int x1), some (.int x2), some (.int x3), some (.int x4), some (.int x5), some (.int x6), some (.int x7), some (.int (7 * ((σ 53 51) - (σ 53 51) / 40 * 40)))] [.int x4, .int ((7 * ((σ 53 51) - (σ 53 51) / 40 * 40)) + 3), .ref 91] (hM p (xh_ui (xh_ui (xh_ui σ 91 (Int32.toNatClampNeg (7 * ((σ 53 51) - (σ 53 51) / 40 * 40))) x1) 91 (Int32.toNatClampNeg ((7 * ((σ 53 51) - (σ 53 51) / 40 * 40)) + 1)) x2) 91 (Int32.toNatClampNeg ((7 * ((σ 53 51) - (σ 53 51) / 40 * 40)) + 2)) x3) τ) ⟨(xn_in g6), (xn_in g7), ?_⟩
            show xv l Ω (d + 1) 0 0 209 129 [some (.ref 53), some (.int x1), some (.int x2), some (.int x3), some (.int x4), some (.int x5), some (.int x6), some (.int x7), some (.int (7 * ((σ 53 51) - (σ 53 51) / 40 * 40)))] [] (hM p (xh_ui (xh_ui (xh_ui (xh_ui (xh_ui σ 91 (Int32.toNatClampNeg (7 * ((σ 53 51) - (σ 53 51) / 40 * 40))) x1) 91 (Int32.toNatClampNeg ((7 * ((σ 53 51) - (σ 53 51) / 40 * 40)) + 1)) x2) 91 (Int32.toNatClampNeg ((7 * ((σ 53 51) - (σ 53 51) / 40 * 40)) + 2)) x3) 91 (Int32.toNatClampNeg ((7 * ((σ 53 51) - (σ 53 51) / 40 * 40)) + 3)) x4) 91 (Int32.toNatClampNeg ((7 * ((σ 53 51) - (σ 53 51) / 40 * 40)) + 4)) x5) τ) r
            by_cases h8 : x6 = 0
            · rw [if_pos h8] at H
              refine xp_ok htr 7 (d + 1) 0 0 [eB true] 209 129 [some (.ref 53), some (.int x1), some (.int x2), some (.int x3), some (.int x4), some (.int x5), some (.int x6), some (.int x7), some (.int (7 * ((σ 53 51) - (σ 53 51) / 40 * 40)))] [] (hM p (xh_ui (xh_ui (xh_ui (xh_ui (xh_ui σ 91 (Int32.toNatClampNeg (7 * ((σ 53 51) - (σ 53 51) / 40 * 40))) x1) 91 (Int32.toNatClampNeg ((7 * ((σ 53 51) - (σ 53 51) / 40 * 40)) + 1)) x2) 91 (Int32.toNatClampNeg ((7 * ((σ 53 51) - (σ 53 51) / 40 * 40)) + 2)) x3) 91 (Int32.toNatClampNeg ((7 * ((σ 53 51) - (σ 53 51) / 40 * 40)) + 3)) x4) 91 (Int32.toNatClampNeg ((7 * ((σ 53 51) - (σ 53 51) / 40 * 40)) + 4)) x5) τ) ⟨h8, ?_⟩
              show xv l Ω (d + 1) 0 0 209 146 [some (.ref 53), some (.int x1), some (.int x2), some (.int x3), some (.int x4), some (.int x5), some (.int x6), some (.int x7), some (.int (7 * ((σ 53 51) - (σ 53 51) / 40 * 40)))] [.int ((7 * ((σ 53 51) - (σ 53 51) / 40 * 40)) + 5), .ref 91] (hM p (xh_ui (xh_ui (xh_ui (xh_ui (xh_ui σ 91 (Int32.toNatClampNeg (7 * ((σ 53 51) - (σ 53 51) / 40 * 40))) x1) 91 (Int32.toNatClampNeg ((7 * ((σ 53 51) - (σ 53 51) / 40 * 40)) + 1)) x2) 91 (Int32.toNatClampNeg ((7 * ((σ 53 51) - (σ 53 51) / 40 * 40)) + 2)) x3) 91 (Int32.toNatClampNeg ((7 * ((σ 53 51) - (σ 53 51) / 40 * 40)) + 3)) x4) 91 (Int32.toNatClampNeg ((7 * ((σ 53 51) - (σ 53 51) / 40 * 40)) + 4)) x5) τ) r
              refine xp_ok htr 1 (d + 1) 0 0 [] 209 146 [some (.ref 53), some (.int x1), some (.int x2), some (.int x3), some (.int x4), some (.int x5), some (.int x6), some (.int x7), some (.int (7 * ((σ 53 51) - (σ 53 51) / 40 * 40)))] [.int ((7 * ((σ 53 51) - (σ 53 51) / 40 * 40)) + 5), .ref 91] (hM p (xh_ui (xh_ui (xh_ui (xh_ui (xh_ui σ 91 (Int32.toNatClampNeg (7 * ((σ 53 51) - (σ 53 51) / 40 * 40))) x1) 91 (Int32.toNatClampNeg ((7 * ((σ 53 51) - (σ 53 51) / 40 * 40)) + 1)) x2) 91 (Int32.toNatClampNeg ((7 * ((σ 53 51) - (σ 53 51) / 40 * 40)) + 2)) x3) 91 (Int32.toNatClampNeg ((7 * ((σ 53 51) - (σ 53 51) / 40 * 40)) + 3)) x4) 91 (Int32.toNatClampNeg ((7 * ((σ 53 51) - (σ 53 51) / 40 * 40)) + 4)) x5) τ) ?_
              show xv l Ω (d + 1) 0 0 209 147 [some (.ref 53), some (.int x1), some (.int x2), some (.int x3), some (.int x4), some (.int x5), some (.int x6), some (.int x7), some (.int (7 * ((σ 53 51) - (σ 53 51) / 40 * 40)))] [.int 0, .int ((7 * ((σ 53 51) - (σ 53 51) / 40 * 40)) + 5), .ref 91] (hM p (xh_ui (xh_ui (xh_ui (xh_ui (xh_ui σ 91 (Int32.toNatClampNeg (7 * ((σ 53 51) - (σ 53 51) / 40 * 40))) x1) 91 (Int32.toNatClampNeg ((7 * ((σ 53 51) - (σ 53 51) / 40 * 40)) + 1)) x2) 91 (Int32.toNatClampNeg ((7 * ((σ 53 51) - (σ 53 51) / 40 * 40)) + 2)) x3) 91 (Int32.toNatClampNeg ((7 * ((σ 53 51) - (σ 53 51) / 40 * 40)) + 3)) x4) 91 (Int32.toNatClampNeg ((7 * ((σ 53 51) - (σ 53 51) / 40 * 40)) + 4)) x5) τ) r
              exact xv_sub (L' := [some (.ref 53), none, none, none, none, none, none, some (.int x7), some (.int (7 * ((σ 53 51) - (σ 53 51) / 40 * 40)))]) ⟨rfl, ⟨rfl, ⟨rfl, trivial⟩⟩⟩ (g209_147_ok htr d p τ x7 (7 * ((σ 53 51) - (σ 53 51) / 40 * 40)) ((7 * ((σ 53 51) - (σ 53 51) / 40 * 40)) + 5) 0 (xh_ui (xh_ui (xh_ui (xh_ui (xh_ui σ 91 (Int32.toNatClampNeg (7 * ((σ 53 51) - (σ 53 51) / 40 * 40))) x1) 91 (Int32.toNatClampNeg ((7 * ((σ 53 51) - (σ 53 51) / 40 * 40)) + 1)) x2) 91 (Int32.toNatClampNeg ((7 * ((σ 53 51) - (σ 53 51) / 40 * 40)) + 2)) x3) 91 (Int32.toNatClampNeg ((7 * ((σ 53 51) - (σ 53 51) / 40 * 40)) + 3)) x4) 91 (Int32.toNatClampNeg ((7 * ((σ 53 51) - (σ 53 51) / 40 * 40)) + 4)) x5) r H)
            · rw [if_neg h8] at H
              refine xp_ok htr 7 (d + 1) 0 0 [eB false] 209 129 [some (.ref 53), some (.int x1), some (.int x2), some (.int x3), some (.int x4), some (.int x5), some (.int x6), some (.int x7), some (.int (7 * ((σ 53 51) - (σ 53 51) / 40 * 40)))] [] (hM p (xh_ui (xh_ui (xh_ui (xh_ui (xh_ui σ 91 (Int32.toNatClampNeg (7 * ((σ 53 51) - (σ 53 51) / 40 * 40))) x1) 91 (Int32.toNatClampNeg ((7 * ((σ 53 51) - (σ 53 51) / 40 * 40)) + 1)) x2) 91 (Int32.toNatClampNeg ((7 * ((σ 53 51) - (σ 53 51) / 40 * 40)) + 2)) x3) 91 (Int32.toNatClampNeg ((7 * ((σ 53 51) - (σ 53 51) / 40 * 40)) + 3)) x4) 91 (Int32.toNatClampNeg ((7 * ((σ 53 51) - (σ 53 51) / 40 * 40)) + 4)) x5) τ) ⟨h8, ?_⟩
              show xv l Ω (d + 1) 0 0 209 142 [some (.ref 53), some (.int x1), some (.int x2), some (.int x3), some (.int x4), some (.int x5), some (.int x6), some (.int x7), some (.int (7 * ((σ 53 51) - (σ 53 51) / 40 * 40)))] [.int ((7 * ((σ 53 51) - (σ 53 51) / 40 * 40)) + 5), .ref 91] (hM p (xh_ui (xh_ui (xh_ui (xh_ui (xh_ui σ 91 (Int32.toNatClampNeg (7 * ((σ 53 51) - (σ 53 51) / 40 * 40))) x1) 91 (Int32.toNatClampNeg ((7 * ((σ 53 51) - (σ 53 51) / 40 * 40)) + 1)) x2) 91 (Int32.toNatClampNeg ((7 * ((σ 53 51) - (σ 53 51) / 40 * 40)) + 2)) x3) 91 (Int32.toNatClampNeg ((7 * ((σ 53 51) - (σ 53 51) / 40 * 40)) + 3)) x4) 91 (Int32.toNatClampNeg ((7 * ((σ 53 51) - (σ 53 51) / 40 * 40)) + 4)) x5) τ) r
              refine xp_ok htr 2 (d + 1) 0 0 [] 209 142 [some (.ref 53), some (.int x1), some (.int x2), some (.int x3), some (.int x4), some (.int x5), some (.int x6), some (.int x7), some (.int (7 * ((σ 53 51) - (σ 53 51) / 40 * 40)))] [.int ((7 * ((σ 53 51) - (σ 53 51) / 40 * 40)) + 5), .ref 91] (hM p (xh_ui (xh_ui (xh_ui (xh_ui (xh_ui σ 91 (Int32.toNatClampNeg (7 * ((σ 53 51) - (σ 53 51) / 40 * 40))) x1) 91 (Int32.toNatClampNeg ((7 * ((σ 53 51) - (σ 53 51) / 40 * 40)) + 1)) x2) 91 (Int32.toNatClampNeg ((7 * ((σ 53 51) - (σ 53 51) / 40 * 40)) + 2)) x3) 91 (Int32.toNatClampNeg ((7 * ((σ 53 51) - (σ 53 51) / 40 * 40)) + 3)) x4) 91 (Int32.toNatClampNeg ((7 * ((σ 53 51) - (σ 53 51) / 40 * 40)) + 4)) x5) τ) ?_
              show xv l Ω (d + 1) 0 0 209 147 [some (.ref 53), some (.int x1), some (.int x2), some (.int x3), some (.int x4), some (.int x5), some (.int x6), some (.int x7), some (.int (7 * ((σ 53 51) - (σ 53 51) / 40 * 40)))] [.int 1, .int ((7 * ((σ 53 51) - (σ 53 51) / 40 * 40)) + 5), .ref 91] (hM p (xh_ui (xh_ui (xh_ui (xh_ui (xh_ui σ 91 (Int32.toNatClampNeg (7 * ((σ 53 51) - (σ 53 51) / 40 * 40))) x1) 91 (Int32.toNatClampNeg ((7 * ((σ 53 51) - (σ 53 51) / 40 * 40)) + 1)) x2) 91 (Int32.toNatClampNeg ((7 * ((σ 53 51) - (σ 53 51) / 40 * 40)) + 2)) x3) 91 (Int32.toNatClampNeg ((7 * ((σ 53 51) - (σ 53 51) / 40 * 40)) + 3)) x4) 91 (Int32.toNatClampNeg ((7 * ((σ 53 51) - (σ 53 51) / 40 * 40)) + 4)) x5) τ) r
              exact xv_sub (L' := [some (.ref 53), none, none, none, none, none, none, some (.int x7), some (.int (7 * ((σ 53 51) - (σ 53 51) / 40 * 40)))]) ⟨rfl, ⟨rfl, ⟨rfl, trivial⟩⟩⟩ (g209_147_ok htr d p τ x7 (7 * ((σ 53 51) - (σ 53 51) / 40 * 40)) ((7 * ((σ 53 51) - (σ 53 51) / 40 * 40)) + 5) 1 (xh_ui (xh_ui (xh_ui (xh_ui (xh_ui σ 91 (Int32.toNatClampNeg (7 * ((σ 53 51) - (σ 53 51) / 40 * 40))) x1) 91 (Int32.toNatClampNeg ((7 * ((σ 53 51) - (σ 53 51) / 40 * 40)) + 1)) x2) 91 (Int32.toNatClampNeg ((7 * ((σ 53 51) - (σ 53 51) / 40 * 40)) + 2)) x3) 91 (Int32.toNatClampNeg ((7 * ((σ 53 51) - (σ 53 51) / 40 * 40)) + 3)) x4) 91 (Int32.toNatClampNeg ((7 * ((σ 53 51) - (σ 53 51) / 40 * 40)) + 4)) x5) r H)
theorem g209_34_ok {l : Launch} {Ω : xo_O} (htr : xH l) (d : Nat) (p : Nat) (τ : Nat → Nat → Int64) (x1 : Int32) (x2 : Int32) (x3 : Int32) (x4 : Int32) (x5 : Int32) (x6 : Int32) (k0 : Int32) (σ : xS) (r : xv_R) (H : xo (xB true p τ r) (g209_34 x1 x2 x3 x4 x5 x6 k0 σ)) : xv l Ω (d + 1) 0 0 209 34 [some (.ref 53), some (.int x1), some (.int x2), some (.int x3), some (.int x4), some (.int x5), some (.int x6), none, none] [.int k0] (hM p σ τ) r := by
  unfold g209_34 at H
  by_cases h2 : (σ 53 51) < 40
  · rw [if_pos h2] at H
    refine xp_ok htr 5 (d + 1) 0 0 [eB true] 209 34 [some (.ref 53), some (.int x1), some (.int x2), some (.int x3), some (.int x4), some (.int x5), some (.int x6), none, none] [.int k0] (hM p σ τ) ⟨h2, ?_⟩
    show xv l Ω (d + 1) 0 0 209 67 [some (.ref 53), some (.int x1), some (.int x2), some (.int x3), some (.int x4), some (.int x5), some (.int x6), some (.int k0), none] [] (hM p σ τ) r
    exact xv_sub (L' := [some (.ref 53), some (.int x1), some (.int x2), some (.int x3), some (.int x4), some (.int x5), some (.int x6), some (.int k0), none]) ⟨rfl, ⟨rfl, ⟨rfl, ⟨rfl, ⟨rfl, ⟨rfl, ⟨rfl, ⟨rfl, trivial⟩⟩⟩⟩⟩⟩⟩⟩ (g209_67_ok htr d p τ x1 x2 x3 x4 x5 x6 k0 σ r H)
  · rw [if_neg h2] at H
    refine xp_ok htr 5 (d + 1) 0 0 [eB false] 209 34 [some (.ref 53), some (.int x1), some (.int x2), some (.int x3), some (.int x4), some (.int x5), some (.int x6), none, none] [.int k0] (hM p σ τ) ⟨h2, ?_⟩
    show xv l Ω (d + 1) 0 0 209 45 [some (.ref 53), some (.int x1), some (.int x2), some (.int x3), some (.int x4), some (.int x5), some (.int x6), some (.int k0), none] [] (hM p σ τ) r
    refine xp_ok htr 8 (d + 1) 0 0 [] 209 45 [some (.ref 53), some (.int x1), some (.int x2), some (.int x3), some (.int x4), some (.int x5), some (.int x6), some (.int k0), none] [] (hM p σ τ) ⟨(by decide), ?_⟩
    show xv l Ω (d + 1) 0 0 209 59 [some (.ref 53), some (.int x1), some (.int x2), some (.int x3), some (.int x4), some (.int x5), some (.int x6), some (.int k0), none] [.int ((σ 53 51) - (σ 53 51) / 40 * 40), .int 7, .ref 91, .ref 53] (hM p σ τ) r
    cases g14 : xn ((7 * ((σ 53 51) - (σ 53 51) / 40 * 40)) + 6) 280 with
    | false => rw [g14, cond_false] at H; exact False.elim H
    | true =>
      rw [g14, cond_true] at H
      refine xp_ok htr 5 (d + 1) 0 0 [] 209 59 [some (.ref 53), some (.int x1), some (.int x2), some (.int x3), some (.int x4), some (.int x5), some (.int x6), some (.int k0), none] [.int ((σ 53 51) - (σ 53 51) / 40 * 40), .int 7, .ref 91, .ref 53] (hM p σ τ) ⟨(xn_in g14), ?_⟩
      show xv l Ω (d + 1) 0 0 209 67 [some (.ref 53), some (.int x1), some (.int x2), some (.int x3), some (.int x4), some (.int x5), some (.int x6), some (.int k0), none] [] (hM p (xh_ui σ 53 52 (σ 91 (Int32.toNatClampNeg ((7 * ((σ 53 51) - (σ 53 51) / 40 * 40)) + 6)))) τ) r
      exact xv_sub (L' := [some (.ref 53), some (.int x1), some (.int x2), some (.int x3), some (.int x4), some (.int x5), some (.int x6), some (.int k0), none]) ⟨rfl, ⟨rfl, ⟨rfl, ⟨rfl, ⟨rfl, ⟨rfl, ⟨rfl, ⟨rfl, trivial⟩⟩⟩⟩⟩⟩⟩⟩ (g209_67_ok htr d p τ x1 x2 x3 x4 x5 x6 k0 (xh_ui σ 53 52 (σ 91 (Int32.toNatClampNeg ((7 * ((σ 53 51) - (σ 53 51) / 40 * 40)) + 6)))) r H)
theorem g209_run {l : Launch} {Ω : xo_O} (htr : xH l) (d : Nat) (p : Nat) (τ : Nat → Nat → Int64) (a1 : Int32) (a2 : Int32) (a3 : Int32) (a4 : Int32) (a5 : Int32) (a6 : Int32) (σ : xS) {q : xQ} (hq : g209 a1 a2 a3 a4 a5 a6 σ = some q) : xv l Ω (d + 1) 0 0 209 0 (xs_loc (xm_l 209) [.ref 53, .int a1, .int a2, .int a3, .int a4, .int a5, .int a6]) [] (hM p σ τ) (xq_R true p τ q) := by
  have H : xo (xB true p τ (xq_R true p τ q)) (g209 a1 a2 a3 a4 a5 a6 σ) := by rw [hq]; exact rfl
  generalize xq_R true p τ q = r at H ⊢
  show xv l Ω (d + 1) 0 0 209 0 [some (.ref 53), some (.int a1), some (.int a2), some (.int a3), some (.int a4), some (.int a5), some (.int a6), none, none] [] (hM p σ τ) r
  unfold g209 at H
  by_cases h1 : (σ 53 51) = 0
  · rw [if_pos h1] at H
    refine xp_ok htr 3 (d + 1) 0 0 [eB false] 209 0 [some (.ref 53), some (.int a1), some (.int a2), some (.int a3), some (.int a4), some (.int a5), some (.int a6), none, none] [] (hM p σ τ) ⟨h1, ?_⟩
    show xv l Ω (d + 1) 0 0 209 7 [some (.ref 53), some (.int a1), some (.int a2), some (.int a3), some (.int a4), some (.int a5), some (.int a6), none, none] [] (hM p σ τ) r
    refine xp_ok htr 3 (d + 1) 0 0 [] 209 7 [some (.ref 53), some (.int a1), some (.int a2), some (.int a3), some (.int a4), some (.int a5), some (.int a6), none, none] [] (hM p σ τ) ?_
    show xv l Ω (d + 1) 0 0 209 34 [some (.ref 53), some (.int a1), some (.int a2), some (.int a3), some (.int a4), some (.int a5), some (.int a6), none, none] [.int (σ 53 52)] (hM p σ τ) r
    exact xv_sub (L' := [some (.ref 53), some (.int a1), some (.int a2), some (.int a3), some (.int a4), some (.int a5), some (.int a6), none, none]) ⟨rfl, ⟨rfl, ⟨rfl, ⟨rfl, ⟨rfl, ⟨rfl, ⟨rfl, trivial⟩⟩⟩⟩⟩⟩⟩ (g209_34_ok htr d p τ a1 a2 a3 a4 a5 a6 (σ 53 52) σ r H)
  · rw [if_neg h1] at H
    refine xp_ok htr 3 (d + 1) 0 0 [eB true] 209 0 [some (.ref 53), some (.int a1), some (.int a2), some (.int a3), some (.int a4), some (.int a5), some (.int a6), none, none] [] (hM p σ τ) ⟨h1, ?_⟩
    show xv l Ω (d + 1) 0 0 209 14 [some (.ref 53), some (.int a1), some (.int a2), some (.int a3), some (.int a4), some (.int a5), some (.int a6), none, none] [] (hM p σ τ) r
    refine xp_ok htr 8 (d + 1) 0 0 [] 209 14 [some (.ref 53), some (.int a1), some (.int a2), some (.int a3), some (.int a4), some (.int a5), some (.int a6), none, none] [] (hM p σ τ) ?_
    show xv l Ω (d + 1) 0 0 209 28 [some (.ref 53), some (.int a1), some (.int a2), some (.int a3), some (.int a4), some (.int a5), some (.int a6), none, none] [.int 40, .int ((σ 53 51) - 1), .int 7, .ref 91] (hM p σ τ) r
    cases g15 : xn ((7 * (((σ 53 51) - 1) - ((σ 53 51) - 1) / 40 * 40)) + 6) 280 with
    | false => rw [g15, cond_false] at H; exact False.elim H
    | true =>
      rw [g15, cond_true] at H
      refine xp_ok htr 5 (d + 1) 0 0 [] 209 28 [some (.ref 53), some (.int a1), some (.int a2), some (.int a3), some (.int a4), some (.int a5), some (.int a6), none, none] [.int 40, .int ((σ 53 51) - 1), .int 7, .ref 91] (hM p σ τ) ⟨(by decide), (xn_in g15), ?_⟩
      show xv l Ω (d + 1) 0 0 209 34 [some (.ref 53), some (.int a1), some (.int a2), some (.int a3), some (.int a4), some (.int a5), some (.int a6), none, none] [.int (σ 91 (Int32.toNatClampNeg ((7 * (((σ 53 51) - 1) - ((σ 53 51) - 1) / 40 * 40)) + 6)))] (hM p σ τ) r
      exact xv_sub (L' := [some (.ref 53), some (.int a1), some (.int a2), some (.int a3), some (.int a4), some (.int a5), some (.int a6), none, none]) ⟨rfl, ⟨rfl, ⟨rfl, ⟨rfl, ⟨rfl, ⟨rfl, ⟨rfl, trivial⟩⟩⟩⟩⟩⟩⟩ (g209_34_ok htr d p τ a1 a2 a3 a4 a5 a6 (σ 91 (Int32.toNatClampNeg ((7 * (((σ 53 51) - 1) - ((σ 53 51) - 1) / 40 * 40)) + 6))) σ r H)
/- AccessDeskModel.firstKept -/
def g213  (σ : xS) : xO := (if 40 ≤ (σ 53 51) then some ((Sum.inl ((σ 53 51) - 40), σ)) else some ((Sum.inl 0, σ)))
theorem g213_run {l : Launch} {Ω : xo_O} (htr : xH l) (d : Nat) (p : Nat) (τ : Nat → Nat → Int64)  (σ : xS) {q : xQ} (hq : g213  σ = some q) : xv l Ω d 0 0 213 0 (xs_loc (xm_l 213) [.ref 53]) [] (hM p σ τ) (xq_R false p τ q) := by
  have H : xo (xB false p τ (xq_R false p τ q)) (g213  σ) := by rw [hq]; exact rfl
  generalize xq_R false p τ q = r at H ⊢
  show xv l Ω d 0 0 213 0 [some (.ref 53)] [] (hM p σ τ) r
  unfold g213 at H
  by_cases h1 : 40 ≤ (σ 53 51)
  · rw [if_pos h1] at H
    refine xp_ok htr 4 d 0 0 [eB true] 213 0 [some (.ref 53)] [] (hM p σ τ) ⟨h1, ?_⟩
    show xv l Ω d 0 0 213 13 [some (.ref 53)] [] (hM p σ τ) r
    exact xp_ok htr 5 d 0 0 [] 213 13 [some (.ref 53)] [] (hM p σ τ) ⟨trivial, (Eq.symm H)⟩
  · rw [if_neg h1] at H
    refine xp_ok htr 4 d 0 0 [eB false] 213 0 [some (.ref 53)] [] (hM p σ τ) ⟨h1, ?_⟩
    show xv l Ω d 0 0 213 9 [some (.ref 53)] [] (hM p σ τ) r
    exact xp_ok htr 3 d 0 0 [] 213 9 [some (.ref 53)] [] (hM p σ τ) ⟨trivial, (Eq.symm H)⟩
/- AccessDeskModel.isKept -/
def g212 (a1 : Int32) (σ : xS) : xO := (match g213 σ with | some (Sum.inl v1, s2) => (if a1 < v1 then some ((Sum.inl 0, s2)) else (if (s2 53 51) ≤ a1 then some ((Sum.inl 0, s2)) else some ((Sum.inl 1, s2)))) | some (Sum.inr v1, s2) => none | none => none)
theorem g212_run {l : Launch} {Ω : xo_O} (htr : xH l) (d : Nat) (p : Nat) (τ : Nat → Nat → Int64) (a1 : Int32) (σ : xS) {q : xQ} (hq : g212 a1 σ = some q) : xv l Ω (d + 1) 0 0 212 0 (xs_loc (xm_l 212) [.ref 53, .int a1]) [] (hM p σ τ) (xq_R false p τ q) := by
  have H : xo (xB false p τ (xq_R false p τ q)) (g212 a1 σ) := by rw [hq]; exact rfl
  generalize xq_R false p τ q = r at H ⊢
  show xv l Ω (d + 1) 0 0 212 0 [some (.ref 53), some (.int a1)] [] (hM p σ τ) r
  unfold g212 at H
  cases q3 : g213 σ with
  | none => rw [q3] at H; exact False.elim H
  | some q30 =>
    obtain ⟨v1 | v1, s2⟩ := q30
    · rw [q3] at H; dsimp only at H
      have hc := g213_run (Ω := Ω) htr d p τ  σ q3
      refine xp_ok htr 3 (d + 1) 0 0 [eC (some (.int v1)) (hM p s2 τ)] 212 0 [some (.ref 53), some (.int a1)] [] (hM p σ τ) ⟨hc, ?_⟩
      show xv l Ω (d + 1) 0 0 212 5 [some (.ref 53), some (.int a1)] [.int v1, .int a1] (hM p s2 τ) r
      by_cases h4 : a1 < v1
      · rw [if_pos h4] at H
        refine xp_ok htr 1 (d + 1) 0 0 [eB true] 212 5 [some (.ref 53), some (.int a1)] [.int v1, .int a1] (hM p s2 τ) ⟨h4, ?_⟩
        show xv l Ω (d + 1) 0 0 212 20 [some (.ref 53), some (.int a1)] [] (hM p s2 τ) r
        exact xp_ok htr 2 (d + 1) 0 0 [] 212 20 [some (.ref 53), some (.int a1)] [] (hM p s2 τ) ⟨Or.inl rfl, (Eq.symm H)⟩
      · rw [if_neg h4] at H
        refine xp_ok htr 1 (d + 1) 0 0 [eB false] 212 5 [some (.ref 53), some (.int a1)] [.int v1, .int a1] (hM p s2 τ) ⟨h4, ?_⟩
        show xv l Ω (d + 1) 0 0 212 8 [some (.ref 53), some (.int a1)] [] (hM p s2 τ) r
        by_cases h5 : (s2 53 51) ≤ a1
        · rw [if_pos h5] at H
          refine xp_ok htr 4 (d + 1) 0 0 [eB true] 212 8 [some (.ref 53), some (.int a1)] [] (hM p s2 τ) ⟨h5, ?_⟩
          show xv l Ω (d + 1) 0 0 212 20 [some (.ref 53), some (.int a1)] [] (hM p s2 τ) r
          exact xp_ok htr 2 (d + 1) 0 0 [] 212 20 [some (.ref 53), some (.int a1)] [] (hM p s2 τ) ⟨Or.inl rfl, (Eq.symm H)⟩
        · rw [if_neg h5] at H
          refine xp_ok htr 4 (d + 1) 0 0 [eB false] 212 8 [some (.ref 53), some (.int a1)] [] (hM p s2 τ) ⟨h5, ?_⟩
          show xv l Ω (d + 1) 0 0 212 16 [some (.ref 53), some (.int a1)] [] (hM p s2 τ) r
          exact xp_ok htr 3 (d + 1) 0 0 [] 212 16 [some (.ref 53), some (.int a1)] [] (hM p s2 τ) ⟨Or.inr rfl, (Eq.symm H)⟩
    · rw [q3] at H; exact False.elim H
/- AccessDeskModel.entry -/
def g211_32 (x1 : Int32) (x2 : Int32) (k1 : Int32) (σ : xS) : Option xQ := (if ((xh_ui σ 53 21 k1) 53 21) = 0 then (if x1 = (-1) then some ((Sum.inl ((xh_ui σ 53 21 k1) 53 51), (xh_ui σ 53 21 k1))) else (bif xn ((7 * (x1 - x1 / 40 * 40)) + x2) 280 then some ((Sum.inl ((xh_ui σ 53 21 k1) 91 (Int32.toNatClampNeg ((7 * (x1 - x1 / 40 * 40)) + x2))), (xh_ui σ 53 21 k1))) else none)) else some ((Sum.inl 0, (xh_ui σ 53 21 k1))))
def g211_31 (x1 : Int32) (x2 : Int32) (σ : xS) : Option xQ := g211_32 x1 x2 0 σ
def g211 (a1 : Int32) (a2 : Int32) (σ : xS) : xO := (match g152 a2 7 σ with | some (Sum.inl v1, s2) => (if v1 = 0 then g211_32 a1 a2 1 s2 else (if a1 = (-1) then g211_31 a1 a2 s2 else (match g212 a1 s2 with | some (Sum.inl v9, s10) => (if v9 = 0 then g211_32 a1 a2 2 s10 else g211_31 a1 a2 s10) | some (Sum.inr v9, s10) => none | none => none))) | some (Sum.inr v1, s2) => none | none => none)
theorem g211_32_ok {l : Launch} {Ω : xo_O} (htr : xH l) (d : Nat) (p : Nat) (τ : Nat → Nat → Int64) (x1 : Int32) (x2 : Int32) (k1 : Int32) (σ : xS) (r : xv_R) (H : xo (xB false p τ r) (g211_32 x1 x2 k1 σ)) : xv l Ω (d + 2) 0 0 211 32 [some (.ref 53), some (.int x1), some (.int x2)] [.int k1, .ref 53] (hM p σ τ) r := by
  unfold g211_32 at H
  by_cases h5 : ((xh_ui σ 53 21 k1) 53 21) = 0
  · rw [if_pos h5] at H
    refine xp_ok htr 4 (d + 2) 0 0 [eB true] 211 32 [some (.ref 53), some (.int x1), some (.int x2)] [.int k1, .ref 53] (hM p σ τ) ⟨h5, ?_⟩
    show xv l Ω (d + 2) 0 0 211 44 [some (.ref 53), some (.int x1), some (.int x2)] [] (hM p (xh_ui σ 53 21 k1) τ) r
    by_cases h6 : x1 = (-1)
    · rw [if_pos h6] at H
      refine xp_ok htr 3 (d + 2) 0 0 [eB false] 211 44 [some (.ref 53), some (.int x1), some (.int x2)] [] (hM p (xh_ui σ 53 21 k1) τ) ⟨h6, ?_⟩
      show xv l Ω (d + 2) 0 0 211 49 [some (.ref 53), some (.int x1), some (.int x2)] [] (hM p (xh_ui σ 53 21 k1) τ) r
      exact xp_ok htr 4 (d + 2) 0 0 [] 211 49 [some (.ref 53), some (.int x1), some (.int x2)] [] (hM p (xh_ui σ 53 21 k1) τ) ⟨trivial, (Eq.symm H)⟩
    · rw [if_neg h6] at H
      refine xp_ok htr 3 (d + 2) 0 0 [eB true] 211 44 [some (.ref 53), some (.int x1), some (.int x2)] [] (hM p (xh_ui σ 53 21 k1) τ) ⟨h6, ?_⟩
      show xv l Ω (d + 2) 0 0 211 56 [some (.ref 53), some (.int x1), some (.int x2)] [] (hM p (xh_ui σ 53 21 k1) τ) r
      refine xp_ok htr 8 (d + 2) 0 0 [] 211 56 [some (.ref 53), some (.int x1), some (.int x2)] [] (hM p (xh_ui σ 53 21 k1) τ) ⟨(by decide), ?_⟩
      show xv l Ω (d + 2) 0 0 211 68 [some (.ref 53), some (.int x1), some (.int x2)] [.int x2, .int (7 * (x1 - x1 / 40 * 40)), .ref 91] (hM p (xh_ui σ 53 21 k1) τ) r
      cases g7 : xn ((7 * (x1 - x1 / 40 * 40)) + x2) 280 with
      | false => rw [g7, cond_false] at H; exact False.elim H
      | true =>
        rw [g7, cond_true] at H
        exact xp_ok htr 3 (d + 2) 0 0 [] 211 68 [some (.ref 53), some (.int x1), some (.int x2)] [.int x2, .int (7 * (x1 - x1 / 40 * 40)), .ref 91] (hM p (xh_ui σ 53 21 k1) τ) ⟨(xn_in g7), trivial, (Eq.symm H)⟩
  · rw [if_neg h5] at H
    refine xp_ok htr 4 (d + 2) 0 0 [eB false] 211 32 [some (.ref 53), some (.int x1), some (.int x2)] [.int k1, .ref 53] (hM p σ τ) ⟨h5, ?_⟩
    show xv l Ω (d + 2) 0 0 211 42 [some (.ref 53), some (.int x1), some (.int x2)] [] (hM p (xh_ui σ 53 21 k1) τ) r
    exact xp_ok htr 2 (d + 2) 0 0 [] 211 42 [some (.ref 53), some (.int x1), some (.int x2)] [] (hM p (xh_ui σ 53 21 k1) τ) ⟨trivial, (Eq.symm H)⟩
theorem g211_31_ok {l : Launch} {Ω : xo_O} (htr : xH l) (d : Nat) (p : Nat) (τ : Nat → Nat → Int64) (x1 : Int32) (x2 : Int32) (σ : xS) (r : xv_R) (H : xo (xB false p τ r) (g211_31 x1 x2 σ)) : xv l Ω (d + 2) 0 0 211 31 [some (.ref 53), some (.int x1), some (.int x2)] [.ref 53] (hM p σ τ) r := by
  unfold g211_31 at H
  refine xp_ok htr 1 (d + 2) 0 0 [] 211 31 [some (.ref 53), some (.int x1), some (.int x2)] [.ref 53] (hM p σ τ) ?_
  show xv l Ω (d + 2) 0 0 211 32 [some (.ref 53), some (.int x1), some (.int x2)] [.int 0, .ref 53] (hM p σ τ) r
  exact xv_sub (L' := [some (.ref 53), some (.int x1), some (.int x2)]) ⟨rfl, ⟨rfl, ⟨rfl, trivial⟩⟩⟩ (g211_32_ok htr d p τ x1 x2 0 σ r H)
theorem g211_run {l : Launch} {Ω : xo_O} (htr : xH l) (d : Nat) (p : Nat) (τ : Nat → Nat → Int64) (a1 : Int32) (a2 : Int32) (σ : xS) {q : xQ} (hq : g211 a1 a2 σ = some q) : xv l Ω (d + 2) 0 0 211 0 (xs_loc (xm_l 211) [.ref 53, .int a1, .int a2]) [] (hM p σ τ) (xq_R false p τ q) := by
  have H : xo (xB false p τ (xq_R false p τ q)) (g211 a1 a2 σ) := by rw [hq]; exact rfl
  generalize xq_R false p τ q = r at H ⊢
  show xv l Ω (d + 2) 0 0 211 0 [some (.ref 53), some (.int a1), some (.int a2)] [] (hM p σ τ) r
  unfold g211 at H
  cases q3 : g152 a2 7 σ with
  | none => rw [q3] at H; exact False.elim H
  | some q30 =>
    obtain ⟨v1 | v1, s2⟩ := q30
    · rw [q3] at H; dsimp only at H
      have hc := g152_run (Ω := Ω) htr (d + 1) p τ a2 7 σ q3
      refine xp_ok htr 4 (d + 2) 0 0 [eC (some (.int v1)) (hM p s2 τ)] 211 0 [some (.ref 53), some (.int a1), some (.int a2)] [] (hM p σ τ) ⟨hc, ?_⟩
      show xv l Ω (d + 2) 0 0 211 7 [some (.ref 53), some (.int a1), some (.int a2)] [.int v1, .ref 53] (hM p s2 τ) r
      by_cases h4 : v1 = 0
      · rw [if_pos h4] at H
        refine xp_ok htr 1 (d + 2) 0 0 [eB false] 211 7 [some (.ref 53), some (.int a1), some (.int a2)] [.int v1, .ref 53] (hM p s2 τ) ⟨h4, ?_⟩
        show xv l Ω (d + 2) 0 0 211 10 [some (.ref 53), some (.int a1), some (.int a2)] [.ref 53] (hM p s2 τ) r
        refine xp_ok htr 2 (d + 2) 0 0 [] 211 10 [some (.ref 53), some (.int a1), some (.int a2)] [.ref 53] (hM p s2 τ) ?_
        show xv l Ω (d + 2) 0 0 211 32 [some (.ref 53), some (.int a1), some (.int a2)] [.int 1, .ref 53] (hM p s2 τ) r
        exact xv_sub (L' := [some (.ref 53), some (.int a1), some (.int a2)]) ⟨rfl, ⟨rfl, ⟨rfl, trivial⟩⟩⟩ (g211_32_ok htr d p τ a1 a2 1 s2 r H)
      · rw [if_neg h4] at H
        refine xp_ok htr 1 (d + 2) 0 0 [eB true] 211 7 [some (.ref 53), some (.int a1), some (.int a2)] [.int v1, .ref 53] (hM p s2 τ) ⟨h4, ?_⟩
        show xv l Ω (d + 2) 0 0 211 14 [some (.ref 53), some (.int a1), some (.int a2)] [.ref 53] (hM p s2 τ) r
        by_cases h8 : a1 = (-1)
        · rw [if_pos h8] at H
          refine xp_ok htr 3 (d + 2) 0 0 [eB true] 211 14 [some (.ref 53), some (.int a1), some (.int a2)] [.ref 53] (hM p s2 τ) ⟨h8, ?_⟩
          show xv l Ω (d + 2) 0 0 211 31 [some (.ref 53), some (.int a1), some (.int a2)] [.ref 53] (hM p s2 τ) r
          exact xv_sub (L' := [some (.ref 53), some (.int a1), some (.int a2)]) ⟨rfl, ⟨rfl, ⟨rfl, trivial⟩⟩⟩ (g211_31_ok htr d p τ a1 a2 s2 r H)
        · rw [if_neg h8] at H
          refine xp_ok htr 3 (d + 2) 0 0 [eB false] 211 14 [some (.ref 53), some (.int a1), some (.int a2)] [.ref 53] (hM p s2 τ) ⟨h8, ?_⟩
          show xv l Ω (d + 2) 0 0 211 19 [some (.ref 53), some (.int a1), some (.int a2)] [.ref 53] (hM p s2 τ) r
          cases q11 : g212 a1 s2 with
          | none => rw [q11] at H; exact False.elim H
          | some q110 =>
            obtain ⟨v9 | v9, s10⟩ := q110
            · rw [q11] at H; dsimp only at H
              have hc := g212_run (Ω := Ω) htr d p τ a1 s2 q11
              refine xp_ok htr 3 (d + 2) 0 0 [eC (some (.int v9)) (hM p s10 τ)] 211 19 [some (.ref 53), some (.int a1), some (.int a2)] [.ref 53] (hM p s2 τ) ⟨hc, ?_⟩
              show xv l Ω (d + 2) 0 0 211 24 [some (.ref 53), some (.int a1), some (.int a2)] [.int v9, .ref 53] (hM p s10 τ) r
              by_cases h12 : v9 = 0
              · rw [if_pos h12] at H
                refine xp_ok htr 1 (d + 2) 0 0 [eB false] 211 24 [some (.ref 53), some (.int a1), some (.int a2)] [.int v9, .ref 53] (hM p s10 τ) ⟨h12, ?_⟩
                show xv l Ω (d + 2) 0 0 211 27 [some (.ref 53), some (.int a1), some (.int a2)] [.ref 53] (hM p s10 τ) r
                refine xp_ok htr 2 (d + 2) 0 0 [] 211 27 [some (.ref 53), some (.int a1), some (.int a2)] [.ref 53] (hM p s10 τ) ?_
                show xv l Ω (d + 2) 0 0 211 32 [some (.ref 53), some (.int a1), some (.int a2)] [.int 2, .ref 53] (hM p s10 τ) r
                exact xv_sub (L' := [some (.ref 53), some (.int a1), some (.int a2)]) ⟨rfl, ⟨rfl, ⟨rfl, trivial⟩⟩⟩ (g211_32_ok htr d p τ a1 a2 2 s10 r H)
              · rw [if_neg h12] at H
                refine xp_ok htr 1 (d + 2) 0 0 [eB true] 211 24 [some (.ref 53), some (.int a1), some (.int a2)] [.int v9, .ref 53] (hM p s10 τ) ⟨h12, ?_⟩
                show xv l Ω (d + 2) 0 0 211 31 [some (.ref 53), some (.int a1), some (.int a2)] [.ref 53] (hM p s10 τ) r
                exact xv_sub (L' := [some (.ref 53), some (.int a1), some (.int a2)]) ⟨rfl, ⟨rfl, ⟨rfl, trivial⟩⟩⟩ (g211_31_ok htr d p τ a1 a2 s10 r H)
            · rw [q11] at H; exact False.elim H
    · rw [q3] at H; exact False.elim H
/- AccessDeskModel.touch -/
def g214_27 (x1 : Int32) (x2 : Int32) (x3 : Int32) (k1 : Int32) (σ : xS) : Option xQ := (if ((xh_ui σ 53 21 k1) 53 21) = 0 then (bif xn ((7 * (x1 - x1 / 40 * 40)) + x2) 280 then some ((Sum.inl 0, (xh_ui (xh_ui σ 53 21 k1) 91 (Int32.toNatClampNeg ((7 * (x1 - x1 / 40 * 40)) + x2)) (((xh_ui σ 53 21 k1) 91 (Int32.toNatClampNeg ((7 * (x1 - x1 / 40 * 40)) + x2))) ^^^ x3)))) else none) else some ((Sum.inl 0, (xh_ui σ 53 21 k1))))
def g214 (a1 : Int32) (a2 : Int32) (a3 : Int32) (σ : xS) : xO := (match g152 a2 6 σ with | some (Sum.inl v1, s2) => (if v1 = 0 then g214_27 a1 a2 a3 1 s2 else (match g212 a1 s2 with | some (Sum.inl v7, s8) => (if v7 = 0 then g214_27 a1 a2 a3 2 s8 else g214_27 a1 a2 a3 0 s8) | some (Sum.inr v7, s8) => none | none => none)) | some (Sum.inr v1, s2) => none | none => none)
theorem g214_27_ok {l : Launch} {Ω : xo_O} (htr : xH l) (d : Nat) (p : Nat) (τ : Nat → Nat → Int64) (x1 : Int32) (x2 : Int32) (x3 : Int32) (k1 : Int32) (σ : xS) (r : xv_R) (H : xo (xB true p τ r) (g214_27 x1 x2 x3 k1 σ)) : xv l Ω (d + 2) 0 0 214 27 [some (.ref 53), some (.int x1), some (.int x2), some (.int x3)] [.int k1, .ref 53] (hM p σ τ) r := by
  unfold g214_27 at H
  by_cases h5 : ((xh_ui σ 53 21 k1) 53 21) = 0
  · rw [if_pos h5] at H
    refine xp_ok htr 4 (d + 2) 0 0 [eB false] 214 27 [some (.ref 53), some (.int x1), some (.int x2), some (.int x3)] [.int k1, .ref 53] (hM p σ τ) ⟨h5, ?_⟩
    show xv l Ω (d + 2) 0 0 214 37 [some (.ref 53), some (.int x1), some (.int x2), some (.int x3)] [] (hM p (xh_ui σ 53 21 k1) τ) r
    refine xp_ok htr 8 (d + 2) 0 0 [] 214 37 [some (.ref 53), some (.int x1), some (.int x2), some (.int x3)] [] (hM p (xh_ui σ 53 21 k1) τ) ⟨(by decide), ?_⟩
    show xv l Ω (d + 2) 0 0 214 49 [some (.ref 53), some (.int x1), some (.int x2), some (.int x3)] [.int x2, .int (7 * (x1 - x1 / 40 * 40)), .ref 91] (hM p (xh_ui σ 53 21 k1) τ) r
    cases g6 : xn ((7 * (x1 - x1 / 40 * 40)) + x2) 280 with
    | false => rw [g6, cond_false] at H; exact False.elim H
    | true =>
      rw [g6, cond_true] at H
      exact xp_ok htr 7 (d + 2) 0 0 [] 214 49 [some (.ref 53), some (.int x1), some (.int x2), some (.int x3)] [.int x2, .int (7 * (x1 - x1 / 40 * 40)), .ref 91] (hM p (xh_ui σ 53 21 k1) τ) ⟨(xn_in g6), (xn_in g6), trivial, (Eq.symm H)⟩
  · rw [if_neg h5] at H
    refine xp_ok htr 4 (d + 2) 0 0 [eB true] 214 27 [some (.ref 53), some (.int x1), some (.int x2), some (.int x3)] [.int k1, .ref 53] (hM p σ τ) ⟨h5, ?_⟩
    show xv l Ω (d + 2) 0 0 214 55 [some (.ref 53), some (.int x1), some (.int x2), some (.int x3)] [] (hM p (xh_ui σ 53 21 k1) τ) r
    exact xp_ok htr 1 (d + 2) 0 0 [] 214 55 [some (.ref 53), some (.int x1), some (.int x2), some (.int x3)] [] (hM p (xh_ui σ 53 21 k1) τ) ⟨trivial, (Eq.symm H)⟩
theorem g214_run {l : Launch} {Ω : xo_O} (htr : xH l) (d : Nat) (p : Nat) (τ : Nat → Nat → Int64) (a1 : Int32) (a2 : Int32) (a3 : Int32) (σ : xS) {q : xQ} (hq : g214 a1 a2 a3 σ = some q) : xv l Ω (d + 2) 0 0 214 0 (xs_loc (xm_l 214) [.ref 53, .int a1, .int a2, .int a3]) [] (hM p σ τ) (xq_R true p τ q) := by
  have H : xo (xB true p τ (xq_R true p τ q)) (g214 a1 a2 a3 σ) := by rw [hq]; exact rfl
  generalize xq_R true p τ q = r at H ⊢
  show xv l Ω (d + 2) 0 0 214 0 [some (.ref 53), some (.int a1), some (.int a2), some (.int a3)] [] (hM p σ τ) r
  unfold g214 at H
  cases q3 : g152 a2 6 σ with
  | none => rw [q3] at H; exact False.elim H
  | some q30 =>
    obtain ⟨v1 | v1, s2⟩ := q30
    · rw [q3] at H; dsimp only at H
      have hc := g152_run (Ω := Ω) htr (d + 1) p τ a2 6 σ q3
      refine xp_ok htr 4 (d + 2) 0 0 [eC (some (.int v1)) (hM p s2 τ)] 214 0 [some (.ref 53), some (.int a1), some (.int a2), some (.int a3)] [] (hM p σ τ) ⟨hc, ?_⟩
      show xv l Ω (d + 2) 0 0 214 7 [some (.ref 53), some (.int a1), some (.int a2), some (.int a3)] [.int v1, .ref 53] (hM p s2 τ) r
      by_cases h4 : v1 = 0
      · rw [if_pos h4] at H
        refine xp_ok htr 1 (d + 2) 0 0 [eB false] 214 7 [some (.ref 53), some (.int a1), some (.int a2), some (.int a3)] [.int v1, .ref 53] (hM p s2 τ) ⟨h4, ?_⟩
        show xv l Ω (d + 2) 0 0 214 10 [some (.ref 53), some (.int a1), some (.int a2), some (.int a3)] [.ref 53] (hM p s2 τ) r
        refine xp_ok htr 2 (d + 2) 0 0 [] 214 10 [some (.ref 53), some (.int a1), some (.int a2), some (.int a3)] [.ref 53] (hM p s2 τ) ?_
        show xv l Ω (d + 2) 0 0 214 27 [some (.ref 53), some (.int a1), some (.int a2), some (.int a3)] [.int 1, .ref 53] (hM p s2 τ) r
        exact xv_sub (L' := [some (.ref 53), some (.int a1), some (.int a2), some (.int a3)]) ⟨rfl, ⟨rfl, ⟨rfl, ⟨rfl, trivial⟩⟩⟩⟩ (g214_27_ok htr d p τ a1 a2 a3 1 s2 r H)
      · rw [if_neg h4] at H
        refine xp_ok htr 1 (d + 2) 0 0 [eB true] 214 7 [some (.ref 53), some (.int a1), some (.int a2), some (.int a3)] [.int v1, .ref 53] (hM p s2 τ) ⟨h4, ?_⟩
        show xv l Ω (d + 2) 0 0 214 14 [some (.ref 53), some (.int a1), some (.int a2), some (.int a3)] [.ref 53] (hM p s2 τ) r
        cases q9 : g212 a1 s2 with
        | none => rw [q9] at H; exact False.elim H
        | some q90 =>
          obtain ⟨v7 | v7, s8⟩ := q90
          · rw [q9] at H; dsimp only at H
            have hc := g212_run (Ω := Ω) htr d p τ a1 s2 q9
            refine xp_ok htr 3 (d + 2) 0 0 [eC (some (.int v7)) (hM p s8 τ)] 214 14 [some (.ref 53), some (.int a1), some (.int a2), some (.int a3)] [.ref 53] (hM p s2 τ) ⟨hc, ?_⟩
            show xv l Ω (d + 2) 0 0 214 19 [some (.ref 53), some (.int a1), some (.int a2), some (.int a3)] [.int v7, .ref 53] (hM p s8 τ) r
            by_cases h10 : v7 = 0
            · rw [if_pos h10] at H
              refine xp_ok htr 1 (d + 2) 0 0 [eB false] 214 19 [some (.ref 53), some (.int a1), some (.int a2), some (.int a3)] [.int v7, .ref 53] (hM p s8 τ) ⟨h10, ?_⟩
              show xv l Ω (d + 2) 0 0 214 22 [some (.ref 53), some (.int a1), some (.int a2), some (.int a3)] [.ref 53] (hM p s8 τ) r
              refine xp_ok htr 2 (d + 2) 0 0 [] 214 22 [some (.ref 53), some (.int a1), some (.int a2), some (.int a3)] [.ref 53] (hM p s8 τ) ?_
              show xv l Ω (d + 2) 0 0 214 27 [some (.ref 53), some (.int a1), some (.int a2), some (.int a3)] [.int 2, .ref 53] (hM p s8 τ) r
              exact xv_sub (L' := [some (.ref 53), some (.int a1), some (.int a2), some (.int a3)]) ⟨rfl, ⟨rfl, ⟨rfl, ⟨rfl, trivial⟩⟩⟩⟩ (g214_27_ok htr d p τ a1 a2 a3 2 s8 r H)
            · rw [if_neg h10] at H
              refine xp_ok htr 1 (d + 2) 0 0 [eB true] 214 19 [some (.ref 53), some (.int a1), some (.int a2), some (.int a3)] [.int v7, .ref 53] (hM p s8 τ) ⟨h10, ?_⟩
              show xv l Ω (d + 2) 0 0 214 26 [some (.ref 53), some (.int a1), some (.int a2), some (.int a3)] [.ref 53] (hM p s8 τ) r
              refine xp_ok htr 1 (d + 2) 0 0 [] 214 26 [some (.ref 53), some (.int a1), some (.int a2), some (.int a3)] [.ref 53] (hM p s8 τ) ?_
              show xv l Ω (d + 2) 0 0 214 27 [some (.ref 53), some (.int a1), some (.int a2), some (.int a3)] [.int 0, .ref 53] (hM p s8 τ) r
              exact xv_sub (L' := [some (.ref 53), some (.int a1), some (.int a2), some (.int a3)]) ⟨rfl, ⟨rfl, ⟨rfl, ⟨rfl, trivial⟩⟩⟩⟩ (g214_27_ok htr d p τ a1 a2 a3 0 s8 r H)
          · rw [q9] at H; exact False.elim H
    · rw [q3] at H; exact False.elim H
/- AccessDeskModel.linkAhead -/
def g216 (a1 : Int32) (σ : xS) : xO := (match g213 σ with | some (Sum.inl v1, s2) => (if a1 = v1 then some ((Sum.inl (s2 53 52), s2)) else (bif xn ((7 * ((a1 - 1) - (a1 - 1) / 40 * 40)) + 6) 280 then some ((Sum.inl (s2 91 (Int32.toNatClampNeg ((7 * ((a1 - 1) - (a1 - 1) / 40 * 40)) + 6))), s2)) else none)) | some (Sum.inr v1, s2) => none | none => none)
theorem g216_run {l : Launch} {Ω : xo_O} (htr : xH l) (d : Nat) (p : Nat) (τ : Nat → Nat → Int64) (a1 : Int32) (σ : xS) {q : xQ} (hq : g216 a1 σ = some q) : xv l Ω (d + 1) 0 0 216 0 (xs_loc (xm_l 216) [.ref 53, .int a1]) [] (hM p σ τ) (xq_R false p τ q) := by
  have H : xo (xB false p τ (xq_R false p τ q)) (g216 a1 σ) := by rw [hq]; exact rfl
  generalize xq_R false p τ q = r at H ⊢
  show xv l Ω (d + 1) 0 0 216 0 [some (.ref 53), some (.int a1)] [] (hM p σ τ) r
  unfold g216 at H
  cases q3 : g213 σ with
  | none => rw [q3] at H; exact False.elim H
  | some q30 =>
    obtain ⟨v1 | v1, s2⟩ := q30
    · rw [q3] at H; dsimp only at H
      have hc := g213_run (Ω := Ω) htr d p τ  σ q3
      refine xp_ok htr 3 (d + 1) 0 0 [eC (some (.int v1)) (hM p s2 τ)] 216 0 [some (.ref 53), some (.int a1)] [] (hM p σ τ) ⟨hc, ?_⟩
      show xv l Ω (d + 1) 0 0 216 5 [some (.ref 53), some (.int a1)] [.int v1, .int a1] (hM p s2 τ) r
      by_cases h4 : a1 = v1
      · rw [if_pos h4] at H
        refine xp_ok htr 1 (d + 1) 0 0 [eB false] 216 5 [some (.ref 53), some (.int a1)] [.int v1, .int a1] (hM p s2 τ) ⟨h4, ?_⟩
        show xv l Ω (d + 1) 0 0 216 8 [some (.ref 53), some (.int a1)] [] (hM p s2 τ) r
        exact xp_ok htr 4 (d + 1) 0 0 [] 216 8 [some (.ref 53), some (.int a1)] [] (hM p s2 τ) ⟨trivial, (Eq.symm H)⟩
      · rw [if_neg h4] at H
        refine xp_ok htr 1 (d + 1) 0 0 [eB true] 216 5 [some (.ref 53), some (.int a1)] [.int v1, .int a1] (hM p s2 τ) ⟨h4, ?_⟩
        show xv l Ω (d + 1) 0 0 216 15 [some (.ref 53), some (.int a1)] [] (hM p s2 τ) r
        refine xp_ok htr 8 (d + 1) 0 0 [] 216 15 [some (.ref 53), some (.int a1)] [] (hM p s2 τ) ⟨(by decide), ?_⟩
        show xv l Ω (d + 1) 0 0 216 27 [some (.ref 53), some (.int a1)] [.int ((a1 - 1) - (a1 - 1) / 40 * 40), .int 7, .ref 91] (hM p s2 τ) r
        cases g5 : xn ((7 * ((a1 - 1) - (a1 - 1) / 40 * 40)) + 6) 280 with
        | false => rw [g5, cond_false] at H; exact False.elim H
        | true =>
          rw [g5, cond_true] at H
          exact xp_ok htr 5 (d + 1) 0 0 [] 216 27 [some (.ref 53), some (.int a1)] [.int ((a1 - 1) - (a1 - 1) / 40 * 40), .int 7, .ref 91] (hM p s2 τ) ⟨(xn_in g5), trivial, (Eq.symm H)⟩
    · rw [q3] at H; exact False.elim H
/- AccessDeskModel.audit -/
def g215_10b (x1 : Int32) (σ : xS) : Option ((Int32 × xS) ⊕ xQ) := (if (σ 53 51) ≤ x1 then some (Sum.inr ((Sum.inl (-1), σ))) else (bif xn ((7 * (x1 - x1 / 40 * 40)) + 6) 280 then (match g216 x1 σ with | some (Sum.inl v6, s7) => (match g210 v6 x1 s7 with | some (Sum.inl v9, s10) => (if (σ 91 (Int32.toNatClampNeg ((7 * (x1 - x1 / 40 * 40)) + 6))) = v9 then some (Sum.inl ((x1 + 1), s10)) else some (Sum.inr ((Sum.inl x1, s10)))) | some (Sum.inr v9, s10) => none | none => none) | some (Sum.inr v6, s7) => none | none => none) else none))
def g215_10 (x1 : Int32) (σ : xS) : Option xQ := xlo (fun a : Int32 × xS => g215_10b a.1 a.2) 1000 (x1, σ)
def g215  (σ : xS) : xO := (match g213 (xh_ui σ 53 21 0) with | some (Sum.inl v1, s2) => g215_10 v1 s2 | some (Sum.inr v1, s2) => none | none => none)
def a215_10 (l : Launch) (Ω : xo_O) (d p : Nat) (τ : Nat → Nat → Int64) (r : xv_R) : Int32 × xS → Prop := fun a => xv l Ω (d + 2) 0 0 215 10 [some (.ref 53), some (.int a.1)] [] (hM p a.2 τ) r
theorem g215_10b_ok {l : Launch} {Ω : xo_O} (htr : xH l) (d : Nat) (p : Nat) (τ : Nat → Nat → Int64) (x1 : Int32) (σ : xS) (r : xv_R) (H : xo (xd (a215_10 l Ω d p τ r) (xB false p τ r)) (g215_10b x1 σ)) : xv l Ω (d + 2) 0 0 215 10 [some (.ref 53), some (.int x1)] [] (hM p σ τ) r := by
  unfold g215_10b at H
  by_cases h4 : (σ 53 51) ≤ x1
  · rw [if_pos h4] at H
    refine xp_ok htr 4 (d + 2) 0 0 [eB true] 215 10 [some (.ref 53), some (.int x1)] [] (hM p σ τ) ⟨h4, ?_⟩
    show xv l Ω (d + 2) 0 0 215 54 [some (.ref 53), some (.int x1)] [] (hM p σ τ) r
    exact xp_ok htr 2 (d + 2) 0 0 [] 215 54 [some (.ref 53), some (.int x1)] [] (hM p σ τ) ⟨trivial, (Eq.symm H)⟩
  · rw [if_neg h4] at H
    refine xp_ok htr 4 (d + 2) 0 0 [eB false] 215 10 [some (.ref 53), some (.int x1)] [] (hM p σ τ) ⟨h4, ?_⟩
    show xv l Ω (d + 2) 0 0 215 18 [some (.ref 53), some (.int x1)] [] (hM p σ τ) r
    refine xp_ok htr 8 (d + 2) 0 0 [] 215 18 [some (.ref 53), some (.int x1)] [] (hM p σ τ) ⟨(by decide), ?_⟩
    show xv l Ω (d + 2) 0 0 215 31 [some (.ref 53), some (.int x1)] [.int 6, .int (7 * (x1 - x1 / 40 * 40)), .ref 91] (hM p σ τ) r
    cases g5 : xn ((7 * (x1 - x1 / 40 * 40)) + 6) 280 with
    | false => rw [g5, cond_false] at H; exact False.elim H
    | true =>
      rw [g5, cond_true] at H
      cases q8 : g216 x1 σ with
      | none => rw [q8] at H; exact False.elim H
      | some q80 =>
        obtain ⟨v6 | v6, s7⟩ := q80
        · rw [q8] at H; dsimp only at H
          have hc := g216_run (Ω := Ω) htr d p τ x1 σ q8
          refine xp_ok htr 6 (d + 2) 0 0 [eC (some (.int v6)) (hM p s7 τ)] 215 31 [some (.ref 53), some (.int x1)] [.int 6, .int (7 * (x1 - x1 / 40 * 40)), .ref 91] (hM p σ τ) ⟨(xn_in g5), hc, ?_⟩
          show xv l Ω (d + 2) 0 0 215 39 [some (.ref 53), some (.int x1)] [.int v6, .ref 53, .int (σ 91 (Int32.toNatClampNeg ((7 * (x1 - x1 / 40 * 40)) + 6)))] (hM p s7 τ) r
          cases q11 : g210 v6 x1 s7 with
          | none => rw [q11] at H; exact False.elim H
          | some q110 =>
            obtain ⟨v9 | v9, s10⟩ := q110
            · rw [q11] at H; dsimp only at H
              have hc := g210_run (Ω := Ω) htr (d + 1) p τ v6 x1 s7 q11
              refine xp_ok htr 2 (d + 2) 0 0 [eC (some (.int v9)) (hM p s10 τ)] 215 39 [some (.ref 53), some (.int x1)] [.int v6, .ref 53, .int (σ 91 (Int32.toNatClampNeg ((7 * (x1 - x1 / 40 * 40)) + 6)))] (hM p s7 τ) ⟨hc, ?_⟩
              show xv l Ω (d + 2) 0 0 215 43 [some (.ref 53), some (.int x1)] [.int v9, .int (σ 91 (Int32.toNatClampNeg ((7 * (x1 - x1 / 40 * 40)) + 6)))] (hM p s10 τ) r
              by_cases h12 : (σ 91 (Int32.toNatClampNeg ((7 * (x1 - x1 / 40 * 40)) + 6))) = v9
              · rw [if_pos h12] at H
                refine xp_ok htr 1 (d + 2) 0 0 [eB true] 215 43 [some (.ref 53), some (.int x1)] [.int v9, .int (σ 91 (Int32.toNatClampNeg ((7 * (x1 - x1 / 40 * 40)) + 6)))] (hM p s10 τ) ⟨h12, ?_⟩
                show xv l Ω (d + 2) 0 0 215 48 [some (.ref 53), some (.int x1)] [] (hM p s10 τ) r
                refine xp_ok htr 2 (d + 2) 0 0 [] 215 48 [some (.ref 53), some (.int x1)] [] (hM p s10 τ) ?_
                show xv l Ω (d + 2) 0 0 215 10 [some (.ref 53), some (.int (x1 + 1))] [] (hM p s10 τ) r
                exact xv_sub (L' := [some (.ref 53), some (.int (x1 + 1))]) ⟨rfl, ⟨rfl, trivial⟩⟩ H
              · rw [if_neg h12] at H
                refine xp_ok htr 1 (d + 2) 0 0 [eB false] 215 43 [some (.ref 53), some (.int x1)] [.int v9, .int (σ 91 (Int32.toNatClampNeg ((7 * (x1 - x1 / 40 * 40)) + 6)))] (hM p s10 τ) ⟨h12, ?_⟩
                show xv l Ω (d + 2) 0 0 215 46 [some (.ref 53), some (.int x1)] [] (hM p s10 τ) r
                exact xp_ok htr 2 (d + 2) 0 0 [] 215 46 [some (.ref 53), some (.int x1)] [] (hM p s10 τ) ⟨trivial, (Eq.symm H)⟩
            · rw [q11] at H; exact False.elim H
        · rw [q8] at H; exact False.elim H
theorem g215_10_ok {l : Launch} {Ω : xo_O} (htr : xH l) (d : Nat) (p : Nat) (τ : Nat → Nat → Int64) (x1 : Int32) (σ : xS) (r : xv_R) (H : xo (xB false p τ r) (g215_10 x1 σ)) : xv l Ω (d + 2) 0 0 215 10 [some (.ref 53), some (.int x1)] [] (hM p σ τ) r :=
  xlo_ok (A := a215_10 l Ω d p τ r) (fun a H => g215_10b_ok htr d p τ a.1 a.2 r H) 1000 (x1, σ) H
theorem g215_run {l : Launch} {Ω : xo_O} (htr : xH l) (d : Nat) (p : Nat) (τ : Nat → Nat → Int64)  (σ : xS) {q : xQ} (hq : g215  σ = some q) : xv l Ω (d + 2) 0 0 215 0 (xs_loc (xm_l 215) [.ref 53]) [] (hM p σ τ) (xq_R false p τ q) := by
  have H : xo (xB false p τ (xq_R false p τ q)) (g215  σ) := by rw [hq]; exact rfl
  generalize xq_R false p τ q = r at H ⊢
  show xv l Ω (d + 2) 0 0 215 0 [some (.ref 53), none] [] (hM p σ τ) r
  unfold g215 at H
  cases q3 : g213 (xh_ui σ 53 21 0) with
  | none => rw [q3] at H; exact False.elim H
  | some q30 =>
    obtain ⟨v1 | v1, s2⟩ := q30
    · rw [q3] at H; dsimp only at H
      have hc := g213_run (Ω := Ω) htr (d + 1) p τ  (xh_ui σ 53 21 0) q3
      refine xp_ok htr 5 (d + 2) 0 0 [eC (some (.int v1)) (hM p s2 τ)] 215 0 [some (.ref 53), none] [] (hM p σ τ) ⟨hc, ?_⟩
      show xv l Ω (d + 2) 0 0 215 9 [some (.ref 53), none] [.int v1] (hM p s2 τ) r
      refine xp_ok htr 1 (d + 2) 0 0 [] 215 9 [some (.ref 53), none] [.int v1] (hM p s2 τ) ?_
      show xv l Ω (d + 2) 0 0 215 10 [some (.ref 53), some (.int v1)] [] (hM p s2 τ) r
      exact xv_sub (L' := [some (.ref 53), some (.int v1)]) ⟨rfl, ⟨rfl, trivial⟩⟩ (g215_10_ok htr d p τ v1 s2 r H)
    · rw [q3] at H; exact False.elim H
