/-! the methods as functions: laid by program (wip/whole/dec.py) -/
/- AccessDesk$Judge.targetOf -/
def g118_132 (p : Nat) (x1 : Int32) (x2 : Int32) (x3 : Int32) (x4 : Int32) (x5 : Int32) (σ : xS) : Option ((Int32 × Int32 × Int32 × Int32 × Int32 × xS) ⊕ xQ) := some (Sum.inl (x1, x2, x3, x4, (x5 + 1), σ))
def g118_18b (p : Nat) (x1 : Int32) (x2 : Int32) (x3 : Int32) (x4 : Int32) (x5 : Int32) (σ : xS) : Option ((Int32 × Int32 × Int32 × Int32 × Int32 × xS) ⊕ xQ) := (bif xn x1 40 then (if (σ ((59 - p) + 6) (Int32.toNatClampNeg x1)) ≤ x5 then some (Sum.inr ((Sum.inl x2, σ))) else (bif xn x5 300 then (if (σ ((59 - p) + 8) (Int32.toNatClampNeg x5)) = 38 then (match g17 x3 x4 σ with | some (Sum.inl v6, s7) => (match g119 x2 v6 s7 with | some (Sum.inl v9, s10) => g118_132 p x1 v9 0 2 x5 s10 | some (Sum.inr v9, s10) => none | none => none) | some (Sum.inr v6, s7) => none | none => none) else (if (σ ((59 - p) + 8) (Int32.toNatClampNeg x5)) = 44 then g118_132 p x1 x2 x3 x4 x5 σ else (if (σ ((59 - p) + 8) (Int32.toNatClampNeg x5)) = 93 then (match g17 x3 x4 σ with | some (Sum.inl v12, s13) => (match g119 x2 v12 s13 with | some (Sum.inl v15, s16) => g118_132 p x1 v15 0 2 x5 s16 | some (Sum.inr v15, s16) => none | none => none) | some (Sum.inr v12, s13) => none | none => none) else (if (σ ((59 - p) + 8) (Int32.toNatClampNeg x5)) = 124 then (match g17 x3 x4 σ with | some (Sum.inl v18, s19) => g118_132 p x1 x2 v18 2 x5 s19 | some (Sum.inr v18, s19) => none | none => none) else (match g120 p x5 σ with | some (Sum.inl v21, s22) => (match g119 x4 v21 s22 with | some (Sum.inl v24, s25) => g118_132 p x1 x2 x3 v24 x5 s25 | some (Sum.inr v24, s25) => none | none => none) | some (Sum.inr v21, s22) => none | none => none))))) else none)) else none)
def g118_18 (p : Nat) (x1 : Int32) (x2 : Int32) (x3 : Int32) (x4 : Int32) (x5 : Int32) (σ : xS) : Option xQ := xlo (fun a : Int32 × Int32 × Int32 × Int32 × Int32 × xS => g118_18b p a.1 a.2.1 a.2.2.1 a.2.2.2.1 a.2.2.2.2.1 a.2.2.2.2.2) 1000 (x1, x2, x3, x4, x5, σ)
def g118 (p : Nat) (a1 : Int32) (σ : xS) : xO := (bif xn a1 40 then g118_18 p a1 2 0 2 (σ ((59 - p) + 5) (Int32.toNatClampNeg a1)) σ else none)
def a118_18 (l : Launch) (Ω : xo_O) (d p : Nat) (τ : Nat → Nat → Int64) (r : xv_R) : Int32 × Int32 × Int32 × Int32 × Int32 × xS → Prop := fun a => xv l Ω (d + 3) 0 0 118 18 [some (.ref 34), some (.int a.1), some (.int a.2.1), some (.int a.2.2.1), some (.int a.2.2.2.1), some (.int a.2.2.2.2.1)] [] (hM p a.2.2.2.2.2 τ) r
theorem g118_132_ok_23 {l : Launch} {Ω : xo_O} (htr : xH l) (d : Nat) (τ : Nat → Nat → Int64) (x1 : Int32) (x2 : Int32) (x3 : Int32) (x4 : Int32) (x5 : Int32) (σ : xS) (r : xv_R) (H : xo (xd (a118_18 l Ω d 23 τ r) (xB false 23 τ r)) (g118_132 23 x1 x2 x3 x4 x5 σ)) : xv l Ω (d + 3) 0 0 118 132 [some (.ref 34), some (.int x1), some (.int x2), some (.int x3), some (.int x4), some (.int x5)] [] (hM 23 σ τ) r := by
  unfold g118_132 at H
  refine xp_ok htr 2 (d + 3) 0 0 [] 118 132 [some (.ref 34), some (.int x1), some (.int x2), some (.int x3), some (.int x4), some (.int x5)] [] (hM 23 σ τ) ?_
  show xv l Ω (d + 3) 0 0 118 18 [some (.ref 34), some (.int x1), some (.int x2), some (.int x3), some (.int x4), some (.int (x5 + 1))] [] (hM 23 σ τ) r
  exact xv_sub (L' := [some (.ref 34), some (.int x1), some (.int x2), some (.int x3), some (.int x4), some (.int (x5 + 1))]) ⟨rfl, ⟨rfl, ⟨rfl, ⟨rfl, ⟨rfl, ⟨rfl, trivial⟩⟩⟩⟩⟩⟩ H
theorem g118_18b_ok_23 {l : Launch} {Ω : xo_O} (htr : xH l) (d : Nat) (τ : Nat → Nat → Int64) (x1 : Int32) (x2 : Int32) (x3 : Int32) (x4 : Int32) (x5 : Int32) (σ : xS) (r : xv_R) (H : xo (xd (a118_18 l Ω d 23 τ r) (xB false 23 τ r)) (g118_18b 23 x1 x2 x3 x4 x5 σ)) : xv l Ω (d + 3) 0 0 118 18 [some (.ref 34), some (.int x1), some (.int x2), some (.int x3), some (.int x4), some (.int x5)] [] (hM 23 σ τ) r := by
  unfold g118_18b at H
  cases g2 : xn x1 40 with
  | false => rw [g2, cond_false] at H; exact False.elim H
  | true =>
    rw [g2, cond_true] at H
    by_cases h3 : (σ ((59 - 23) + 6) (Int32.toNatClampNeg x1)) ≤ x5
    · rw [if_pos h3] at H
      refine xp_ok htr 7 (d + 3) 0 0 [eB true] 118 18 [some (.ref 34), some (.int x1), some (.int x2), some (.int x3), some (.int x4), some (.int x5)] [] (hM 23 σ τ) ⟨(xn_in g2), h3, ?_⟩
      show xv l Ω (d + 3) 0 0 118 138 [some (.ref 34), some (.int x1), some (.int x2), some (.int x3), some (.int x4), some (.int x5)] [] (hM 23 σ τ) r
      exact xp_ok htr 2 (d + 3) 0 0 [] 118 138 [some (.ref 34), some (.int x1), some (.int x2), some (.int x3), some (.int x4), some (.int x5)] [] (hM 23 σ τ) ⟨trivial, (Eq.symm H)⟩
    · rw [if_neg h3] at H
      refine xp_ok htr 7 (d + 3) 0 0 [eB false] 118 18 [some (.ref 34), some (.int x1), some (.int x2), some (.int x3), some (.int x4), some (.int x5)] [] (hM 23 σ τ) ⟨(xn_in g2), h3, ?_⟩
      show xv l Ω (d + 3) 0 0 118 32 [some (.ref 34), some (.int x1), some (.int x2), some (.int x3), some (.int x4), some (.int x5)] [] (hM 23 σ τ) r
      cases g4 : xn x5 300 with
      | false => rw [g4, cond_false] at H; exact False.elim H
      | true =>
        rw [g4, cond_true] at H
        by_cases h5_0 : (σ ((59 - 23) + 8) (Int32.toNatClampNeg x5)) = 38
        · rw [if_pos h5_0] at H
          refine xp_ok htr 6 (d + 3) 0 0 [eS (some 38)] 118 32 [some (.ref 34), some (.int x1), some (.int x2), some (.int x3), some (.int x4), some (.int x5)] [] (hM 23 σ τ) ⟨(xn_in g4), h5_0, ?_⟩
          show xv l Ω (d + 3) 0 0 118 100 [some (.ref 34), some (.int x1), some (.int x2), some (.int x3), some (.int x4), some (.int x5)] [] (hM 23 σ τ) r
          cases q8 : g17 x3 x4 σ with
          | none => rw [q8] at H; exact False.elim H
          | some q80 =>
            obtain ⟨v6 | v6, s7⟩ := q80
            · rw [q8] at H; dsimp only at H
              have hc := g17_run (Ω := Ω) htr (d + 2) 23 τ x3 x4 σ q8
              refine xp_ok htr 4 (d + 3) 0 0 [eC (some (.int v6)) (hM 23 s7 τ)] 118 100 [some (.ref 34), some (.int x1), some (.int x2), some (.int x3), some (.int x4), some (.int x5)] [] (hM 23 σ τ) ⟨hc, ?_⟩
              show xv l Ω (d + 3) 0 0 118 107 [some (.ref 34), some (.int x1), some (.int x2), some (.int x3), some (.int x4), some (.int x5)] [.int v6, .int x2] (hM 23 s7 τ) r
              cases q11 : g119 x2 v6 s7 with
              | none => rw [q11] at H; exact False.elim H
              | some q110 =>
                obtain ⟨v9 | v9, s10⟩ := q110
                · rw [q11] at H; dsimp only at H
                  have hc := g119_run (Ω := Ω) htr (d + 2) 23 τ x2 v6 s7 q11
                  refine xp_ok htr 1 (d + 3) 0 0 [eC (some (.int v9)) (hM 23 s10 τ)] 118 107 [some (.ref 34), some (.int x1), some (.int x2), some (.int x3), some (.int x4), some (.int x5)] [.int v6, .int x2] (hM 23 s7 τ) ⟨hc, ?_⟩
                  show xv l Ω (d + 3) 0 0 118 110 [some (.ref 34), some (.int x1), some (.int x2), some (.int x3), some (.int x4), some (.int x5)] [.int v9] (hM 23 s10 τ) r
                  refine xp_ok htr 6 (d + 3) 0 0 [] 118 110 [some (.ref 34), some (.int x1), some (.int x2), some (.int x3), some (.int x4), some (.int x5)] [.int v9] (hM 23 s10 τ) ?_
                  show xv l Ω (d + 3) 0 0 118 132 [some (.ref 34), some (.int x1), some (.int v9), some (.int 0), some (.int 2), some (.int x5)] [] (hM 23 s10 τ) r
                  exact xv_sub (L' := [some (.ref 34), some (.int x1), some (.int v9), some (.int 0), some (.int 2), some (.int x5)]) ⟨rfl, ⟨rfl, ⟨rfl, ⟨rfl, ⟨rfl, ⟨rfl, trivial⟩⟩⟩⟩⟩⟩ (g118_132_ok_23 htr d  τ x1 v9 0 2 x5 s10 r H)
                · rw [q11] at H; exact False.elim H
            · rw [q8] at H; exact False.elim H
        rw [if_neg h5_0] at H
        by_cases h5_1 : (σ ((59 - 23) + 8) (Int32.toNatClampNeg x5)) = 44
        · rw [if_pos h5_1] at H
          refine xp_ok htr 6 (d + 3) 0 0 [eS (some 44)] 118 32 [some (.ref 34), some (.int x1), some (.int x2), some (.int x3), some (.int x4), some (.int x5)] [] (hM 23 σ τ) ⟨(xn_in g4), h5_1, ?_⟩
          show xv l Ω (d + 3) 0 0 118 84 [some (.ref 34), some (.int x1), some (.int x2), some (.int x3), some (.int x4), some (.int x5)] [] (hM 23 σ τ) r
          refine xp_ok htr 1 (d + 3) 0 0 [] 118 84 [some (.ref 34), some (.int x1), some (.int x2), some (.int x3), some (.int x4), some (.int x5)] [] (hM 23 σ τ) ?_
          show xv l Ω (d + 3) 0 0 118 132 [some (.ref 34), some (.int x1), some (.int x2), some (.int x3), some (.int x4), some (.int x5)] [] (hM 23 σ τ) r
          exact xv_sub (L' := [some (.ref 34), some (.int x1), some (.int x2), some (.int x3), some (.int x4), some (.int x5)]) ⟨rfl, ⟨rfl, ⟨rfl, ⟨rfl, ⟨rfl, ⟨rfl, trivial⟩⟩⟩⟩⟩⟩ (g118_132_ok_23 htr d  τ x1 x2 x3 x4 x5 σ r H)
        rw [if_neg h5_1] at H
        by_cases h5_2 : (σ ((59 - 23) + 8) (Int32.toNatClampNeg x5)) = 93
        · rw [if_pos h5_2] at H
          refine xp_ok htr 6 (d + 3) 0 0 [eS (some 93)] 118 32 [some (.ref 34), some (.int x1), some (.int x2), some (.int x3), some (.int x4), some (.int x5)] [] (hM 23 σ τ) ⟨(xn_in g4), h5_2, ?_⟩
          show xv l Ω (d + 3) 0 0 118 100 [some (.ref 34), some (.int x1), some (.int x2), some (.int x3), some (.int x4), some (.int x5)] [] (hM 23 σ τ) r
          cases q14 : g17 x3 x4 σ with
          | none => rw [q14] at H; exact False.elim H
          | some q140 =>
            obtain ⟨v12 | v12, s13⟩ := q140
            · rw [q14] at H; dsimp only at H
              have hc := g17_run (Ω := Ω) htr (d + 2) 23 τ x3 x4 σ q14
              refine xp_ok htr 4 (d + 3) 0 0 [eC (some (.int v12)) (hM 23 s13 τ)] 118 100 [some (.ref 34), some (.int x1), some (.int x2), some (.int x3), some (.int x4), some (.int x5)] [] (hM 23 σ τ) ⟨hc, ?_⟩
              show xv l Ω (d + 3) 0 0 118 107 [some (.ref 34), some (.int x1), some (.int x2), some (.int x3), some (.int x4), some (.int x5)] [.int v12, .int x2] (hM 23 s13 τ) r
              cases q17 : g119 x2 v12 s13 with
              | none => rw [q17] at H; exact False.elim H
              | some q170 =>
                obtain ⟨v15 | v15, s16⟩ := q170
                · rw [q17] at H; dsimp only at H
                  have hc := g119_run (Ω := Ω) htr (d + 2) 23 τ x2 v12 s13 q17
                  refine xp_ok htr 1 (d + 3) 0 0 [eC (some (.int v15)) (hM 23 s16 τ)] 118 107 [some (.ref 34), some (.int x1), some (.int x2), some (.int x3), some (.int x4), some (.int x5)] [.int v12, .int x2] (hM 23 s13 τ) ⟨hc, ?_⟩
                  show xv l Ω (d + 3) 0 0 118 110 [some (.ref 34), some (.int x1), some (.int x2), some (.int x3), some (.int x4), some (.int x5)] [.int v15] (hM 23 s16 τ) r
                  refine xp_ok htr 6 (d + 3) 0 0 [] 118 110 [some (.ref 34), some (.int x1), some (.int x2), some (.int x3), some (.int x4), some (.int x5)] [.int v15] (hM 23 s16 τ) ?_
                  show xv l Ω (d + 3) 0 0 118 132 [some (.ref 34), some (.int x1), some (.int v15), some (.int 0), some (.int 2), some (.int x5)] [] (hM 23 s16 τ) r
                  exact xv_sub (L' := [some (.ref 34), some (.int x1), some (.int v15), some (.int 0), some (.int 2), some (.int x5)]) ⟨rfl, ⟨rfl, ⟨rfl, ⟨rfl, ⟨rfl, ⟨rfl, trivial⟩⟩⟩⟩⟩⟩ (g118_132_ok_23 htr d  τ x1 v15 0 2 x5 s16 r H)
                · rw [q17] at H; exact False.elim H
            · rw [q14] at H; exact False.elim H
        rw [if_neg h5_2] at H
        by_cases h5_3 : (σ ((59 - 23) + 8) (Int32.toNatClampNeg x5)) = 124
        · rw [if_pos h5_3] at H
          refine xp_ok htr 6 (d + 3) 0 0 [eS (some 124)] 118 32 [some (.ref 34), some (.int x1), some (.int x2), some (.int x3), some (.int x4), some (.int x5)] [] (hM 23 σ τ) ⟨(xn_in g4), h5_3, ?_⟩
          show xv l Ω (d + 3) 0 0 118 87 [some (.ref 34), some (.int x1), some (.int x2), some (.int x3), some (.int x4), some (.int x5)] [] (hM 23 σ τ) r
          cases q20 : g17 x3 x4 σ with
          | none => rw [q20] at H; exact False.elim H
          | some q200 =>
            obtain ⟨v18 | v18, s19⟩ := q200
            · rw [q20] at H; dsimp only at H
              have hc := g17_run (Ω := Ω) htr (d + 2) 23 τ x3 x4 σ q20
              refine xp_ok htr 3 (d + 3) 0 0 [eC (some (.int v18)) (hM 23 s19 τ)] 118 87 [some (.ref 34), some (.int x1), some (.int x2), some (.int x3), some (.int x4), some (.int x5)] [] (hM 23 σ τ) ⟨hc, ?_⟩
              show xv l Ω (d + 3) 0 0 118 93 [some (.ref 34), some (.int x1), some (.int x2), some (.int x3), some (.int x4), some (.int x5)] [.int v18] (hM 23 s19 τ) r
              refine xp_ok htr 4 (d + 3) 0 0 [] 118 93 [some (.ref 34), some (.int x1), some (.int x2), some (.int x3), some (.int x4), some (.int x5)] [.int v18] (hM 23 s19 τ) ?_
              show xv l Ω (d + 3) 0 0 118 132 [some (.ref 34), some (.int x1), some (.int x2), some (.int v18), some (.int 2), some (.int x5)] [] (hM 23 s19 τ) r
              exact xv_sub (L' := [some (.ref 34), some (.int x1), some (.int x2), some (.int v18), some (.int 2), some (.int x5)]) ⟨rfl, ⟨rfl, ⟨rfl, ⟨rfl, ⟨rfl, ⟨rfl, trivial⟩⟩⟩⟩⟩⟩ (g118_132_ok_23 htr d  τ x1 x2 v18 2 x5 s19 r H)
            · rw [q20] at H; exact False.elim H
        rw [if_neg h5_3] at H
        refine xp_ok htr 6 (d + 3) 0 0 [eS none] 118 32 [some (.ref 34), some (.int x1), some (.int x2), some (.int x3), some (.int x4), some (.int x5)] [] (hM 23 σ τ) ⟨(xn_in g4), ⟨h5_0, h5_1, h5_2, h5_3, trivial⟩, ?_⟩
        show xv l Ω (d + 3) 0 0 118 119 [some (.ref 34), some (.int x1), some (.int x2), some (.int x3), some (.int x4), some (.int x5)] [] (hM 23 σ τ) r
        cases q23 : g120 23 x5 σ with
        | none => rw [q23] at H; exact False.elim H
        | some q230 =>
          obtain ⟨v21 | v21, s22⟩ := q230
          · rw [q23] at H; dsimp only at H
            have hc := g120_run_23 (Ω := Ω) htr d  τ x5 σ q23
            refine xp_ok htr 4 (d + 3) 0 0 [eC (some (.int v21)) (hM 23 s22 τ)] 118 119 [some (.ref 34), some (.int x1), some (.int x2), some (.int x3), some (.int x4), some (.int x5)] [] (hM 23 σ τ) ⟨hc, ?_⟩
            show xv l Ω (d + 3) 0 0 118 127 [some (.ref 34), some (.int x1), some (.int x2), some (.int x3), some (.int x4), some (.int x5)] [.int v21, .int x4] (hM 23 s22 τ) r
            cases q26 : g119 x4 v21 s22 with
            | none => rw [q26] at H; exact False.elim H
            | some q260 =>
              obtain ⟨v24 | v24, s25⟩ := q260
              · rw [q26] at H; dsimp only at H
                have hc := g119_run (Ω := Ω) htr (d + 2) 23 τ x4 v21 s22 q26
                refine xp_ok htr 1 (d + 3) 0 0 [eC (some (.int v24)) (hM 23 s25 τ)] 118 127 [some (.ref 34), some (.int x1), some (.int x2), some (.int x3), some (.int x4), some (.int x5)] [.int v21, .int x4] (hM 23 s22 τ) ⟨hc, ?_⟩
                show xv l Ω (d + 3) 0 0 118 130 [some (.ref 34), some (.int x1), some (.int x2), some (.int x3), some (.int x4), some (.int x5)] [.int v24] (hM 23 s25 τ) r
                refine xp_ok htr 1 (d + 3) 0 0 [] 118 130 [some (.ref 34), some (.int x1), some (.int x2), some (.int x3), some (.int x4), some (.int x5)] [.int v24] (hM 23 s25 τ) ?_
                show xv l Ω (d + 3) 0 0 118 132 [some (.ref 34), some (.int x1), some (.int x2), some (.int x3), some (.int v24), some (.int x5)] [] (hM 23 s25 τ) r
                exact xv_sub (L' := [some (.ref 34), some (.int x1), some (.int x2), some (.int x3), some (.int v24), some (.int x5)]) ⟨rfl, ⟨rfl, ⟨rfl, ⟨rfl, ⟨rfl, ⟨rfl, trivial⟩⟩⟩⟩⟩⟩ (g118_132_ok_23 htr d  τ x1 x2 x3 v24 x5 s25 r H)
              · rw [q26] at H; exact False.elim H
          · rw [q23] at H; exact False.elim H
theorem g118_18_ok_23 {l : Launch} {Ω : xo_O} (htr : xH l) (d : Nat) (τ : Nat → Nat → Int64) (x1 : Int32) (x2 : Int32) (x3 : Int32) (x4 : Int32) (x5 : Int32) (σ : xS) (r : xv_R) (H : xo (xB false 23 τ r) (g118_18 23 x1 x2 x3 x4 x5 σ)) : xv l Ω (d + 3) 0 0 118 18 [some (.ref 34), some (.int x1), some (.int x2), some (.int x3), some (.int x4), some (.int x5)] [] (hM 23 σ τ) r :=
  xlo_ok (A := a118_18 l Ω d 23 τ r) (fun a H => g118_18b_ok_23 htr d  τ a.1 a.2.1 a.2.2.1 a.2.2.2.1 a.2.2.2.2.1 a.2.2.2.2.2 r H) 1000 (x1, x2, x3, x4, x5, σ) H
theorem g118_run_23 {l : Launch} {Ω : xo_O} (htr : xH l) (d : Nat) (τ : Nat → Nat → Int64) (a1 : Int32) (σ : xS) {q : xQ} (hq : g118 23 a1 σ = some q) : xv l Ω (d + 3) 0 0 118 0 (xs_loc (xm_l 118) [.ref 34, .int a1]) [] (hM 23 σ τ) (xq_R false 23 τ q) := by
  have H : xo (xB false 23 τ (xq_R false 23 τ q)) (g118 23 a1 σ) := by rw [hq]; exact rfl
  generalize xq_R false 23 τ q = r at H ⊢
  show xv l Ω (d + 3) 0 0 118 0 [some (.ref 34), some (.int a1), none, none, none, none] [] (hM 23 σ τ) r
  unfold g118 at H
  refine xp_ok htr 8 (d + 3) 0 0 [] 118 0 [some (.ref 34), some (.int a1), none, none, none, none] [] (hM 23 σ τ) ?_
  show xv l Ω (d + 3) 0 0 118 11 [some (.ref 34), some (.int a1), some (.int 2), some (.int 0), some (.int 2), none] [.ref (59 - 23)] (hM 23 σ τ) r
  cases g1 : xn a1 40 with
  | false => rw [g1, cond_false] at H; exact False.elim H
  | true =>
    rw [g1, cond_true] at H
    refine xp_ok htr 4 (d + 3) 0 0 [] 118 11 [some (.ref 34), some (.int a1), some (.int 2), some (.int 0), some (.int 2), none] [.ref (59 - 23)] (hM 23 σ τ) ⟨(xn_in g1), ?_⟩
    show xv l Ω (d + 3) 0 0 118 18 [some (.ref 34), some (.int a1), some (.int 2), some (.int 0), some (.int 2), some (.int (σ ((59 - 23) + 5) (Int32.toNatClampNeg a1)))] [] (hM 23 σ τ) r
    exact xv_sub (L' := [some (.ref 34), some (.int a1), some (.int 2), some (.int 0), some (.int 2), some (.int (σ ((59 - 23) + 5) (Int32.toNatClampNeg a1)))]) ⟨rfl, ⟨rfl, ⟨rfl, ⟨rfl, ⟨rfl, ⟨rfl, trivial⟩⟩⟩⟩⟩⟩ (g118_18_ok_23 htr d  τ a1 2 0 2 (σ ((59 - 23) + 5) (Int32.toNatClampNeg a1)) σ r H)
theorem g118_132_ok_36 {l : Launch} {Ω : xo_O} (htr : xH l) (d : Nat) (τ : Nat → Nat → Int64) (x1 : Int32) (x2 : Int32) (x3 : Int32) (x4 : Int32) (x5 : Int32) (σ : xS) (r : xv_R) (H : xo (xd (a118_18 l Ω d 36 τ r) (xB false 36 τ r)) (g118_132 36 x1 x2 x3 x4 x5 σ)) : xv l Ω (d + 3) 0 0 118 132 [some (.ref 34), some (.int x1), some (.int x2), some (.int x3), some (.int x4), some (.int x5)] [] (hM 36 σ τ) r := by
  unfold g118_132 at H
  refine xp_ok htr 2 (d + 3) 0 0 [] 118 132 [some (.ref 34), some (.int x1), some (.int x2), some (.int x3), some (.int x4), some (.int x5)] [] (hM 36 σ τ) ?_
  show xv l Ω (d + 3) 0 0 118 18 [some (.ref 34), some (.int x1), some (.int x2), some (.int x3), some (.int x4), some (.int (x5 + 1))] [] (hM 36 σ τ) r
  exact xv_sub (L' := [some (.ref 34), some (.int x1), some (.int x2), some (.int x3), some (.int x4), some (.int (x5 + 1))]) ⟨rfl, ⟨rfl, ⟨rfl, ⟨rfl, ⟨rfl, ⟨rfl, trivial⟩⟩⟩⟩⟩⟩ H
theorem g118_18b_ok_36 {l : Launch} {Ω : xo_O} (htr : xH l) (d : Nat) (τ : Nat → Nat → Int64) (x1 : Int32) (x2 : Int32) (x3 : Int32) (x4 : Int32) (x5 : Int32) (σ : xS) (r : xv_R) (H : xo (xd (a118_18 l Ω d 36 τ r) (xB false 36 τ r)) (g118_18b 36 x1 x2 x3 x4 x5 σ)) : xv l Ω (d + 3) 0 0 118 18 [some (.ref 34), some (.int x1), some (.int x2), some (.int x3), some (.int x4), some (.int x5)] [] (hM 36 σ τ) r := by
  unfold g118_18b at H
  cases g2 : xn x1 40 with
  | false => rw [g2, cond_false] at H; exact False.elim H
  | true =>
    rw [g2, cond_true] at H
    by_cases h3 : (σ ((59 - 36) + 6) (Int32.toNatClampNeg x1)) ≤ x5
    · rw [if_pos h3] at H
      refine xp_ok htr 7 (d + 3) 0 0 [eB true] 118 18 [some (.ref 34), some (.int x1), some (.int x2), some (.int x3), some (.int x4), some (.int x5)] [] (hM 36 σ τ) ⟨(xn_in g2), h3, ?_⟩
      show xv l Ω (d + 3) 0 0 118 138 [some (.ref 34), some (.int x1), some (.int x2), some (.int x3), some (.int x4), some (.int x5)] [] (hM 36 σ τ) r
      exact xp_ok htr 2 (d + 3) 0 0 [] 118 138 [some (.ref 34), some (.int x1), some (.int x2), some (.int x3), some (.int x4), some (.int x5)] [] (hM 36 σ τ) ⟨trivial, (Eq.symm H)⟩
    · rw [if_neg h3] at H
      refine xp_ok htr 7 (d + 3) 0 0 [eB false] 118 18 [some (.ref 34), some (.int x1), some (.int x2), some (.int x3), some (.int x4), some (.int x5)] [] (hM 36 σ τ) ⟨(xn_in g2), h3, ?_⟩
      show xv l Ω (d + 3) 0 0 118 32 [some (.ref 34), some (.int x1), some (.int x2), some (.int x3), some (.int x4), some (.int x5)] [] (hM 36 σ τ) r
      cases g4 : xn x5 300 with
      | false => rw [g4, cond_false] at H; exact False.elim H
      | true =>
        rw [g4, cond_true] at H
        by_cases h5_0 : (σ ((59 - 36) + 8) (Int32.toNatClampNeg x5)) = 38
        · rw [if_pos h5_0] at H
          refine xp_ok htr 6 (d + 3) 0 0 [eS (some 38)] 118 32 [some (.ref 34), some (.int x1), some (.int x2), some (.int x3), some (.int x4), some (.int x5)] [] (hM 36 σ τ) ⟨(xn_in g4), h5_0, ?_⟩
          show xv l Ω (d + 3) 0 0 118 100 [some (.ref 34), some (.int x1), some (.int x2), some (.int x3), some (.int x4), some (.int x5)] [] (hM 36 σ τ) r
          cases q8 : g17 x3 x4 σ with
          | none => rw [q8] at H; exact False.elim H
          | some q80 =>
            obtain ⟨v6 | v6, s7⟩ := q80
            · rw [q8] at H; dsimp only at H
              have hc := g17_run (Ω := Ω) htr (d + 2) 36 τ x3 x4 σ q8
              refine xp_ok htr 4 (d + 3) 0 0 [eC (some (.int v6)) (hM 36 s7 τ)] 118 100 [some (.ref 34), some (.int x1), some (.int x2), some (.int x3), some (.int x4), some (.int x5)] [] (hM 36 σ τ) ⟨hc, ?_⟩
              show xv l Ω (d + 3) 0 0 118 107 [some (.ref 34), some (.int x1), some (.int x2), some (.int x3), some (.int x4), some (.int x5)] [.int v6, .int x2] (hM 36 s7 τ) r
              cases q11 : g119 x2 v6 s7 with
              | none => rw [q11] at H; exact False.elim H
              | some q110 =>
                obtain ⟨v9 | v9, s10⟩ := q110
                · rw [q11] at H; dsimp only at H
                  have hc := g119_run (Ω := Ω) htr (d + 2) 36 τ x2 v6 s7 q11
                  refine xp_ok htr 1 (d + 3) 0 0 [eC (some (.int v9)) (hM 36 s10 τ)] 118 107 [some (.ref 34), some (.int x1), some (.int x2), some (.int x3), some (.int x4), some (.int x5)] [.int v6, .int x2] (hM 36 s7 τ) ⟨hc, ?_⟩
                  show xv l Ω (d + 3) 0 0 118 110 [some (.ref 34), some (.int x1), some (.int x2), some (.int x3), some (.int x4), some (.int x5)] [.int v9] (hM 36 s10 τ) r
                  refine xp_ok htr 6 (d + 3) 0 0 [] 118 110 [some (.ref 34), some (.int x1), some (.int x2), some (.int x3), some (.int x4), some (.int x5)] [.int v9] (hM 36 s10 τ) ?_
                  show xv l Ω (d + 3) 0 0 118 132 [some (.ref 34), some (.int x1), some (.int v9), some (.int 0), some (.int 2), some (.int x5)] [] (hM 36 s10 τ) r
                  exact xv_sub (L' := [some (.ref 34), some (.int x1), some (.int v9), some (.int 0), some (.int 2), some (.int x5)]) ⟨rfl, ⟨rfl, ⟨rfl, ⟨rfl, ⟨rfl, ⟨rfl, trivial⟩⟩⟩⟩⟩⟩ (g118_132_ok_36 htr d  τ x1 v9 0 2 x5 s10 r H)
                · rw [q11] at H; exact False.elim H
            · rw [q8] at H; exact False.elim H
        rw [if_neg h5_0] at H
        by_cases h5_1 : (σ ((59 - 36) + 8) (Int32.toNatClampNeg x5)) = 44
        · rw [if_pos h5_1] at H
          refine xp_ok htr 6 (d + 3) 0 0 [eS (some 44)] 118 32 [some (.ref 34), some (.int x1), some (.int x2), some (.int x3), some (.int x4), some (.int x5)] [] (hM 36 σ τ) ⟨(xn_in g4), h5_1, ?_⟩
          show xv l Ω (d + 3) 0 0 118 84 [some (.ref 34), some (.int x1), some (.int x2), some (.int x3), some (.int x4), some (.int x5)] [] (hM 36 σ τ) r
          refine xp_ok htr 1 (d + 3) 0 0 [] 118 84 [some (.ref 34), some (.int x1), some (.int x2), some (.int x3), some (.int x4), some (.int x5)] [] (hM 36 σ τ) ?_
          show xv l Ω (d + 3) 0 0 118 132 [some (.ref 34), some (.int x1), some (.int x2), some (.int x3), some (.int x4), some (.int x5)] [] (hM 36 σ τ) r
          exact xv_sub (L' := [some (.ref 34), some (.int x1), some (.int x2), some (.int x3), some (.int x4), some (.int x5)]) ⟨rfl, ⟨rfl, ⟨rfl, ⟨rfl, ⟨rfl, ⟨rfl, trivial⟩⟩⟩⟩⟩⟩ (g118_132_ok_36 htr d  τ x1 x2 x3 x4 x5 σ r H)
        rw [if_neg h5_1] at H
        by_cases h5_2 : (σ ((59 - 36) + 8) (Int32.toNatClampNeg x5)) = 93
        · rw [if_pos h5_2] at H
          refine xp_ok htr 6 (d + 3) 0 0 [eS (some 93)] 118 32 [some (.ref 34), some (.int x1), some (.int x2), some (.int x3), some (.int x4), some (.int x5)] [] (hM 36 σ τ) ⟨(xn_in g4), h5_2, ?_⟩
          show xv l Ω (d + 3) 0 0 118 100 [some (.ref 34), some (.int x1), some (.int x2), some (.int x3), some (.int x4), some (.int x5)] [] (hM 36 σ τ) r
          cases q14 : g17 x3 x4 σ with
          | none => rw [q14] at H; exact False.elim H
          | some q140 =>
            obtain ⟨v12 | v12, s13⟩ := q140
            · rw [q14] at H; dsimp only at H
              have hc := g17_run (Ω := Ω) htr (d + 2) 36 τ x3 x4 σ q14
              refine xp_ok htr 4 (d + 3) 0 0 [eC (some (.int v12)) (hM 36 s13 τ)] 118 100 [some (.ref 34), some (.int x1), some (.int x2), some (.int x3), some (.int x4), some (.int x5)] [] (hM 36 σ τ) ⟨hc, ?_⟩
              show xv l Ω (d + 3) 0 0 118 107 [some (.ref 34), some (.int x1), some (.int x2), some (.int x3), some (.int x4), some (.int x5)] [.int v12, .int x2] (hM 36 s13 τ) r
              cases q17 : g119 x2 v12 s13 with
              | none => rw [q17] at H; exact False.elim H
              | some q170 =>
                obtain ⟨v15 | v15, s16⟩ := q170
                · rw [q17] at H; dsimp only at H
                  have hc := g119_run (Ω := Ω) htr (d + 2) 36 τ x2 v12 s13 q17
                  refine xp_ok htr 1 (d + 3) 0 0 [eC (some (.int v15)) (hM 36 s16 τ)] 118 107 [some (.ref 34), some (.int x1), some (.int x2), some (.int x3), some (.int x4), some (.int x5)] [.int v12, .int x2] (hM 36 s13 τ) ⟨hc, ?_⟩
                  show xv l Ω (d + 3) 0 0 118 110 [some (.ref 34), some (.int x1), some (.int x2), some (.int x3), some (.int x4), some (.int x5)] [.int v15] (hM 36 s16 τ) r
                  refine xp_ok htr 6 (d + 3) 0 0 [] 118 110 [some (.ref 34), some (.int x1), some (.int x2), some (.int x3), some (.int x4), some (.int x5)] [.int v15] (hM 36 s16 τ) ?_
                  show xv l Ω (d + 3) 0 0 118 132 [some (.ref 34), some (.int x1), some (.int v15), some (.int 0), some (.int 2), some (.int x5)] [] (hM 36 s16 τ) r
                  exact xv_sub (L' := [some (.ref 34), some (.int x1), some (.int v15), some (.int 0), some (.int 2), some (.int x5)]) ⟨rfl, ⟨rfl, ⟨rfl, ⟨rfl, ⟨rfl, ⟨rfl, trivial⟩⟩⟩⟩⟩⟩ (g118_132_ok_36 htr d  τ x1 v15 0 2 x5 s16 r H)
                · rw [q17] at H; exact False.elim H
            · rw [q14] at H; exact False.elim H
        rw [if_neg h5_2] at H
        by_cases h5_3 : (σ ((59 - 36) + 8) (Int32.toNatClampNeg x5)) = 124
        · rw [if_pos h5_3] at H
          refine xp_ok htr 6 (d + 3) 0 0 [eS (some 124)] 118 32 [some (.ref 34), some (.int x1), some (.int x2), some (.int x3), some (.int x4), some (.int x5)] [] (hM 36 σ τ) ⟨(xn_in g4), h5_3, ?_⟩
          show xv l Ω (d + 3) 0 0 118 87 [some (.ref 34), some (.int x1), some (.int x2), some (.int x3), some (.int x4), some (.int x5)] [] (hM 36 σ τ) r
          cases q20 : g17 x3 x4 σ with
          | none => rw [q20] at H; exact False.elim H
          | some q200 =>
            obtain ⟨v18 | v18, s19⟩ := q200
            · rw [q20] at H; dsimp only at H
              have hc := g17_run (Ω := Ω) htr (d + 2) 36 τ x3 x4 σ q20
              refine xp_ok htr 3 (d + 3) 0 0 [eC (some (.int v18)) (hM 36 s19 τ)] 118 87 [some (.ref 34), some (.int x1), some (.int x2), some (.int x3), some (.int x4), some (.int x5)] [] (hM 36 σ τ) ⟨hc, ?_⟩
              show xv l Ω (d + 3) 0 0 118 93 [some (.ref 34), some (.int x1), some (.int x2), some (.int x3), some (.int x4), some (.int x5)] [.int v18] (hM 36 s19 τ) r
              refine xp_ok htr 4 (d + 3) 0 0 [] 118 93 [some (.ref 34), some (.int x1), some (.int x2), some (.int x3), some (.int x4), some (.int x5)] [.int v18] (hM 36 s19 τ) ?_
              show xv l Ω (d + 3) 0 0 118 132 [some (.ref 34), some (.int x1), some (.int x2), some (.int v18), some (.int 2), some (.int x5)] [] (hM 36 s19 τ) r
              exact xv_sub (L' := [some (.ref 34), some (.int x1), some (.int x2), some (.int v18), some (.int 2), some (.int x5)]) ⟨rfl, ⟨rfl, ⟨rfl, ⟨rfl, ⟨rfl, ⟨rfl, trivial⟩⟩⟩⟩⟩⟩ (g118_132_ok_36 htr d  τ x1 x2 v18 2 x5 s19 r H)
            · rw [q20] at H; exact False.elim H
        rw [if_neg h5_3] at H
        refine xp_ok htr 6 (d + 3) 0 0 [eS none] 118 32 [some (.ref 34), some (.int x1), some (.int x2), some (.int x3), some (.int x4), some (.int x5)] [] (hM 36 σ τ) ⟨(xn_in g4), ⟨h5_0, h5_1, h5_2, h5_3, trivial⟩, ?_⟩
        show xv l Ω (d + 3) 0 0 118 119 [some (.ref 34), some (.int x1), some (.int x2), some (.int x3), some (.int x4), some (.int x5)] [] (hM 36 σ τ) r
        cases q23 : g120 36 x5 σ with
        | none => rw [q23] at H; exact False.elim H
        | some q230 =>
          obtain ⟨v21 | v21, s22⟩ := q230
          · rw [q23] at H; dsimp only at H
            have hc := g120_run_36 (Ω := Ω) htr d  τ x5 σ q23
            refine xp_ok htr 4 (d + 3) 0 0 [eC (some (.int v21)) (hM 36 s22 τ)] 118 119 [some (.ref 34), some (.int x1), some (.int x2), some (.int x3), some (.int x4), some (.int x5)] [] (hM 36 σ τ) ⟨hc, ?_⟩
            show xv l Ω (d + 3) 0 0 118 127 [some (.ref 34), some (.int x1), some (.int x2), some (.int x3), some (.int x4), some (.int x5)] [.int v21, .int x4] (hM 36 s22 τ) r
            cases q26 : g119 x4 v21 s22 with
            | none => rw [q26] at H; exact False.elim H
            | some q260 =>
              obtain ⟨v24 | v24, s25⟩ := q260
              · rw [q26] at H; dsimp only at H
                have hc := g119_run (Ω := Ω) htr (d + 2) 36 τ x4 v21 s22 q26
                refine xp_ok htr 1 (d + 3) 0 0 [eC (some (.int v24)) (hM 36 s25 τ)] 118 127 [some (.ref 34), some (.int x1), some (.int x2), some (.int x3), some (.int x4), some (.int x5)] [.int v21, .int x4] (hM 36 s22 τ) ⟨hc, ?_⟩
                show xv l Ω (d + 3) 0 0 118 130 [some (.ref 34), some (.int x1), some (.int x2), some (.int x3), some (.int x4), some (.int x5)] [.int v24] (hM 36 s25 τ) r
                refine xp_ok htr 1 (d + 3) 0 0 [] 118 130 [some (.ref 34), some (.int x1), some (.int x2), some (.int x3), some (.int x4), some (.int x5)] [.int v24] (hM 36 s25 τ) ?_
                show xv l Ω (d + 3) 0 0 118 132 [some (.ref 34), some (.int x1), some (.int x2), some (.int x3), some (.int v24), some (.int x5)] [] (hM 36 s25 τ) r
                exact xv_sub (L' := [some (.ref 34), some (.int x1), some (.int x2), some (.int x3), some (.int v24), some (.int x5)]) ⟨rfl, ⟨rfl, ⟨rfl, ⟨rfl, ⟨rfl, ⟨rfl, trivial⟩⟩⟩⟩⟩⟩ (g118_132_ok_36 htr d  τ x1 x2 x3 v24 x5 s25 r H)
              · rw [q26] at H; exact False.elim H
          · rw [q23] at H; exact False.elim H
theorem g118_18_ok_36 {l : Launch} {Ω : xo_O} (htr : xH l) (d : Nat) (τ : Nat → Nat → Int64) (x1 : Int32) (x2 : Int32) (x3 : Int32) (x4 : Int32) (x5 : Int32) (σ : xS) (r : xv_R) (H : xo (xB false 36 τ r) (g118_18 36 x1 x2 x3 x4 x5 σ)) : xv l Ω (d + 3) 0 0 118 18 [some (.ref 34), some (.int x1), some (.int x2), some (.int x3), some (.int x4), some (.int x5)] [] (hM 36 σ τ) r :=
  xlo_ok (A := a118_18 l Ω d 36 τ r) (fun a H => g118_18b_ok_36 htr d  τ a.1 a.2.1 a.2.2.1 a.2.2.2.1 a.2.2.2.2.1 a.2.2.2.2.2 r H) 1000 (x1, x2, x3, x4, x5, σ) H
theorem g118_run_36 {l : Launch} {Ω : xo_O} (htr : xH l) (d : Nat) (τ : Nat → Nat → Int64) (a1 : Int32) (σ : xS) {q : xQ} (hq : g118 36 a1 σ = some q) : xv l Ω (d + 3) 0 0 118 0 (xs_loc (xm_l 118) [.ref 34, .int a1]) [] (hM 36 σ τ) (xq_R false 36 τ q) := by
  have H : xo (xB false 36 τ (xq_R false 36 τ q)) (g118 36 a1 σ) := by rw [hq]; exact rfl
  generalize xq_R false 36 τ q = r at H ⊢
  show xv l Ω (d + 3) 0 0 118 0 [some (.ref 34), some (.int a1), none, none, none, none] [] (hM 36 σ τ) r
  unfold g118 at H
  refine xp_ok htr 8 (d + 3) 0 0 [] 118 0 [some (.ref 34), some (.int a1), none, none, none, none] [] (hM 36 σ τ) ?_
  show xv l Ω (d + 3) 0 0 118 11 [some (.ref 34), some (.int a1), some (.int 2), some (.int 0), some (.int 2), none] [.ref (59 - 36)] (hM 36 σ τ) r
  cases g1 : xn a1 40 with
  | false => rw [g1, cond_false] at H; exact False.elim H
  | true =>
    rw [g1, cond_true] at H
    refine xp_ok htr 4 (d + 3) 0 0 [] 118 11 [some (.ref 34), some (.int a1), some (.int 2), some (.int 0), some (.int 2), none] [.ref (59 - 36)] (hM 36 σ τ) ⟨(xn_in g1), ?_⟩
    show xv l Ω (d + 3) 0 0 118 18 [some (.ref 34), some (.int a1), some (.int 2), some (.int 0), some (.int 2), some (.int (σ ((59 - 36) + 5) (Int32.toNatClampNeg a1)))] [] (hM 36 σ τ) r
    exact xv_sub (L' := [some (.ref 34), some (.int a1), some (.int 2), some (.int 0), some (.int 2), some (.int (σ ((59 - 36) + 5) (Int32.toNatClampNeg a1)))]) ⟨rfl, ⟨rfl, ⟨rfl, ⟨rfl, ⟨rfl, ⟨rfl, trivial⟩⟩⟩⟩⟩⟩ (g118_18_ok_36 htr d  τ a1 2 0 2 (σ ((59 - 36) + 5) (Int32.toNatClampNeg a1)) σ r H)
/- AccessDesk$Judge.takeStep -/
def g124_113 (p : Nat) (x1 : Int32) (x2 : Int32) (σ : xS) : Option xQ := (if x2 < 7 then (match g120 p x1 σ with | some (Sum.inl v7, s8) => (bif xn x2 7 then some ((Sum.inl (x2 + 1), (xh_ui s8 50 (Int32.toNatClampNeg x2) v7))) else none) | some (Sum.inr v7, s8) => none | none => none) else some ((Sum.inl x2, σ)))
def g124_108 (p : Nat) (x2 : Int32) (k1 : Int32) (k2 : Int32) (σ : xS) : Option xQ := (bif xn k1 7 then some ((Sum.inl (x2 - 1), (xh_ui σ 50 (Int32.toNatClampNeg k1) k2))) else none)
def g124_53 (p : Nat) (x1 : Int32) (x2 : Int32) (x3 : Int32) (σ : xS) : Option xQ := (if x2 < 2 then g124_113 p x1 x2 σ else (bif xn (x2 - 2) 7 then (bif xn (x2 - 1) 7 then (if x3 = 38 then (match g119 (σ 50 (Int32.toNatClampNeg (x2 - 2))) (σ 50 (Int32.toNatClampNeg (x2 - 1))) σ with | some (Sum.inl v14, s15) => g124_108 p x2 (x2 - 2) v14 s15 | some (Sum.inr v14, s15) => none | none => none) else (match g17 (σ 50 (Int32.toNatClampNeg (x2 - 2))) (σ 50 (Int32.toNatClampNeg (x2 - 1))) σ with | some (Sum.inl v18, s19) => g124_108 p x2 (x2 - 2) v18 s19 | some (Sum.inr v18, s19) => none | none => none)) else none) else none))
def g124_41 (p : Nat) (x1 : Int32) (x2 : Int32) (x3 : Int32) (σ : xS) : Option xQ := (if x3 = 38 then g124_53 p x1 x2 x3 σ else (if x3 = 124 then g124_53 p x1 x2 x3 σ else g124_113 p x1 x2 σ))
def g124 (p : Nat) (a1 : Int32) (a2 : Int32) (σ : xS) : xO := (bif xn a1 300 then (if (σ ((59 - p) + 8) (Int32.toNatClampNeg a1)) = 33 then (if a2 < 1 then g124_41 p a1 a2 (σ ((59 - p) + 8) (Int32.toNatClampNeg a1)) σ else (bif xn (a2 - 1) 7 then some ((Sum.inl a2, (xh_ui σ 50 (Int32.toNatClampNeg (a2 - 1)) (2 - (σ 50 (Int32.toNatClampNeg (a2 - 1))))))) else none)) else g124_41 p a1 a2 (σ ((59 - p) + 8) (Int32.toNatClampNeg a1)) σ) else none)
theorem g124_113_ok_23 {l : Launch} {Ω : xo_O} (htr : xH l) (d : Nat) (τ : Nat → Nat → Int64) (x1 : Int32) (x2 : Int32) (σ : xS) (r : xv_R) (H : xo (xB false 23 τ r) (g124_113 23 x1 x2 σ)) : xv l Ω (d + 3) 0 0 124 113 [some (.ref 34), some (.int x1), some (.int x2), none, none, none] [] (hM 23 σ τ) r := by
  unfold g124_113 at H
  by_cases h6 : x2 < 7
  · rw [if_pos h6] at H
    refine xp_ok htr 5 (d + 3) 0 0 [eB true] 124 113 [some (.ref 34), some (.int x1), some (.int x2), none, none, none] [] (hM 23 σ τ) ⟨h6, ?_⟩
    show xv l Ω (d + 3) 0 0 124 124 [some (.ref 34), some (.int x1), some (.int x2), none, none, none] [] (hM 23 σ τ) r
    cases q9 : g120 23 x1 σ with
    | none => rw [q9] at H; exact False.elim H
    | some q90 =>
      obtain ⟨v7 | v7, s8⟩ := q90
      · rw [q9] at H; dsimp only at H
        have hc := g120_run_23 (Ω := Ω) htr d  τ x1 σ q9
        refine xp_ok htr 6 (d + 3) 0 0 [eC (some (.int v7)) (hM 23 s8 τ)] 124 124 [some (.ref 34), some (.int x1), some (.int x2), none, none, none] [] (hM 23 σ τ) ⟨hc, ?_⟩
        show xv l Ω (d + 3) 0 0 124 134 [some (.ref 34), some (.int x1), some (.int x2), none, none, none] [.int v7, .int x2, .ref 50] (hM 23 s8 τ) r
        cases g10 : xn x2 7 with
        | false => rw [g10, cond_false] at H; exact False.elim H
        | true =>
          rw [g10, cond_true] at H
          exact xp_ok htr 5 (d + 3) 0 0 [] 124 134 [some (.ref 34), some (.int x1), some (.int x2), none, none, none] [.int v7, .int x2, .ref 50] (hM 23 s8 τ) ⟨(xn_in g10), trivial, (Eq.symm H)⟩
      · rw [q9] at H; exact False.elim H
  · rw [if_neg h6] at H
    refine xp_ok htr 5 (d + 3) 0 0 [eB false] 124 113 [some (.ref 34), some (.int x1), some (.int x2), none, none, none] [] (hM 23 σ τ) ⟨h6, ?_⟩
    show xv l Ω (d + 3) 0 0 124 122 [some (.ref 34), some (.int x1), some (.int x2), none, none, none] [] (hM 23 σ τ) r
    exact xp_ok htr 2 (d + 3) 0 0 [] 124 122 [some (.ref 34), some (.int x1), some (.int x2), none, none, none] [] (hM 23 σ τ) ⟨trivial, (Eq.symm H)⟩
theorem g124_108_ok_23 {l : Launch} {Ω : xo_O} (htr : xH l) (d : Nat) (τ : Nat → Nat → Int64) (x2 : Int32) (k1 : Int32) (k2 : Int32) (σ : xS) (r : xv_R) (H : xo (xB false 23 τ r) (g124_108 23 x2 k1 k2 σ)) : xv l Ω (d + 3) 0 0 124 108 [none, none, some (.int x2), none, none, none] [.int k2, .int k1, .ref 50] (hM 23 σ τ) r := by
  unfold g124_108 at H
  cases g17 : xn k1 7 with
  | false => rw [g17, cond_false] at H; exact False.elim H
  | true =>
    rw [g17, cond_true] at H
    exact xp_ok htr 5 (d + 3) 0 0 [] 124 108 [none, none, some (.int x2), none, none, none] [.int k2, .int k1, .ref 50] (hM 23 σ τ) ⟨(xn_in g17), trivial, (Eq.symm H)⟩
theorem g124_53_ok_23 {l : Launch} {Ω : xo_O} (htr : xH l) (d : Nat) (τ : Nat → Nat → Int64) (x1 : Int32) (x2 : Int32) (x3 : Int32) (σ : xS) (r : xv_R) (H : xo (xB false 23 τ r) (g124_53 23 x1 x2 x3 σ)) : xv l Ω (d + 3) 0 0 124 53 [some (.ref 34), some (.int x1), some (.int x2), some (.int x3), none, none] [] (hM 23 σ τ) r := by
  unfold g124_53 at H
  by_cases h5 : x2 < 2
  · rw [if_pos h5] at H
    refine xp_ok htr 3 (d + 3) 0 0 [eB true] 124 53 [some (.ref 34), some (.int x1), some (.int x2), some (.int x3), none, none] [] (hM 23 σ τ) ⟨h5, ?_⟩
    show xv l Ω (d + 3) 0 0 124 113 [some (.ref 34), some (.int x1), some (.int x2), some (.int x3), none, none] [] (hM 23 σ τ) r
    exact xv_sub (L' := [some (.ref 34), some (.int x1), some (.int x2), none, none, none]) ⟨rfl, ⟨rfl, ⟨rfl, trivial⟩⟩⟩ (g124_113_ok_23 htr d  τ x1 x2 σ r H)
  · rw [if_neg h5] at H
    refine xp_ok htr 3 (d + 3) 0 0 [eB false] 124 53 [some (.ref 34), some (.int x1), some (.int x2), some (.int x3), none, none] [] (hM 23 σ τ) ⟨h5, ?_⟩
    show xv l Ω (d + 3) 0 0 124 58 [some (.ref 34), some (.int x1), some (.int x2), some (.int x3), none, none] [] (hM 23 σ τ) r
    cases g11 : xn (x2 - 2) 7 with
    | false => rw [g11, cond_false] at H; exact False.elim H
    | true =>
      rw [g11, cond_true] at H
      refine xp_ok htr 8 (d + 3) 0 0 [] 124 58 [some (.ref 34), some (.int x1), some (.int x2), some (.int x3), none, none] [] (hM 23 σ τ) ⟨(xn_in g11), ?_⟩
      show xv l Ω (d + 3) 0 0 124 69 [some (.ref 34), some (.int x1), some (.int x2), some (.int x3), some (.int (σ 50 (Int32.toNatClampNeg (x2 - 2)))), none] [.ref 34] (hM 23 σ τ) r
      cases g12 : xn (x2 - 1) 7 with
      | false => rw [g12, cond_false] at H; exact False.elim H
      | true =>
        rw [g12, cond_true] at H
        refine xp_ok htr 8 (d + 3) 0 0 [] 124 69 [some (.ref 34), some (.int x1), some (.int x2), some (.int x3), some (.int (σ 50 (Int32.toNatClampNeg (x2 - 2)))), none] [.ref 34] (hM 23 σ τ) ⟨(xn_in g12), ?_⟩
        show xv l Ω (d + 3) 0 0 124 82 [some (.ref 34), some (.int x1), some (.int x2), some (.int x3), some (.int (σ 50 (Int32.toNatClampNeg (x2 - 2)))), some (.int (σ 50 (Int32.toNatClampNeg (x2 - 1))))] [.ref 50] (hM 23 σ τ) r
        by_cases h13 : x3 = 38
        · rw [if_pos h13] at H
          refine xp_ok htr 6 (d + 3) 0 0 [eB false] 124 82 [some (.ref 34), some (.int x1), some (.int x2), some (.int x3), some (.int (σ 50 (Int32.toNatClampNeg (x2 - 2)))), some (.int (σ 50 (Int32.toNatClampNeg (x2 - 1))))] [.ref 50] (hM 23 σ τ) ⟨h13, ?_⟩
          show xv l Ω (d + 3) 0 0 124 91 [some (.ref 34), some (.int x1), some (.int x2), some (.int x3), some (.int (σ 50 (Int32.toNatClampNeg (x2 - 2)))), some (.int (σ 50 (Int32.toNatClampNeg (x2 - 1))))] [.int (x2 - 2), .ref 50] (hM 23 σ τ) r
          cases q16 : g119 (σ 50 (Int32.toNatClampNeg (x2 - 2))) (σ 50 (Int32.toNatClampNeg (x2 - 1))) σ with
          | none => rw [q16] at H; exact False.elim H
          | some q160 =>
            obtain ⟨v14 | v14, s15⟩ := q160
            · rw [q16] at H; dsimp only at H
              have hc := g119_run (Ω := Ω) htr (d + 2) 23 τ (σ 50 (Int32.toNatClampNeg (x2 - 2))) (σ 50 (Int32.toNatClampNeg (x2 - 1))) σ q16
              refine xp_ok htr 3 (d + 3) 0 0 [eC (some (.int v14)) (hM 23 s15 τ)] 124 91 [some (.ref 34), some (.int x1), some (.int x2), some (.int x3), some (.int (σ 50 (Int32.toNatClampNeg (x2 - 2)))), some (.int (σ 50 (Int32.toNatClampNeg (x2 - 1))))] [.int (x2 - 2), .ref 50] (hM 23 σ τ) ⟨hc, ?_⟩
              show xv l Ω (d + 3) 0 0 124 98 [some (.ref 34), some (.int x1), some (.int x2), some (.int x3), some (.int (σ 50 (Int32.toNatClampNeg (x2 - 2)))), some (.int (σ 50 (Int32.toNatClampNeg (x2 - 1))))] [.int v14, .int (x2 - 2), .ref 50] (hM 23 s15 τ) r
              refine xp_ok htr 1 (d + 3) 0 0 [] 124 98 [some (.ref 34), some (.int x1), some (.int x2), some (.int x3), some (.int (σ 50 (Int32.toNatClampNeg (x2 - 2)))), some (.int (σ 50 (Int32.toNatClampNeg (x2 - 1))))] [.int v14, .int (x2 - 2), .ref 50] (hM 23 s15 τ) ?_
              show xv l Ω (d + 3) 0 0 124 108 [some (.ref 34), some (.int x1), some (.int x2), some (.int x3), some (.int (σ 50 (Int32.toNatClampNeg (x2 - 2)))), some (.int (σ 50 (Int32.toNatClampNeg (x2 - 1))))] [.int v14, .int (x2 - 2), .ref 50] (hM 23 s15 τ) r
              exact xv_sub (L' := [none, none, some (.int x2), none, none, none]) ⟨rfl, trivial⟩ (g124_108_ok_23 htr d  τ x2 (x2 - 2) v14 s15 r H)
            · rw [q16] at H; exact False.elim H
        · rw [if_neg h13] at H
          refine xp_ok htr 6 (d + 3) 0 0 [eB true] 124 82 [some (.ref 34), some (.int x1), some (.int x2), some (.int x3), some (.int (σ 50 (Int32.toNatClampNeg (x2 - 2)))), some (.int (σ 50 (Int32.toNatClampNeg (x2 - 1))))] [.ref 50] (hM 23 σ τ) ⟨h13, ?_⟩
          show xv l Ω (d + 3) 0 0 124 101 [some (.ref 34), some (.int x1), some (.int x2), some (.int x3), some (.int (σ 50 (Int32.toNatClampNeg (x2 - 2)))), some (.int (σ 50 (Int32.toNatClampNeg (x2 - 1))))] [.int (x2 - 2), .ref 50] (hM 23 σ τ) r
          cases q20 : g17 (σ 50 (Int32.toNatClampNeg (x2 - 2))) (σ 50 (Int32.toNatClampNeg (x2 - 1))) σ with
          | none => rw [q20] at H; exact False.elim H
          | some q200 =>
            obtain ⟨v18 | v18, s19⟩ := q200
            · rw [q20] at H; dsimp only at H
              have hc := g17_run (Ω := Ω) htr (d + 2) 23 τ (σ 50 (Int32.toNatClampNeg (x2 - 2))) (σ 50 (Int32.toNatClampNeg (x2 - 1))) σ q20
              refine xp_ok htr 3 (d + 3) 0 0 [eC (some (.int v18)) (hM 23 s19 τ)] 124 101 [some (.ref 34), some (.int x1), some (.int x2), some (.int x3), some (.int (σ 50 (Int32.toNatClampNeg (x2 - 2)))), some (.int (σ 50 (Int32.toNatClampNeg (x2 - 1))))] [.int (x2 - 2), .ref 50] (hM 23 σ τ) ⟨hc, ?_⟩
              show xv l Ω (d + 3) 0 0 124 108 [some (.ref 34), some (.int x1), some (.int x2), some (.int x3), some (.int (σ 50 (Int32.toNatClampNeg (x2 - 2)))), some (.int (σ 50 (Int32.toNatClampNeg (x2 - 1))))] [.int v18, .int (x2 - 2), .ref 50] (hM 23 s19 τ) r
              exact xv_sub (L' := [none, none, some (.int x2), none, none, none]) ⟨rfl, trivial⟩ (g124_108_ok_23 htr d  τ x2 (x2 - 2) v18 s19 r H)
            · rw [q20] at H; exact False.elim H
theorem g124_41_ok_23 {l : Launch} {Ω : xo_O} (htr : xH l) (d : Nat) (τ : Nat → Nat → Int64) (x1 : Int32) (x2 : Int32) (x3 : Int32) (σ : xS) (r : xv_R) (H : xo (xB false 23 τ r) (g124_41 23 x1 x2 x3 σ)) : xv l Ω (d + 3) 0 0 124 41 [some (.ref 34), some (.int x1), some (.int x2), some (.int x3), none, none] [] (hM 23 σ τ) r := by
  unfold g124_41 at H
  by_cases h4 : x3 = 38
  · rw [if_pos h4] at H
    refine xp_ok htr 3 (d + 3) 0 0 [eB true] 124 41 [some (.ref 34), some (.int x1), some (.int x2), some (.int x3), none, none] [] (hM 23 σ τ) ⟨h4, ?_⟩
    show xv l Ω (d + 3) 0 0 124 53 [some (.ref 34), some (.int x1), some (.int x2), some (.int x3), none, none] [] (hM 23 σ τ) r
    exact xv_sub (L' := [some (.ref 34), some (.int x1), some (.int x2), some (.int x3), none, none]) ⟨rfl, ⟨rfl, ⟨rfl, ⟨rfl, trivial⟩⟩⟩⟩ (g124_53_ok_23 htr d  τ x1 x2 x3 σ r H)
  · rw [if_neg h4] at H
    refine xp_ok htr 3 (d + 3) 0 0 [eB false] 124 41 [some (.ref 34), some (.int x1), some (.int x2), some (.int x3), none, none] [] (hM 23 σ τ) ⟨h4, ?_⟩
    show xv l Ω (d + 3) 0 0 124 47 [some (.ref 34), some (.int x1), some (.int x2), some (.int x3), none, none] [] (hM 23 σ τ) r
    by_cases h21 : x3 = 124
    · rw [if_pos h21] at H
      refine xp_ok htr 3 (d + 3) 0 0 [eB false] 124 47 [some (.ref 34), some (.int x1), some (.int x2), some (.int x3), none, none] [] (hM 23 σ τ) ⟨h21, ?_⟩
      show xv l Ω (d + 3) 0 0 124 53 [some (.ref 34), some (.int x1), some (.int x2), some (.int x3), none, none] [] (hM 23 σ τ) r
      exact xv_sub (L' := [some (.ref 34), some (.int x1), some (.int x2), some (.int x3), none, none]) ⟨rfl, ⟨rfl, ⟨rfl, ⟨rfl, trivial⟩⟩⟩⟩ (g124_53_ok_23 htr d  τ x1 x2 x3 σ r H)
    · rw [if_neg h21] at H
      refine xp_ok htr 3 (d + 3) 0 0 [eB true] 124 47 [some (.ref 34), some (.int x1), some (.int x2), some (.int x3), none, none] [] (hM 23 σ τ) ⟨h21, ?_⟩
      show xv l Ω (d + 3) 0 0 124 113 [some (.ref 34), some (.int x1), some (.int x2), some (.int x3), none, none] [] (hM 23 σ τ) r
      exact xv_sub (L' := [some (.ref 34), some (.int x1), some (.int x2), none, none, none]) ⟨rfl, ⟨rfl, ⟨rfl, trivial⟩⟩⟩ (g124_113_ok_23 htr d  τ x1 x2 σ r H)
theorem g124_run_23 {l : Launch} {Ω : xo_O} (htr : xH l) (d : Nat) (τ : Nat → Nat → Int64) (a1 : Int32) (a2 : Int32) (σ : xS) {q : xQ} (hq : g124 23 a1 a2 σ = some q) : xv l Ω (d + 3) 0 0 124 0 (xs_loc (xm_l 124) [.ref 34, .int a1, .int a2]) [] (hM 23 σ τ) (xq_R false 23 τ q) := by
  have H : xo (xB false 23 τ (xq_R false 23 τ q)) (g124 23 a1 a2 σ) := by rw [hq]; exact rfl
  generalize xq_R false 23 τ q = r at H ⊢
  show xv l Ω (d + 3) 0 0 124 0 [some (.ref 34), some (.int a1), some (.int a2), none, none, none] [] (hM 23 σ τ) r
  unfold g124 at H
  cases g1 : xn a1 300 with
  | false => rw [g1, cond_false] at H; exact False.elim H
  | true =>
    rw [g1, cond_true] at H
    refine xp_ok htr 8 (d + 3) 0 0 [] 124 0 [some (.ref 34), some (.int a1), some (.int a2), none, none, none] [] (hM 23 σ τ) ⟨(xn_in g1), ?_⟩
    show xv l Ω (d + 3) 0 0 124 13 [some (.ref 34), some (.int a1), some (.int a2), some (.int (σ ((59 - 23) + 8) (Int32.toNatClampNeg a1))), none, none] [.int 33, .int (σ ((59 - 23) + 8) (Int32.toNatClampNeg a1))] (hM 23 σ τ) r
    by_cases h2 : (σ ((59 - 23) + 8) (Int32.toNatClampNeg a1)) = 33
    · rw [if_pos h2] at H
      refine xp_ok htr 1 (d + 3) 0 0 [eB false] 124 13 [some (.ref 34), some (.int a1), some (.int a2), some (.int (σ ((59 - 23) + 8) (Int32.toNatClampNeg a1))), none, none] [.int 33, .int (σ ((59 - 23) + 8) (Int32.toNatClampNeg a1))] (hM 23 σ τ) ⟨h2, ?_⟩
      show xv l Ω (d + 3) 0 0 124 16 [some (.ref 34), some (.int a1), some (.int a2), some (.int (σ ((59 - 23) + 8) (Int32.toNatClampNeg a1))), none, none] [] (hM 23 σ τ) r
      by_cases h3 : a2 < 1
      · rw [if_pos h3] at H
        refine xp_ok htr 3 (d + 3) 0 0 [eB true] 124 16 [some (.ref 34), some (.int a1), some (.int a2), some (.int (σ ((59 - 23) + 8) (Int32.toNatClampNeg a1))), none, none] [] (hM 23 σ τ) ⟨h3, ?_⟩
        show xv l Ω (d + 3) 0 0 124 41 [some (.ref 34), some (.int a1), some (.int a2), some (.int (σ ((59 - 23) + 8) (Int32.toNatClampNeg a1))), none, none] [] (hM 23 σ τ) r
        exact xv_sub (L' := [some (.ref 34), some (.int a1), some (.int a2), some (.int (σ ((59 - 23) + 8) (Int32.toNatClampNeg a1))), none, none]) ⟨rfl, ⟨rfl, ⟨rfl, ⟨rfl, trivial⟩⟩⟩⟩ (g124_41_ok_23 htr d  τ a1 a2 (σ ((59 - 23) + 8) (Int32.toNatClampNeg a1)) σ r H)
      · rw [if_neg h3] at H
        refine xp_ok htr 3 (d + 3) 0 0 [eB false] 124 16 [some (.ref 34), some (.int a1), some (.int a2), some (.int (σ ((59 - 23) + 8) (Int32.toNatClampNeg a1))), none, none] [] (hM 23 σ τ) ⟨h3, ?_⟩
        show xv l Ω (d + 3) 0 0 124 21 [some (.ref 34), some (.int a1), some (.int a2), some (.int (σ ((59 - 23) + 8) (Int32.toNatClampNeg a1))), none, none] [] (hM 23 σ τ) r
        refine xp_ok htr 8 (d + 3) 0 0 [] 124 21 [some (.ref 34), some (.int a1), some (.int a2), some (.int (σ ((59 - 23) + 8) (Int32.toNatClampNeg a1))), none, none] [] (hM 23 σ τ) ?_
        show xv l Ω (d + 3) 0 0 124 33 [some (.ref 34), some (.int a1), some (.int a2), some (.int (σ ((59 - 23) + 8) (Int32.toNatClampNeg a1))), none, none] [.ref 50, .int 2, .int (a2 - 1), .ref 50] (hM 23 σ τ) r
        cases g22 : xn (a2 - 1) 7 with
        | false => rw [g22, cond_false] at H; exact False.elim H
        | true =>
          rw [g22, cond_true] at H
          exact xp_ok htr 8 (d + 3) 0 0 [] 124 33 [some (.ref 34), some (.int a1), some (.int a2), some (.int (σ ((59 - 23) + 8) (Int32.toNatClampNeg a1))), none, none] [.ref 50, .int 2, .int (a2 - 1), .ref 50] (hM 23 σ τ) ⟨(xn_in g22), (xn_in g22), trivial, (Eq.symm H)⟩
    · rw [if_neg h2] at H
      refine xp_ok htr 1 (d + 3) 0 0 [eB true] 124 13 [some (.ref 34), some (.int a1), some (.int a2), some (.int (σ ((59 - 23) + 8) (Int32.toNatClampNeg a1))), none, none] [.int 33, .int (σ ((59 - 23) + 8) (Int32.toNatClampNeg a1))] (hM 23 σ τ) ⟨h2, ?_⟩
      show xv l Ω (d + 3) 0 0 124 41 [some (.ref 34), some (.int a1), some (.int a2), some (.int (σ ((59 - 23) + 8) (Int32.toNatClampNeg a1))), none, none] [] (hM 23 σ τ) r
      exact xv_sub (L' := [some (.ref 34), some (.int a1), some (.int a2), some (.int (σ ((59 - 23) + 8) (Int32.toNatClampNeg a1))), none, none]) ⟨rfl, ⟨rfl, ⟨rfl, ⟨rfl, trivial⟩⟩⟩⟩ (g124_41_ok_23 htr d  τ a1 a2 (σ ((59 - 23) + 8) (Int32.toNatClampNeg a1)) σ r H)
theorem g124_113_ok_36 {l : Launch} {Ω : xo_O} (htr : xH l) (d : Nat) (τ : Nat → Nat → Int64) (x1 : Int32) (x2 : Int32) (σ : xS) (r : xv_R) (H : xo (xB false 36 τ r) (g124_113 36 x1 x2 σ)) : xv l Ω (d + 3) 0 0 124 113 [some (.ref 34), some (.int x1), some (.int x2), none, none, none] [] (hM 36 σ τ) r := by
  unfold g124_113 at H
  by_cases h6 : x2 < 7
  · rw [if_pos h6] at H
    refine xp_ok htr 5 (d + 3) 0 0 [eB true] 124 113 [some (.ref 34), some (.int x1), some (.int x2), none, none, none] [] (hM 36 σ τ) ⟨h6, ?_⟩
    show xv l Ω (d + 3) 0 0 124 124 [some (.ref 34), some (.int x1), some (.int x2), none, none, none] [] (hM 36 σ τ) r
    cases q9 : g120 36 x1 σ with
    | none => rw [q9] at H; exact False.elim H
    | some q90 =>
      obtain ⟨v7 | v7, s8⟩ := q90
      · rw [q9] at H; dsimp only at H
        have hc := g120_run_36 (Ω := Ω) htr d  τ x1 σ q9
        refine xp_ok htr 6 (d + 3) 0 0 [eC (some (.int v7)) (hM 36 s8 τ)] 124 124 [some (.ref 34), some (.int x1), some (.int x2), none, none, none] [] (hM 36 σ τ) ⟨hc, ?_⟩
        show xv l Ω (d + 3) 0 0 124 134 [some (.ref 34), some (.int x1), some (.int x2), none, none, none] [.int v7, .int x2, .ref 50] (hM 36 s8 τ) r
        cases g10 : xn x2 7 with
        | false => rw [g10, cond_false] at H; exact False.elim H
        | true =>
          rw [g10, cond_true] at H
          exact xp_ok htr 5 (d + 3) 0 0 [] 124 134 [some (.ref 34), some (.int x1), some (.int x2), none, none, none] [.int v7, .int x2, .ref 50] (hM 36 s8 τ) ⟨(xn_in g10), trivial, (Eq.symm H)⟩
      · rw [q9] at H; exact False.elim H
  · rw [if_neg h6] at H
    refine xp_ok htr 5 (d + 3) 0 0 [eB false] 124 113 [some (.ref 34), some (.int x1), some (.int x2), none, none, none] [] (hM 36 σ τ) ⟨h6, ?_⟩
    show xv l Ω (d + 3) 0 0 124 122 [some (.ref 34), some (.int x1), some (.int x2), none, none, none] [] (hM 36 σ τ) r
    exact xp_ok htr 2 (d + 3) 0 0 [] 124 122 [some (.ref 34), some (.int x1), some (.int x2), none, none, none] [] (hM 36 σ τ) ⟨trivial, (Eq.symm H)⟩
theorem g124_108_ok_36 {l : Launch} {Ω : xo_O} (htr : xH l) (d : Nat) (τ : Nat → Nat → Int64) (x2 : Int32) (k1 : Int32) (k2 : Int32) (σ : xS) (r : xv_R) (H : xo (xB false 36 τ r) (g124_108 36 x2 k1 k2 σ)) : xv l Ω (d + 3) 0 0 124 108 [none, none, some (.int x2), none, none, none] [.int k2, .int k1, .ref 50] (hM 36 σ τ) r := by
  unfold g124_108 at H
  cases g17 : xn k1 7 with
  | false => rw [g17, cond_false] at H; exact False.elim H
  | true =>
    rw [g17, cond_true] at H
    exact xp_ok htr 5 (d + 3) 0 0 [] 124 108 [none, none, some (.int x2), none, none, none] [.int k2, .int k1, .ref 50] (hM 36 σ τ) ⟨(xn_in g17), trivial, (Eq.symm H)⟩
theorem g124_53_ok_36 {l : Launch} {Ω : xo_O} (htr : xH l) (d : Nat) (τ : Nat → Nat → Int64) (x1 : Int32) (x2 : Int32) (x3 : Int32) (σ : xS) (r : xv_R) (H : xo (xB false 36 τ r) (g124_53 36 x1 x2 x3 σ)) : xv l Ω (d + 3) 0 0 124 53 [some (.ref 34), some (.int x1), some (.int x2), some (.int x3), none, none] [] (hM 36 σ τ) r := by
  unfold g124_53 at H
  by_cases h5 : x2 < 2
  · rw [if_pos h5] at H
    refine xp_ok htr 3 (d + 3) 0 0 [eB true] 124 53 [some (.ref 34), some (.int x1), some (.int x2), some (.int x3), none, none] [] (hM 36 σ τ) ⟨h5, ?_⟩
    show xv l Ω (d + 3) 0 0 124 113 [some (.ref 34), some (.int x1), some (.int x2), some (.int x3), none, none] [] (hM 36 σ τ) r
    exact xv_sub (L' := [some (.ref 34), some (.int x1), some (.int x2), none, none, none]) ⟨rfl, ⟨rfl, ⟨rfl, trivial⟩⟩⟩ (g124_113_ok_36 htr d  τ x1 x2 σ r H)
  · rw [if_neg h5] at H
    refine xp_ok htr 3 (d + 3) 0 0 [eB false] 124 53 [some (.ref 34), some (.int x1), some (.int x2), some (.int x3), none, none] [] (hM 36 σ τ) ⟨h5, ?_⟩
    show xv l Ω (d + 3) 0 0 124 58 [some (.ref 34), some (.int x1), some (.int x2), some (.int x3), none, none] [] (hM 36 σ τ) r
    cases g11 : xn (x2 - 2) 7 with
    | false => rw [g11, cond_false] at H; exact False.elim H
    | true =>
      rw [g11, cond_true] at H
      refine xp_ok htr 8 (d + 3) 0 0 [] 124 58 [some (.ref 34), some (.int x1), some (.int x2), some (.int x3), none, none] [] (hM 36 σ τ) ⟨(xn_in g11), ?_⟩
      show xv l Ω (d + 3) 0 0 124 69 [some (.ref 34), some (.int x1), some (.int x2), some (.int x3), some (.int (σ 50 (Int32.toNatClampNeg (x2 - 2)))), none] [.ref 34] (hM 36 σ τ) r
      cases g12 : xn (x2 - 1) 7 with
      | false => rw [g12, cond_false] at H; exact False.elim H
      | true =>
        rw [g12, cond_true] at H
        refine xp_ok htr 8 (d + 3) 0 0 [] 124 69 [some (.ref 34), some (.int x1), some (.int x2), some (.int x3), some (.int (σ 50 (Int32.toNatClampNeg (x2 - 2)))), none] [.ref 34] (hM 36 σ τ) ⟨(xn_in g12), ?_⟩
        show xv l Ω (d + 3) 0 0 124 82 [some (.ref 34), some (.int x1), some (.int x2), some (.int x3), some (.int (σ 50 (Int32.toNatClampNeg (x2 - 2)))), some (.int (σ 50 (Int32.toNatClampNeg (x2 - 1))))] [.ref 50] (hM 36 σ τ) r
        by_cases h13 : x3 = 38
        · rw [if_pos h13] at H
          refine xp_ok htr 6 (d + 3) 0 0 [eB false] 124 82 [some (.ref 34), some (.int x1), some (.int x2), some (.int x3), some (.int (σ 50 (Int32.toNatClampNeg (x2 - 2)))), some (.int (σ 50 (Int32.toNatClampNeg (x2 - 1))))] [.ref 50] (hM 36 σ τ) ⟨h13, ?_⟩
          show xv l Ω (d + 3) 0 0 124 91 [some (.ref 34), some (.int x1), some (.int x2), some (.int x3), some (.int (σ 50 (Int32.toNatClampNeg (x2 - 2)))), some (.int (σ 50 (Int32.toNatClampNeg (x2 - 1))))] [.int (x2 - 2), .ref 50] (hM 36 σ τ) r
          cases q16 : g119 (σ 50 (Int32.toNatClampNeg (x2 - 2))) (σ 50 (Int32.toNatClampNeg (x2 - 1))) σ with
          | none => rw [q16] at H; exact False.elim H
          | some q160 =>
            obtain ⟨v14 | v14, s15⟩ := q160
            · rw [q16] at H; dsimp only at H
              have hc := g119_run (Ω := Ω) htr (d + 2) 36 τ (σ 50 (Int32.toNatClampNeg (x2 - 2))) (σ 50 (Int32.toNatClampNeg (x2 - 1))) σ q16
              refine xp_ok htr 3 (d + 3) 0 0 [eC (some (.int v14)) (hM 36 s15 τ)] 124 91 [some (.ref 34), some (.int x1), some (.int x2), some (.int x3), some (.int (σ 50 (Int32.toNatClampNeg (x2 - 2)))), some (.int (σ 50 (Int32.toNatClampNeg (x2 - 1))))] [.int (x2 - 2), .ref 50] (hM 36 σ τ) ⟨hc, ?_⟩
              show xv l Ω (d + 3) 0 0 124 98 [some (.ref 34), some (.int x1), some (.int x2), some (.int x3), some (.int (σ 50 (Int32.toNatClampNeg (x2 - 2)))), some (.int (σ 50 (Int32.toNatClampNeg (x2 - 1))))] [.int v14, .int (x2 - 2), .ref 50] (hM 36 s15 τ) r
              refine xp_ok htr 1 (d + 3) 0 0 [] 124 98 [some (.ref 34), some (.int x1), some (.int x2), some (.int x3), some (.int (σ 50 (Int32.toNatClampNeg (x2 - 2)))), some (.int (σ 50 (Int32.toNatClampNeg (x2 - 1))))] [.int v14, .int (x2 - 2), .ref 50] (hM 36 s15 τ) ?_
              show xv l Ω (d + 3) 0 0 124 108 [some (.ref 34), some (.int x1), some (.int x2), some (.int x3), some (.int (σ 50 (Int32.toNatClampNeg (x2 - 2)))), some (.int (σ 50 (Int32.toNatClampNeg (x2 - 1))))] [.int v14, .int (x2 - 2), .ref 50] (hM 36 s15 τ) r
              exact xv_sub (L' := [none, none, some (.int x2), none, none, none]) ⟨rfl, trivial⟩ (g124_108_ok_36 htr d  τ x2 (x2 - 2) v14 s15 r H)
            · rw [q16] at H; exact False.elim H
        · rw [if_neg h13] at H
          refine xp_ok htr 6 (d + 3) 0 0 [eB true] 124 82 [some (.ref 34), some (.int x1), some (.int x2), some (.int x3), some (.int (σ 50 (Int32.toNatClampNeg (x2 - 2)))), some (.int (σ 50 (Int32.toNatClampNeg (x2 - 1))))] [.ref 50] (hM 36 σ τ) ⟨h13, ?_⟩
          show xv l Ω (d + 3) 0 0 124 101 [some (.ref 34), some (.int x1), some (.int x2), some (.int x3), some (.int (σ 50 (Int32.toNatClampNeg (x2 - 2)))), some (.int (σ 50 (Int32.toNatClampNeg (x2 - 1))))] [.int (x2 - 2), .ref 50] (hM 36 σ τ) r
          cases q20 : g17 (σ 50 (Int32.toNatClampNeg (x2 - 2))) (σ 50 (Int32.toNatClampNeg (x2 - 1))) σ with
          | none => rw [q20] at H; exact False.elim H
          | some q200 =>
            obtain ⟨v18 | v18, s19⟩ := q200
            · rw [q20] at H; dsimp only at H
              have hc := g17_run (Ω := Ω) htr (d + 2) 36 τ (σ 50 (Int32.toNatClampNeg (x2 - 2))) (σ 50 (Int32.toNatClampNeg (x2 - 1))) σ q20
              refine xp_ok htr 3 (d + 3) 0 0 [eC (some (.int v18)) (hM 36 s19 τ)] 124 101 [some (.ref 34), some (.int x1), some (.int x2), some (.int x3), some (.int (σ 50 (Int32.toNatClampNeg (x2 - 2)))), some (.int (σ 50 (Int32.toNatClampNeg (x2 - 1))))] [.int (x2 - 2), .ref 50] (hM 36 σ τ) ⟨hc, ?_⟩
              show xv l Ω (d + 3) 0 0 124 108 [some (.ref 34), some (.int x1), some (.int x2), some (.int x3), some (.int (σ 50 (Int32.toNatClampNeg (x2 - 2)))), some (.int (σ 50 (Int32.toNatClampNeg (x2 - 1))))] [.int v18, .int (x2 - 2), .ref 50] (hM 36 s19 τ) r
              exact xv_sub (L' := [none, none, some (.int x2), none, none, none]) ⟨rfl, trivial⟩ (g124_108_ok_36 htr d  τ x2 (x2 - 2) v18 s19 r H)
            · rw [q20] at H; exact False.elim H
theorem g124_41_ok_36 {l : Launch} {Ω : xo_O} (htr : xH l) (d : Nat) (τ : Nat → Nat → Int64) (x1 : Int32) (x2 : Int32) (x3 : Int32) (σ : xS) (r : xv_R) (H : xo (xB false 36 τ r) (g124_41 36 x1 x2 x3 σ)) : xv l Ω (d + 3) 0 0 124 41 [some (.ref 34), some (.int x1), some (.int x2), some (.int x3), none, none] [] (hM 36 σ τ) r := by
  unfold g124_41 at H
  by_cases h4 : x3 = 38
  · rw [if_pos h4] at H
    refine xp_ok htr 3 (d + 3) 0 0 [eB true] 124 41 [some (.ref 34), some (.int x1), some (.int x2), some (.int x3), none, none] [] (hM 36 σ τ) ⟨h4, ?_⟩
    show xv l Ω (d + 3) 0 0 124 53 [some (.ref 34), some (.int x1), some (.int x2), some (.int x3), none, none] [] (hM 36 σ τ) r
    exact xv_sub (L' := [some (.ref 34), some (.int x1), some (.int x2), some (.int x3), none, none]) ⟨rfl, ⟨rfl, ⟨rfl, ⟨rfl, trivial⟩⟩⟩⟩ (g124_53_ok_36 htr d  τ x1 x2 x3 σ r H)
  · rw [if_neg h4] at H
    refine xp_ok htr 3 (d + 3) 0 0 [eB false] 124 41 [some (.ref 34), some (.int x1), some (.int x2), some (.int x3), none, none] [] (hM 36 σ τ) ⟨h4, ?_⟩
    show xv l Ω (d + 3) 0 0 124 47 [some (.ref 34), some (.int x1), some (.int x2), some (.int x3), none, none] [] (hM 36 σ τ) r
    by_cases h21 : x3 = 124
    · rw [if_pos h21] at H
      refine xp_ok htr 3 (d + 3) 0 0 [eB false] 124 47 [some (.ref 34), some (.int x1), some (.int x2), some (.int x3), none, none] [] (hM 36 σ τ) ⟨h21, ?_⟩
      show xv l Ω (d + 3) 0 0 124 53 [some (.ref 34), some (.int x1), some (.int x2), some (.int x3), none, none] [] (hM 36 σ τ) r
      exact xv_sub (L' := [some (.ref 34), some (.int x1), some (.int x2), some (.int x3), none, none]) ⟨rfl, ⟨rfl, ⟨rfl, ⟨rfl, trivial⟩⟩⟩⟩ (g124_53_ok_36 htr d  τ x1 x2 x3 σ r H)
    · rw [if_neg h21] at H
      refine xp_ok htr 3 (d + 3) 0 0 [eB true] 124 47 [some (.ref 34), some (.int x1), some (.int x2), some (.int x3), none, none] [] (hM 36 σ τ) ⟨h21, ?_⟩
      show xv l Ω (d + 3) 0 0 124 113 [some (.ref 34), some (.int x1), some (.int x2), some (.int x3), none, none] [] (hM 36 σ τ) r
      exact xv_sub (L' := [some (.ref 34), some (.int x1), some (.int x2), none, none, none]) ⟨rfl, ⟨rfl, ⟨rfl, trivial⟩⟩⟩ (g124_113_ok_36 htr d  τ x1 x2 σ r H)
theorem g124_run_36 {l : Launch} {Ω : xo_O} (htr : xH l) (d : Nat) (τ : Nat → Nat → Int64) (a1 : Int32) (a2 : Int32) (σ : xS) {q : xQ} (hq : g124 36 a1 a2 σ = some q) : xv l Ω (d + 3) 0 0 124 0 (xs_loc (xm_l 124) [.ref 34, .int a1, .int a2]) [] (hM 36 σ τ) (xq_R false 36 τ q) := by
  have H : xo (xB false 36 τ (xq_R false 36 τ q)) (g124 36 a1 a2 σ) := by rw [hq]; exact rfl
  generalize xq_R false 36 τ q = r at H ⊢
  show xv l Ω (d + 3) 0 0 124 0 [some (.ref 34), some (.int a1), some (.int a2), none, none, none] [] (hM 36 σ τ) r
  unfold g124 at H
  cases g1 : xn a1 300 with
  | false => rw [g1, cond_false] at H; exact False.elim H
  | true =>
    rw [g1, cond_true] at H
    refine xp_ok htr 8 (d + 3) 0 0 [] 124 0 [some (.ref 34), some (.int a1), some (.int a2), none, none, none] [] (hM 36 σ τ) ⟨(xn_in g1), ?_⟩
    show xv l Ω (d + 3) 0 0 124 13 [some (.ref 34), some (.int a1), some (.int a2), some (.int (σ ((59 - 36) + 8) (Int32.toNatClampNeg a1))), none, none] [.int 33, .int (σ ((59 - 36) + 8) (Int32.toNatClampNeg a1))] (hM 36 σ τ) r
    by_cases h2 : (σ ((59 - 36) + 8) (Int32.toNatClampNeg a1)) = 33
    · rw [if_pos h2] at H
      refine xp_ok htr 1 (d + 3) 0 0 [eB false] 124 13 [some (.ref 34), some (.int a1), some (.int a2), some (.int (σ ((59 - 36) + 8) (Int32.toNatClampNeg a1))), none, none] [.int 33, .int (σ ((59 - 36) + 8) (Int32.toNatClampNeg a1))] (hM 36 σ τ) ⟨h2, ?_⟩
      show xv l Ω (d + 3) 0 0 124 16 [some (.ref 34), some (.int a1), some (.int a2), some (.int (σ ((59 - 36) + 8) (Int32.toNatClampNeg a1))), none, none] [] (hM 36 σ τ) r
      by_cases h3 : a2 < 1
      · rw [if_pos h3] at H
        refine xp_ok htr 3 (d + 3) 0 0 [eB true] 124 16 [some (.ref 34), some (.int a1), some (.int a2), some (.int (σ ((59 - 36) + 8) (Int32.toNatClampNeg a1))), none, none] [] (hM 36 σ τ) ⟨h3, ?_⟩
        show xv l Ω (d + 3) 0 0 124 41 [some (.ref 34), some (.int a1), some (.int a2), some (.int (σ ((59 - 36) + 8) (Int32.toNatClampNeg a1))), none, none] [] (hM 36 σ τ) r
        exact xv_sub (L' := [some (.ref 34), some (.int a1), some (.int a2), some (.int (σ ((59 - 36) + 8) (Int32.toNatClampNeg a1))), none, none]) ⟨rfl, ⟨rfl, ⟨rfl, ⟨rfl, trivial⟩⟩⟩⟩ (g124_41_ok_36 htr d  τ a1 a2 (σ ((59 - 36) + 8) (Int32.toNatClampNeg a1)) σ r H)
      · rw [if_neg h3] at H
        refine xp_ok htr 3 (d + 3) 0 0 [eB false] 124 16 [some (.ref 34), some (.int a1), some (.int a2), some (.int (σ ((59 - 36) + 8) (Int32.toNatClampNeg a1))), none, none] [] (hM 36 σ τ) ⟨h3, ?_⟩
        show xv l Ω (d + 3) 0 0 124 21 [some (.ref 34), some (.int a1), some (.int a2), some (.int (σ ((59 - 36) + 8) (Int32.toNatClampNeg a1))), none, none] [] (hM 36 σ τ) r
        refine xp_ok htr 8 (d + 3) 0 0 [] 124 21 [some (.ref 34), some (.int a1), some (.int a2), some (.int (σ ((59 - 36) + 8) (Int32.toNatClampNeg a1))), none, none] [] (hM 36 σ τ) ?_
        show xv l Ω (d + 3) 0 0 124 33 [some (.ref 34), some (.int a1), some (.int a2), some (.int (σ ((59 - 36) + 8) (Int32.toNatClampNeg a1))), none, none] [.ref 50, .int 2, .int (a2 - 1), .ref 50] (hM 36 σ τ) r
        cases g22 : xn (a2 - 1) 7 with
        | false => rw [g22, cond_false] at H; exact False.elim H
        | true =>
          rw [g22, cond_true] at H
          exact xp_ok htr 8 (d + 3) 0 0 [] 124 33 [some (.ref 34), some (.int a1), some (.int a2), some (.int (σ ((59 - 36) + 8) (Int32.toNatClampNeg a1))), none, none] [.ref 50, .int 2, .int (a2 - 1), .ref 50] (hM 36 σ τ) ⟨(xn_in g22), (xn_in g22), trivial, (Eq.symm H)⟩
    · rw [if_neg h2] at H
      refine xp_ok htr 1 (d + 3) 0 0 [eB true] 124 13 [some (.ref 34), some (.int a1), some (.int a2), some (.int (σ ((59 - 36) + 8) (Int32.toNatClampNeg a1))), none, none] [.int 33, .int (σ ((59 - 36) + 8) (Int32.toNatClampNeg a1))] (hM 36 σ τ) ⟨h2, ?_⟩
      show xv l Ω (d + 3) 0 0 124 41 [some (.ref 34), some (.int a1), some (.int a2), some (.int (σ ((59 - 36) + 8) (Int32.toNatClampNeg a1))), none, none] [] (hM 36 σ τ) r
      exact xv_sub (L' := [some (.ref 34), some (.int a1), some (.int a2), some (.int (σ ((59 - 36) + 8) (Int32.toNatClampNeg a1))), none, none]) ⟨rfl, ⟨rfl, ⟨rfl, ⟨rfl, trivial⟩⟩⟩⟩ (g124_41_ok_36 htr d  τ a1 a2 (σ ((59 - 36) + 8) (Int32.toNatClampNeg a1)) σ r H)
/- AccessDesk$Judge.conditionOf -/
def g123_12b (p : Nat) (x1 : Int32) (x2 : Int32) (x3 : Int32) (σ : xS) : Option ((Int32 × Int32 × Int32 × xS) ⊕ xQ) := (bif xn x1 40 then (if (σ ((59 - p) + 7) (Int32.toNatClampNeg x1)) ≤ x3 then (if x2 = 0 then some (Sum.inr ((Sum.inl 2, σ))) else some (Sum.inr ((Sum.inl (σ 50 0), σ)))) else (match g124 p x3 x2 σ with | some (Sum.inl v5, s6) => some (Sum.inl (x1, v5, (x3 + 1), s6)) | some (Sum.inr v5, s6) => none | none => none)) else none)
def g123_12 (p : Nat) (x1 : Int32) (x2 : Int32) (x3 : Int32) (σ : xS) : Option xQ := xlo (fun a : Int32 × Int32 × Int32 × xS => g123_12b p a.1 a.2.1 a.2.2.1 a.2.2.2) 1000 (x1, x2, x3, σ)
def g123 (p : Nat) (a1 : Int32) (σ : xS) : xO := (bif xn a1 40 then g123_12 p a1 0 (σ ((59 - p) + 6) (Int32.toNatClampNeg a1)) σ else none)
def a123_12 (l : Launch) (Ω : xo_O) (d p : Nat) (τ : Nat → Nat → Int64) (r : xv_R) : Int32 × Int32 × Int32 × xS → Prop := fun a => xv l Ω (d + 4) 0 0 123 12 [some (.ref 34), some (.int a.1), some (.int a.2.1), some (.int a.2.2.1)] [] (hM p a.2.2.2 τ) r
theorem g123_12b_ok_23 {l : Launch} {Ω : xo_O} (htr : xH l) (d : Nat) (τ : Nat → Nat → Int64) (x1 : Int32) (x2 : Int32) (x3 : Int32) (σ : xS) (r : xv_R) (H : xo (xd (a123_12 l Ω d 23 τ r) (xB false 23 τ r)) (g123_12b 23 x1 x2 x3 σ)) : xv l Ω (d + 4) 0 0 123 12 [some (.ref 34), some (.int x1), some (.int x2), some (.int x3)] [] (hM 23 σ τ) r := by
  unfold g123_12b at H
  cases g2 : xn x1 40 with
  | false => rw [g2, cond_false] at H; exact False.elim H
  | true =>
    rw [g2, cond_true] at H
    by_cases h3 : (σ ((59 - 23) + 7) (Int32.toNatClampNeg x1)) ≤ x3
    · rw [if_pos h3] at H
      refine xp_ok htr 7 (d + 4) 0 0 [eB true] 123 12 [some (.ref 34), some (.int x1), some (.int x2), some (.int x3)] [] (hM 23 σ τ) ⟨(xn_in g2), h3, ?_⟩
      show xv l Ω (d + 4) 0 0 123 38 [some (.ref 34), some (.int x1), some (.int x2), some (.int x3)] [] (hM 23 σ τ) r
      by_cases h4 : x2 = 0
      · rw [if_pos h4] at H
        refine xp_ok htr 2 (d + 4) 0 0 [eB false] 123 38 [some (.ref 34), some (.int x1), some (.int x2), some (.int x3)] [] (hM 23 σ τ) ⟨h4, ?_⟩
        show xv l Ω (d + 4) 0 0 123 42 [some (.ref 34), some (.int x1), some (.int x2), some (.int x3)] [] (hM 23 σ τ) r
        exact xp_ok htr 3 (d + 4) 0 0 [] 123 42 [some (.ref 34), some (.int x1), some (.int x2), some (.int x3)] [] (hM 23 σ τ) ⟨trivial, (Eq.symm H)⟩
      · rw [if_neg h4] at H
        refine xp_ok htr 2 (d + 4) 0 0 [eB true] 123 38 [some (.ref 34), some (.int x1), some (.int x2), some (.int x3)] [] (hM 23 σ τ) ⟨h4, ?_⟩
        show xv l Ω (d + 4) 0 0 123 46 [some (.ref 34), some (.int x1), some (.int x2), some (.int x3)] [] (hM 23 σ τ) r
        exact xp_ok htr 5 (d + 4) 0 0 [] 123 46 [some (.ref 34), some (.int x1), some (.int x2), some (.int x3)] [] (hM 23 σ τ) ⟨(by unfold vp_in; decide), trivial, (Eq.symm H)⟩
    · rw [if_neg h3] at H
      refine xp_ok htr 7 (d + 4) 0 0 [eB false] 123 12 [some (.ref 34), some (.int x1), some (.int x2), some (.int x3)] [] (hM 23 σ τ) ⟨(xn_in g2), h3, ?_⟩
      show xv l Ω (d + 4) 0 0 123 25 [some (.ref 34), some (.int x1), some (.int x2), some (.int x3)] [] (hM 23 σ τ) r
      cases q7 : g124 23 x3 x2 σ with
      | none => rw [q7] at H; exact False.elim H
      | some q70 =>
        obtain ⟨v5 | v5, s6⟩ := q70
        · rw [q7] at H; dsimp only at H
          have hc := g124_run_23 (Ω := Ω) htr d  τ x3 x2 σ q7
          refine xp_ok htr 4 (d + 4) 0 0 [eC (some (.int v5)) (hM 23 s6 τ)] 123 25 [some (.ref 34), some (.int x1), some (.int x2), some (.int x3)] [] (hM 23 σ τ) ⟨hc, ?_⟩
          show xv l Ω (d + 4) 0 0 123 31 [some (.ref 34), some (.int x1), some (.int x2), some (.int x3)] [.int v5] (hM 23 s6 τ) r
          refine xp_ok htr 3 (d + 4) 0 0 [] 123 31 [some (.ref 34), some (.int x1), some (.int x2), some (.int x3)] [.int v5] (hM 23 s6 τ) ?_
          show xv l Ω (d + 4) 0 0 123 12 [some (.ref 34), some (.int x1), some (.int v5), some (.int (x3 + 1))] [] (hM 23 s6 τ) r
          exact xv_sub (L' := [some (.ref 34), some (.int x1), some (.int v5), some (.int (x3 + 1))]) ⟨rfl, ⟨rfl, ⟨rfl, ⟨rfl, trivial⟩⟩⟩⟩ H
        · rw [q7] at H; exact False.elim H
theorem g123_12_ok_23 {l : Launch} {Ω : xo_O} (htr : xH l) (d : Nat) (τ : Nat → Nat → Int64) (x1 : Int32) (x2 : Int32) (x3 : Int32) (σ : xS) (r : xv_R) (H : xo (xB false 23 τ r) (g123_12 23 x1 x2 x3 σ)) : xv l Ω (d + 4) 0 0 123 12 [some (.ref 34), some (.int x1), some (.int x2), some (.int x3)] [] (hM 23 σ τ) r :=
  xlo_ok (A := a123_12 l Ω d 23 τ r) (fun a H => g123_12b_ok_23 htr d  τ a.1 a.2.1 a.2.2.1 a.2.2.2 r H) 1000 (x1, x2, x3, σ) H
theorem g123_run_23 {l : Launch} {Ω : xo_O} (htr : xH l) (d : Nat) (τ : Nat → Nat → Int64) (a1 : Int32) (σ : xS) {q : xQ} (hq : g123 23 a1 σ = some q) : xv l Ω (d + 4) 0 0 123 0 (xs_loc (xm_l 123) [.ref 34, .int a1]) [] (hM 23 σ τ) (xq_R false 23 τ q) := by
  have H : xo (xB false 23 τ (xq_R false 23 τ q)) (g123 23 a1 σ) := by rw [hq]; exact rfl
  generalize xq_R false 23 τ q = r at H ⊢
  show xv l Ω (d + 4) 0 0 123 0 [some (.ref 34), some (.int a1), none, none] [] (hM 23 σ τ) r
  unfold g123 at H
  cases g1 : xn a1 40 with
  | false => rw [g1, cond_false] at H; exact False.elim H
  | true =>
    rw [g1, cond_true] at H
    refine xp_ok htr 8 (d + 4) 0 0 [] 123 0 [some (.ref 34), some (.int a1), none, none] [] (hM 23 σ τ) ⟨(xn_in g1), ?_⟩
    show xv l Ω (d + 4) 0 0 123 12 [some (.ref 34), some (.int a1), some (.int 0), some (.int (σ ((59 - 23) + 6) (Int32.toNatClampNeg a1)))] [] (hM 23 σ τ) r
    exact xv_sub (L' := [some (.ref 34), some (.int a1), some (.int 0), some (.int (σ ((59 - 23) + 6) (Int32.toNatClampNeg a1)))]) ⟨rfl, ⟨rfl, ⟨rfl, ⟨rfl, trivial⟩⟩⟩⟩ (g123_12_ok_23 htr d  τ a1 0 (σ ((59 - 23) + 6) (Int32.toNatClampNeg a1)) σ r H)
theorem g123_12b_ok_36 {l : Launch} {Ω : xo_O} (htr : xH l) (d : Nat) (τ : Nat → Nat → Int64) (x1 : Int32) (x2 : Int32) (x3 : Int32) (σ : xS) (r : xv_R) (H : xo (xd (a123_12 l Ω d 36 τ r) (xB false 36 τ r)) (g123_12b 36 x1 x2 x3 σ)) : xv l Ω (d + 4) 0 0 123 12 [some (.ref 34), some (.int x1), some (.int x2), some (.int x3)] [] (hM 36 σ τ) r := by
  unfold g123_12b at H
  cases g2 : xn x1 40 with
  | false => rw [g2, cond_false] at H; exact False.elim H
  | true =>
    rw [g2, cond_true] at H
    by_cases h3 : (σ ((59 - 36) + 7) (Int32.toNatClampNeg x1)) ≤ x3
    · rw [if_pos h3] at H
      refine xp_ok htr 7 (d + 4) 0 0 [eB true] 123 12 [some (.ref 34), some (.int x1), some (.int x2), some (.int x3)] [] (hM 36 σ τ) ⟨(xn_in g2), h3, ?_⟩
      show xv l Ω (d + 4) 0 0 123 38 [some (.ref 34), some (.int x1), some (.int x2), some (.int x3)] [] (hM 36 σ τ) r
      by_cases h4 : x2 = 0
      · rw [if_pos h4] at H
        refine xp_ok htr 2 (d + 4) 0 0 [eB false] 123 38 [some (.ref 34), some (.int x1), some (.int x2), some (.int x3)] [] (hM 36 σ τ) ⟨h4, ?_⟩
        show xv l Ω (d + 4) 0 0 123 42 [some (.ref 34), some (.int x1), some (.int x2), some (.int x3)] [] (hM 36 σ τ) r
        exact xp_ok htr 3 (d + 4) 0 0 [] 123 42 [some (.ref 34), some (.int x1), some (.int x2), some (.int x3)] [] (hM 36 σ τ) ⟨trivial, (Eq.symm H)⟩
      · rw [if_neg h4] at H
        refine xp_ok htr 2 (d + 4) 0 0 [eB true] 123 38 [some (.ref 34), some (.int x1), some (.int x2), some (.int x3)] [] (hM 36 σ τ) ⟨h4, ?_⟩
        show xv l Ω (d + 4) 0 0 123 46 [some (.ref 34), some (.int x1), some (.int x2), some (.int x3)] [] (hM 36 σ τ) r
        exact xp_ok htr 5 (d + 4) 0 0 [] 123 46 [some (.ref 34), some (.int x1), some (.int x2), some (.int x3)] [] (hM 36 σ τ) ⟨(by unfold vp_in; decide), trivial, (Eq.symm H)⟩
    · rw [if_neg h3] at H
      refine xp_ok htr 7 (d + 4) 0 0 [eB false] 123 12 [some (.ref 34), some (.int x1), some (.int x2), some (.int x3)] [] (hM 36 σ τ) ⟨(xn_in g2), h3, ?_⟩
      show xv l Ω (d + 4) 0 0 123 25 [some (.ref 34), some (.int x1), some (.int x2), some (.int x3)] [] (hM 36 σ τ) r
      cases q7 : g124 36 x3 x2 σ with
      | none => rw [q7] at H; exact False.elim H
      | some q70 =>
        obtain ⟨v5 | v5, s6⟩ := q70
        · rw [q7] at H; dsimp only at H
          have hc := g124_run_36 (Ω := Ω) htr d  τ x3 x2 σ q7
          refine xp_ok htr 4 (d + 4) 0 0 [eC (some (.int v5)) (hM 36 s6 τ)] 123 25 [some (.ref 34), some (.int x1), some (.int x2), some (.int x3)] [] (hM 36 σ τ) ⟨hc, ?_⟩
          show xv l Ω (d + 4) 0 0 123 31 [some (.ref 34), some (.int x1), some (.int x2), some (.int x3)] [.int v5] (hM 36 s6 τ) r
          refine xp_ok htr 3 (d + 4) 0 0 [] 123 31 [some (.ref 34), some (.int x1), some (.int x2), some (.int x3)] [.int v5] (hM 36 s6 τ) ?_
          show xv l Ω (d + 4) 0 0 123 12 [some (.ref 34), some (.int x1), some (.int v5), some (.int (x3 + 1))] [] (hM 36 s6 τ) r
          exact xv_sub (L' := [some (.ref 34), some (.int x1), some (.int v5), some (.int (x3 + 1))]) ⟨rfl, ⟨rfl, ⟨rfl, ⟨rfl, trivial⟩⟩⟩⟩ H
        · rw [q7] at H; exact False.elim H
theorem g123_12_ok_36 {l : Launch} {Ω : xo_O} (htr : xH l) (d : Nat) (τ : Nat → Nat → Int64) (x1 : Int32) (x2 : Int32) (x3 : Int32) (σ : xS) (r : xv_R) (H : xo (xB false 36 τ r) (g123_12 36 x1 x2 x3 σ)) : xv l Ω (d + 4) 0 0 123 12 [some (.ref 34), some (.int x1), some (.int x2), some (.int x3)] [] (hM 36 σ τ) r :=
  xlo_ok (A := a123_12 l Ω d 36 τ r) (fun a H => g123_12b_ok_36 htr d  τ a.1 a.2.1 a.2.2.1 a.2.2.2 r H) 1000 (x1, x2, x3, σ) H
theorem g123_run_36 {l : Launch} {Ω : xo_O} (htr : xH l) (d : Nat) (τ : Nat → Nat → Int64) (a1 : Int32) (σ : xS) {q : xQ} (hq : g123 36 a1 σ = some q) : xv l Ω (d + 4) 0 0 123 0 (xs_loc (xm_l 123) [.ref 34, .int a1]) [] (hM 36 σ τ) (xq_R false 36 τ q) := by
  have H : xo (xB false 36 τ (xq_R false 36 τ q)) (g123 36 a1 σ) := by rw [hq]; exact rfl
  generalize xq_R false 36 τ q = r at H ⊢
  show xv l Ω (d + 4) 0 0 123 0 [some (.ref 34), some (.int a1), none, none] [] (hM 36 σ τ) r
  unfold g123 at H
  cases g1 : xn a1 40 with
  | false => rw [g1, cond_false] at H; exact False.elim H
  | true =>
    rw [g1, cond_true] at H
    refine xp_ok htr 8 (d + 4) 0 0 [] 123 0 [some (.ref 34), some (.int a1), none, none] [] (hM 36 σ τ) ⟨(xn_in g1), ?_⟩
    show xv l Ω (d + 4) 0 0 123 12 [some (.ref 34), some (.int a1), some (.int 0), some (.int (σ ((59 - 36) + 6) (Int32.toNatClampNeg a1)))] [] (hM 36 σ τ) r
    exact xv_sub (L' := [some (.ref 34), some (.int a1), some (.int 0), some (.int (σ ((59 - 36) + 6) (Int32.toNatClampNeg a1)))]) ⟨rfl, ⟨rfl, ⟨rfl, ⟨rfl, trivial⟩⟩⟩⟩ (g123_12_ok_36 htr d  τ a1 0 (σ ((59 - 36) + 6) (Int32.toNatClampNeg a1)) σ r H)
/- AccessDesk$Plan.dutiesOf -/
def g126 (c : Nat) (a1 : Int32) (a2 : Int32) (σ : xS) : xO := (if a2 = 1 then (bif xn a1 40 then some ((Sum.inl (σ (c + 3) (Int32.toNatClampNeg a1)), σ)) else none) else (if a2 = 2 then (bif xn a1 40 then some ((Sum.inl (σ (c + 4) (Int32.toNatClampNeg a1)), σ)) else none) else some ((Sum.inl 0, σ))))
theorem g126_run_23 {l : Launch} {Ω : xo_O} (htr : xH l) (d : Nat) (p : Nat) (τ : Nat → Nat → Int64) (a1 : Int32) (a2 : Int32) (σ : xS) {q : xQ} (hq : g126 23 a1 a2 σ = some q) : xv l Ω d 0 0 126 0 (xs_loc (xm_l 126) [.ref 23, .int a1, .int a2]) [] (hM p σ τ) (xq_R false p τ q) := by
  have H : xo (xB false p τ (xq_R false p τ q)) (g126 23 a1 a2 σ) := by rw [hq]; exact rfl
  generalize xq_R false p τ q = r at H ⊢
  show xv l Ω d 0 0 126 0 [some (.ref 23), some (.int a1), some (.int a2)] [] (hM p σ τ) r
  unfold g126 at H
  by_cases h1 : a2 = 1
  · rw [if_pos h1] at H
    refine xp_ok htr 3 d 0 0 [eB false] 126 0 [some (.ref 23), some (.int a1), some (.int a2)] [] (hM p σ τ) ⟨h1, ?_⟩
    show xv l Ω d 0 0 126 5 [some (.ref 23), some (.int a1), some (.int a2)] [] (hM p σ τ) r
    cases g2 : xn a1 40 with
    | false => rw [g2, cond_false] at H; exact False.elim H
    | true =>
      rw [g2, cond_true] at H
      exact xp_ok htr 5 d 0 0 [] 126 5 [some (.ref 23), some (.int a1), some (.int a2)] [] (hM p σ τ) ⟨(xn_in g2), trivial, (Eq.symm H)⟩
  · rw [if_neg h1] at H
    refine xp_ok htr 3 d 0 0 [eB true] 126 0 [some (.ref 23), some (.int a1), some (.int a2)] [] (hM p σ τ) ⟨h1, ?_⟩
    show xv l Ω d 0 0 126 12 [some (.ref 23), some (.int a1), some (.int a2)] [] (hM p σ τ) r
    by_cases h3 : a2 = 2
    · rw [if_pos h3] at H
      refine xp_ok htr 3 d 0 0 [eB false] 126 12 [some (.ref 23), some (.int a1), some (.int a2)] [] (hM p σ τ) ⟨h3, ?_⟩
      show xv l Ω d 0 0 126 17 [some (.ref 23), some (.int a1), some (.int a2)] [] (hM p σ τ) r
      cases g4 : xn a1 40 with
      | false => rw [g4, cond_false] at H; exact False.elim H
      | true =>
        rw [g4, cond_true] at H
        exact xp_ok htr 6 d 0 0 [] 126 17 [some (.ref 23), some (.int a1), some (.int a2)] [] (hM p σ τ) ⟨(xn_in g4), trivial, (Eq.symm H)⟩
    · rw [if_neg h3] at H
      refine xp_ok htr 3 d 0 0 [eB true] 126 12 [some (.ref 23), some (.int a1), some (.int a2)] [] (hM p σ τ) ⟨h3, ?_⟩
      show xv l Ω d 0 0 126 26 [some (.ref 23), some (.int a1), some (.int a2)] [] (hM p σ τ) r
      exact xp_ok htr 2 d 0 0 [] 126 26 [some (.ref 23), some (.int a1), some (.int a2)] [] (hM p σ τ) ⟨trivial, (Eq.symm H)⟩
theorem g126_run_36 {l : Launch} {Ω : xo_O} (htr : xH l) (d : Nat) (p : Nat) (τ : Nat → Nat → Int64) (a1 : Int32) (a2 : Int32) (σ : xS) {q : xQ} (hq : g126 36 a1 a2 σ = some q) : xv l Ω d 0 0 126 0 (xs_loc (xm_l 126) [.ref 36, .int a1, .int a2]) [] (hM p σ τ) (xq_R false p τ q) := by
  have H : xo (xB false p τ (xq_R false p τ q)) (g126 36 a1 a2 σ) := by rw [hq]; exact rfl
  generalize xq_R false p τ q = r at H ⊢
  show xv l Ω d 0 0 126 0 [some (.ref 36), some (.int a1), some (.int a2)] [] (hM p σ τ) r
  unfold g126 at H
  by_cases h1 : a2 = 1
  · rw [if_pos h1] at H
    refine xp_ok htr 3 d 0 0 [eB false] 126 0 [some (.ref 36), some (.int a1), some (.int a2)] [] (hM p σ τ) ⟨h1, ?_⟩
    show xv l Ω d 0 0 126 5 [some (.ref 36), some (.int a1), some (.int a2)] [] (hM p σ τ) r
    cases g2 : xn a1 40 with
    | false => rw [g2, cond_false] at H; exact False.elim H
    | true =>
      rw [g2, cond_true] at H
      exact xp_ok htr 5 d 0 0 [] 126 5 [some (.ref 36), some (.int a1), some (.int a2)] [] (hM p σ τ) ⟨(xn_in g2), trivial, (Eq.symm H)⟩
  · rw [if_neg h1] at H
    refine xp_ok htr 3 d 0 0 [eB true] 126 0 [some (.ref 36), some (.int a1), some (.int a2)] [] (hM p σ τ) ⟨h1, ?_⟩
    show xv l Ω d 0 0 126 12 [some (.ref 36), some (.int a1), some (.int a2)] [] (hM p σ τ) r
    by_cases h3 : a2 = 2
    · rw [if_pos h3] at H
      refine xp_ok htr 3 d 0 0 [eB false] 126 12 [some (.ref 36), some (.int a1), some (.int a2)] [] (hM p σ τ) ⟨h3, ?_⟩
      show xv l Ω d 0 0 126 17 [some (.ref 36), some (.int a1), some (.int a2)] [] (hM p σ τ) r
      cases g4 : xn a1 40 with
      | false => rw [g4, cond_false] at H; exact False.elim H
      | true =>
        rw [g4, cond_true] at H
        exact xp_ok htr 6 d 0 0 [] 126 17 [some (.ref 36), some (.int a1), some (.int a2)] [] (hM p σ τ) ⟨(xn_in g4), trivial, (Eq.symm H)⟩
    · rw [if_neg h3] at H
      refine xp_ok htr 3 d 0 0 [eB true] 126 12 [some (.ref 36), some (.int a1), some (.int a2)] [] (hM p σ τ) ⟨h3, ?_⟩
      show xv l Ω d 0 0 126 26 [some (.ref 36), some (.int a1), some (.int a2)] [] (hM p σ τ) r
      exact xp_ok htr 2 d 0 0 [] 126 26 [some (.ref 36), some (.int a1), some (.int a2)] [] (hM p σ τ) ⟨trivial, (Eq.symm H)⟩
/- AccessDesk$Judge.weighRule -/
def g125_87 (p : Nat) (x1 : Int32) (σ : xS) : Option xQ := (bif xn x1 40 then (match g126 (59 - p) x1 (σ 48 (Int32.toNatClampNeg x1)) σ with | some (Sum.inl v7, s8) => some ((Sum.inl 0, (xh_ui s8 49 (Int32.toNatClampNeg x1) v7))) | some (Sum.inr v7, s8) => none | none => none) else none)
def g125_43 (p : Nat) (x1 : Int32) (σ : xS) : Option xQ := (bif xn x1 40 then g125_87 p x1 (xh_ui σ 48 (Int32.toNatClampNeg x1) 0) else none)
def g125_78 (p : Nat) (x1 : Int32) (x3 : Int32) (σ : xS) : Option xQ := (bif xn x1 40 then g125_87 p x1 (xh_ui σ 48 (Int32.toNatClampNeg x1) (x3 + 2)) else none)
def g125_53 (p : Nat) (x1 : Int32) (x2 : Int32) (x3 : Int32) (σ : xS) : Option xQ := (bif xn x1 40 then (if (σ 47 (Int32.toNatClampNeg x1)) = 2 then (if x2 = 2 then g125_87 p x1 (xh_ui σ 48 (Int32.toNatClampNeg x1) x3) else g125_78 p x1 x3 σ) else g125_78 p x1 x3 σ) else none)
def g125_19 (p : Nat) (x1 : Int32) (x2 : Int32) (k0 : Int32) (σ : xS) : Option xQ := (bif xn x1 40 then (if (σ 47 (Int32.toNatClampNeg x1)) = 0 then g125_43 p x1 σ else (if (σ 47 (Int32.toNatClampNeg x1)) = 2 then (if x2 = 0 then g125_43 p x1 σ else g125_53 p x1 x2 k0 σ) else g125_53 p x1 x2 k0 σ)) else none)
def g125 (p : Nat) (a1 : Int32) (a2 : Int32) (σ : xS) : xO := (bif xn a1 40 then (if (σ ((59 - p) + 1) (Int32.toNatClampNeg a1)) = 112 then g125_19 p a1 a2 1 σ else g125_19 p a1 a2 2 σ) else none)
theorem g125_87_ok_23 {l : Launch} {Ω : xo_O} (htr : xH l) (d : Nat) (τ : Nat → Nat → Int64) (x1 : Int32) (σ : xS) (r : xv_R) (H : xo (xB true 23 τ r) (g125_87 23 x1 σ)) : xv l Ω (d + 1) 0 0 125 87 [some (.ref 34), some (.int x1), none, none] [] (hM 23 σ τ) r := by
  unfold g125_87 at H
  refine xp_ok htr 8 (d + 1) 0 0 [] 125 87 [some (.ref 34), some (.int x1), none, none] [] (hM 23 σ τ) ?_
  show xv l Ω (d + 1) 0 0 125 101 [some (.ref 34), some (.int x1), none, none] [.ref 48, .int x1, .ref (59 - 23), .int x1, .ref 49] (hM 23 σ τ) r
  cases g6 : xn x1 40 with
  | false => rw [g6, cond_false] at H; exact False.elim H
  | true =>
    rw [g6, cond_true] at H
    cases q9 : g126 (59 - 23) x1 (σ 48 (Int32.toNatClampNeg x1)) σ with
    | none => rw [q9] at H; exact False.elim H
    | some q90 =>
      obtain ⟨v7 | v7, s8⟩ := q90
      · rw [q9] at H; dsimp only at H
        have hc := g126_run_36 (Ω := Ω) htr d 23 τ x1 (σ 48 (Int32.toNatClampNeg x1)) σ q9
        refine xp_ok htr 3 (d + 1) 0 0 [eC (some (.int v7)) (hM 23 s8 τ)] 125 101 [some (.ref 34), some (.int x1), none, none] [.ref 48, .int x1, .ref (59 - 23), .int x1, .ref 49] (hM 23 σ τ) ⟨(xn_in g6), hc, ?_⟩
        show xv l Ω (d + 1) 0 0 125 106 [some (.ref 34), some (.int x1), none, none] [.int v7, .int x1, .ref 49] (hM 23 s8 τ) r
        exact xp_ok htr 2 (d + 1) 0 0 [] 125 106 [some (.ref 34), some (.int x1), none, none] [.int v7, .int x1, .ref 49] (hM 23 s8 τ) ⟨(xn_in g6), trivial, (Eq.symm H)⟩
      · rw [q9] at H; exact False.elim H
theorem g125_43_ok_23 {l : Launch} {Ω : xo_O} (htr : xH l) (d : Nat) (τ : Nat → Nat → Int64) (x1 : Int32) (σ : xS) (r : xv_R) (H : xo (xB true 23 τ r) (g125_43 23 x1 σ)) : xv l Ω (d + 1) 0 0 125 43 [some (.ref 34), some (.int x1), none, none] [] (hM 23 σ τ) r := by
  unfold g125_43 at H
  cases g5 : xn x1 40 with
  | false => rw [g5, cond_false] at H; exact False.elim H
  | true =>
    rw [g5, cond_true] at H
    refine xp_ok htr 6 (d + 1) 0 0 [] 125 43 [some (.ref 34), some (.int x1), none, none] [] (hM 23 σ τ) ⟨(xn_in g5), ?_⟩
    show xv l Ω (d + 1) 0 0 125 87 [some (.ref 34), some (.int x1), none, none] [] (hM 23 (xh_ui σ 48 (Int32.toNatClampNeg x1) 0) τ) r
    exact xv_sub (L' := [some (.ref 34), some (.int x1), none, none]) ⟨rfl, ⟨rfl, trivial⟩⟩ (g125_87_ok_23 htr d  τ x1 (xh_ui σ 48 (Int32.toNatClampNeg x1) 0) r H)
theorem g125_78_ok_23 {l : Launch} {Ω : xo_O} (htr : xH l) (d : Nat) (τ : Nat → Nat → Int64) (x1 : Int32) (x3 : Int32) (σ : xS) (r : xv_R) (H : xo (xB true 23 τ r) (g125_78 23 x1 x3 σ)) : xv l Ω (d + 1) 0 0 125 78 [some (.ref 34), some (.int x1), none, some (.int x3)] [] (hM 23 σ τ) r := by
  unfold g125_78 at H
  cases g15 : xn x1 40 with
  | false => rw [g15, cond_false] at H; exact False.elim H
  | true =>
    rw [g15, cond_true] at H
    refine xp_ok htr 7 (d + 1) 0 0 [] 125 78 [some (.ref 34), some (.int x1), none, some (.int x3)] [] (hM 23 σ τ) ⟨(xn_in g15), ?_⟩
    show xv l Ω (d + 1) 0 0 125 87 [some (.ref 34), some (.int x1), none, some (.int x3)] [] (hM 23 (xh_ui σ 48 (Int32.toNatClampNeg x1) (x3 + 2)) τ) r
    exact xv_sub (L' := [some (.ref 34), some (.int x1), none, none]) ⟨rfl, ⟨rfl, trivial⟩⟩ (g125_87_ok_23 htr d  τ x1 (xh_ui σ 48 (Int32.toNatClampNeg x1) (x3 + 2)) r H)
theorem g125_53_ok_23 {l : Launch} {Ω : xo_O} (htr : xH l) (d : Nat) (τ : Nat → Nat → Int64) (x1 : Int32) (x2 : Int32) (x3 : Int32) (σ : xS) (r : xv_R) (H : xo (xB true 23 τ r) (g125_53 23 x1 x2 x3 σ)) : xv l Ω (d + 1) 0 0 125 53 [some (.ref 34), some (.int x1), some (.int x2), some (.int x3)] [] (hM 23 σ τ) r := by
  unfold g125_53 at H
  cases g12 : xn x1 40 with
  | false => rw [g12, cond_false] at H; exact False.elim H
  | true =>
    rw [g12, cond_true] at H
    by_cases h13 : (σ 47 (Int32.toNatClampNeg x1)) = 2
    · rw [if_pos h13] at H
      refine xp_ok htr 6 (d + 1) 0 0 [eB false] 125 53 [some (.ref 34), some (.int x1), some (.int x2), some (.int x3)] [] (hM 23 σ τ) ⟨(xn_in g12), h13, ?_⟩
      show xv l Ω (d + 1) 0 0 125 63 [some (.ref 34), some (.int x1), some (.int x2), some (.int x3)] [] (hM 23 σ τ) r
      by_cases h14 : x2 = 2
      · rw [if_pos h14] at H
        refine xp_ok htr 3 (d + 1) 0 0 [eB false] 125 63 [some (.ref 34), some (.int x1), some (.int x2), some (.int x3)] [] (hM 23 σ τ) ⟨h14, ?_⟩
        show xv l Ω (d + 1) 0 0 125 68 [some (.ref 34), some (.int x1), some (.int x2), some (.int x3)] [] (hM 23 σ τ) r
        refine xp_ok htr 6 (d + 1) 0 0 [] 125 68 [some (.ref 34), some (.int x1), some (.int x2), some (.int x3)] [] (hM 23 σ τ) ⟨(xn_in g12), ?_⟩
        show xv l Ω (d + 1) 0 0 125 87 [some (.ref 34), some (.int x1), some (.int x2), some (.int x3)] [] (hM 23 (xh_ui σ 48 (Int32.toNatClampNeg x1) x3) τ) r
        exact xv_sub (L' := [some (.ref 34), some (.int x1), none, none]) ⟨rfl, ⟨rfl, trivial⟩⟩ (g125_87_ok_23 htr d  τ x1 (xh_ui σ 48 (Int32.toNatClampNeg x1) x3) r H)
      · rw [if_neg h14] at H
        refine xp_ok htr 3 (d + 1) 0 0 [eB true] 125 63 [some (.ref 34), some (.int x1), some (.int x2), some (.int x3)] [] (hM 23 σ τ) ⟨h14, ?_⟩
        show xv l Ω (d + 1) 0 0 125 78 [some (.ref 34), some (.int x1), some (.int x2), some (.int x3)] [] (hM 23 σ τ) r
        exact xv_sub (L' := [some (.ref 34), some (.int x1), none, some (.int x3)]) ⟨rfl, ⟨rfl, ⟨rfl, trivial⟩⟩⟩ (g125_78_ok_23 htr d  τ x1 x3 σ r H)
    · rw [if_neg h13] at H
      refine xp_ok htr 6 (d + 1) 0 0 [eB true] 125 53 [some (.ref 34), some (.int x1), some (.int x2), some (.int x3)] [] (hM 23 σ τ) ⟨(xn_in g12), h13, ?_⟩
      show xv l Ω (d + 1) 0 0 125 78 [some (.ref 34), some (.int x1), some (.int x2), some (.int x3)] [] (hM 23 σ τ) r
      exact xv_sub (L' := [some (.ref 34), some (.int x1), none, some (.int x3)]) ⟨rfl, ⟨rfl, ⟨rfl, trivial⟩⟩⟩ (g125_78_ok_23 htr d  τ x1 x3 σ r H)
theorem g125_19_ok_23 {l : Launch} {Ω : xo_O} (htr : xH l) (d : Nat) (τ : Nat → Nat → Int64) (x1 : Int32) (x2 : Int32) (k0 : Int32) (σ : xS) (r : xv_R) (H : xo (xB true 23 τ r) (g125_19 23 x1 x2 k0 σ)) : xv l Ω (d + 1) 0 0 125 19 [some (.ref 34), some (.int x1), some (.int x2), none] [.int k0] (hM 23 σ τ) r := by
  unfold g125_19 at H
  cases g3 : xn x1 40 with
  | false => rw [g3, cond_false] at H; exact False.elim H
  | true =>
    rw [g3, cond_true] at H
    by_cases h4 : (σ 47 (Int32.toNatClampNeg x1)) = 0
    · rw [if_pos h4] at H
      refine xp_ok htr 6 (d + 1) 0 0 [eB true] 125 19 [some (.ref 34), some (.int x1), some (.int x2), none] [.int k0] (hM 23 σ τ) ⟨(xn_in g3), h4, ?_⟩
      show xv l Ω (d + 1) 0 0 125 43 [some (.ref 34), some (.int x1), some (.int x2), some (.int k0)] [] (hM 23 σ τ) r
      exact xv_sub (L' := [some (.ref 34), some (.int x1), none, none]) ⟨rfl, ⟨rfl, trivial⟩⟩ (g125_43_ok_23 htr d  τ x1 σ r H)
    · rw [if_neg h4] at H
      refine xp_ok htr 6 (d + 1) 0 0 [eB false] 125 19 [some (.ref 34), some (.int x1), some (.int x2), none] [.int k0] (hM 23 σ τ) ⟨(xn_in g3), h4, ?_⟩
      show xv l Ω (d + 1) 0 0 125 29 [some (.ref 34), some (.int x1), some (.int x2), some (.int k0)] [] (hM 23 σ τ) r
      by_cases h10 : (σ 47 (Int32.toNatClampNeg x1)) = 2
      · rw [if_pos h10] at H
        refine xp_ok htr 6 (d + 1) 0 0 [eB false] 125 29 [some (.ref 34), some (.int x1), some (.int x2), some (.int k0)] [] (hM 23 σ τ) ⟨(xn_in g3), h10, ?_⟩
        show xv l Ω (d + 1) 0 0 125 39 [some (.ref 34), some (.int x1), some (.int x2), some (.int k0)] [] (hM 23 σ τ) r
        by_cases h11 : x2 = 0
        · rw [if_pos h11] at H
          refine xp_ok htr 2 (d + 1) 0 0 [eB false] 125 39 [some (.ref 34), some (.int x1), some (.int x2), some (.int k0)] [] (hM 23 σ τ) ⟨h11, ?_⟩
          show xv l Ω (d + 1) 0 0 125 43 [some (.ref 34), some (.int x1), some (.int x2), some (.int k0)] [] (hM 23 σ τ) r
          exact xv_sub (L' := [some (.ref 34), some (.int x1), none, none]) ⟨rfl, ⟨rfl, trivial⟩⟩ (g125_43_ok_23 htr d  τ x1 σ r H)
        · rw [if_neg h11] at H
          refine xp_ok htr 2 (d + 1) 0 0 [eB true] 125 39 [some (.ref 34), some (.int x1), some (.int x2), some (.int k0)] [] (hM 23 σ τ) ⟨h11, ?_⟩
          show xv l Ω (d + 1) 0 0 125 53 [some (.ref 34), some (.int x1), some (.int x2), some (.int k0)] [] (hM 23 σ τ) r
          exact xv_sub (L' := [some (.ref 34), some (.int x1), some (.int x2), some (.int k0)]) ⟨rfl, ⟨rfl, ⟨rfl, ⟨rfl, trivial⟩⟩⟩⟩ (g125_53_ok_23 htr d  τ x1 x2 k0 σ r H)
      · rw [if_neg h10] at H
        refine xp_ok htr 6 (d + 1) 0 0 [eB true] 125 29 [some (.ref 34), some (.int x1), some (.int x2), some (.int k0)] [] (hM 23 σ τ) ⟨(xn_in g3), h10, ?_⟩
        show xv l Ω (d + 1) 0 0 125 53 [some (.ref 34), some (.int x1), some (.int x2), some (.int k0)] [] (hM 23 σ τ) r
        exact xv_sub (L' := [some (.ref 34), some (.int x1), some (.int x2), some (.int k0)]) ⟨rfl, ⟨rfl, ⟨rfl, ⟨rfl, trivial⟩⟩⟩⟩ (g125_53_ok_23 htr d  τ x1 x2 k0 σ r H)
theorem g125_run_23 {l : Launch} {Ω : xo_O} (htr : xH l) (d : Nat) (τ : Nat → Nat → Int64) (a1 : Int32) (a2 : Int32) (σ : xS) {q : xQ} (hq : g125 23 a1 a2 σ = some q) : xv l Ω (d + 1) 0 0 125 0 (xs_loc (xm_l 125) [.ref 34, .int a1, .int a2]) [] (hM 23 σ τ) (xq_R true 23 τ q) := by
  have H : xo (xB true 23 τ (xq_R true 23 τ q)) (g125 23 a1 a2 σ) := by rw [hq]; exact rfl
  generalize xq_R true 23 τ q = r at H ⊢
  show xv l Ω (d + 1) 0 0 125 0 [some (.ref 34), some (.int a1), some (.int a2), none] [] (hM 23 σ τ) r
  unfold g125 at H
  cases g1 : xn a1 40 with
  | false => rw [g1, cond_false] at H; exact False.elim H
  | true =>
    rw [g1, cond_true] at H
    by_cases h2 : (σ ((59 - 23) + 1) (Int32.toNatClampNeg a1)) = 112
    · rw [if_pos h2] at H
      refine xp_ok htr 7 (d + 1) 0 0 [eB false] 125 0 [some (.ref 34), some (.int a1), some (.int a2), none] [] (hM 23 σ τ) ⟨(xn_in g1), h2, ?_⟩
      show xv l Ω (d + 1) 0 0 125 14 [some (.ref 34), some (.int a1), some (.int a2), none] [] (hM 23 σ τ) r
      refine xp_ok htr 2 (d + 1) 0 0 [] 125 14 [some (.ref 34), some (.int a1), some (.int a2), none] [] (hM 23 σ τ) ?_
      show xv l Ω (d + 1) 0 0 125 19 [some (.ref 34), some (.int a1), some (.int a2), none] [.int 1] (hM 23 σ τ) r
      exact xv_sub (L' := [some (.ref 34), some (.int a1), some (.int a2), none]) ⟨rfl, ⟨rfl, ⟨rfl, trivial⟩⟩⟩ (g125_19_ok_23 htr d  τ a1 a2 1 σ r H)
    · rw [if_neg h2] at H
      refine xp_ok htr 7 (d + 1) 0 0 [eB true] 125 0 [some (.ref 34), some (.int a1), some (.int a2), none] [] (hM 23 σ τ) ⟨(xn_in g1), h2, ?_⟩
      show xv l Ω (d + 1) 0 0 125 18 [some (.ref 34), some (.int a1), some (.int a2), none] [] (hM 23 σ τ) r
      refine xp_ok htr 1 (d + 1) 0 0 [] 125 18 [some (.ref 34), some (.int a1), some (.int a2), none] [] (hM 23 σ τ) ?_
      show xv l Ω (d + 1) 0 0 125 19 [some (.ref 34), some (.int a1), some (.int a2), none] [.int 2] (hM 23 σ τ) r
      exact xv_sub (L' := [some (.ref 34), some (.int a1), some (.int a2), none]) ⟨rfl, ⟨rfl, ⟨rfl, trivial⟩⟩⟩ (g125_19_ok_23 htr d  τ a1 a2 2 σ r H)
theorem g125_87_ok_36 {l : Launch} {Ω : xo_O} (htr : xH l) (d : Nat) (τ : Nat → Nat → Int64) (x1 : Int32) (σ : xS) (r : xv_R) (H : xo (xB true 36 τ r) (g125_87 36 x1 σ)) : xv l Ω (d + 1) 0 0 125 87 [some (.ref 34), some (.int x1), none, none] [] (hM 36 σ τ) r := by
  unfold g125_87 at H
  refine xp_ok htr 8 (d + 1) 0 0 [] 125 87 [some (.ref 34), some (.int x1), none, none] [] (hM 36 σ τ) ?_
  show xv l Ω (d + 1) 0 0 125 101 [some (.ref 34), some (.int x1), none, none] [.ref 48, .int x1, .ref (59 - 36), .int x1, .ref 49] (hM 36 σ τ) r
  cases g6 : xn x1 40 with
  | false => rw [g6, cond_false] at H; exact False.elim H
  | true =>
    rw [g6, cond_true] at H
    cases q9 : g126 (59 - 36) x1 (σ 48 (Int32.toNatClampNeg x1)) σ with
    | none => rw [q9] at H; exact False.elim H
    | some q90 =>
      obtain ⟨v7 | v7, s8⟩ := q90
      · rw [q9] at H; dsimp only at H
        have hc := g126_run_23 (Ω := Ω) htr d 36 τ x1 (σ 48 (Int32.toNatClampNeg x1)) σ q9
        refine xp_ok htr 3 (d + 1) 0 0 [eC (some (.int v7)) (hM 36 s8 τ)] 125 101 [some (.ref 34), some (.int x1), none, none] [.ref 48, .int x1, .ref (59 - 36), .int x1, .ref 49] (hM 36 σ τ) ⟨(xn_in g6), hc, ?_⟩
        show xv l Ω (d + 1) 0 0 125 106 [some (.ref 34), some (.int x1), none, none] [.int v7, .int x1, .ref 49] (hM 36 s8 τ) r
        exact xp_ok htr 2 (d + 1) 0 0 [] 125 106 [some (.ref 34), some (.int x1), none, none] [.int v7, .int x1, .ref 49] (hM 36 s8 τ) ⟨(xn_in g6), trivial, (Eq.symm H)⟩
      · rw [q9] at H; exact False.elim H
theorem g125_43_ok_36 {l : Launch} {Ω : xo_O} (htr : xH l) (d : Nat) (τ : Nat → Nat → Int64) (x1 : Int32) (σ : xS) (r : xv_R) (H : xo (xB true 36 τ r) (g125_43 36 x1 σ)) : xv l Ω (d + 1) 0 0 125 43 [some (.ref 34), some (.int x1), none, none] [] (hM 36 σ τ) r := by
  unfold g125_43 at H
  cases g5 : xn x1 40 with
  | false => rw [g5, cond_false] at H; exact False.elim H
  | true =>
    rw [g5, cond_true] at H
    refine xp_ok htr 6 (d + 1) 0 0 [] 125 43 [some (.ref 34), some (.int x1), none, none] [] (hM 36 σ τ) ⟨(xn_in g5), ?_⟩
    show xv l Ω (d + 1) 0 0 125 87 [some (.ref 34), some (.int x1), none, none] [] (hM 36 (xh_ui σ 48 (Int32.toNatClampNeg x1) 0) τ) r
    exact xv_sub (L' := [some (.ref 34), some (.int x1), none, none]) ⟨rfl, ⟨rfl, trivial⟩⟩ (g125_87_ok_36 htr d  τ x1 (xh_ui σ 48 (Int32.toNatClampNeg x1) 0) r H)
theorem g125_78_ok_36 {l : Launch} {Ω : xo_O} (htr : xH l) (d : Nat) (τ : Nat → Nat → Int64) (x1 : Int32) (x3 : Int32) (σ : xS) (r : xv_R) (H : xo (xB true 36 τ r) (g125_78 36 x1 x3 σ)) : xv l Ω (d + 1) 0 0 125 78 [some (.ref 34), some (.int x1), none, some (.int x3)] [] (hM 36 σ τ) r := by
  unfold g125_78 at H
  cases g15 : xn x1 40 with
  | false => rw [g15, cond_false] at H; exact False.elim H
  | true =>
    rw [g15, cond_true] at H
    refine xp_ok htr 7 (d + 1) 0 0 [] 125 78 [some (.ref 34), some (.int x1), none, some (.int x3)] [] (hM 36 σ τ) ⟨(xn_in g15), ?_⟩
    show xv l Ω (d + 1) 0 0 125 87 [some (.ref 34), some (.int x1), none, some (.int x3)] [] (hM 36 (xh_ui σ 48 (Int32.toNatClampNeg x1) (x3 + 2)) τ) r
    exact xv_sub (L' := [some (.ref 34), some (.int x1), none, none]) ⟨rfl, ⟨rfl, trivial⟩⟩ (g125_87_ok_36 htr d  τ x1 (xh_ui σ 48 (Int32.toNatClampNeg x1) (x3 + 2)) r H)
theorem g125_53_ok_36 {l : Launch} {Ω : xo_O} (htr : xH l) (d : Nat) (τ : Nat → Nat → Int64) (x1 : Int32) (x2 : Int32) (x3 : Int32) (σ : xS) (r : xv_R) (H : xo (xB true 36 τ r) (g125_53 36 x1 x2 x3 σ)) : xv l Ω (d + 1) 0 0 125 53 [some (.ref 34), some (.int x1), some (.int x2), some (.int x3)] [] (hM 36 σ τ) r := by
  unfold g125_53 at H
  cases g12 : xn x1 40 with
  | false => rw [g12, cond_false] at H; exact False.elim H
  | true =>
    rw [g12, cond_true] at H
    by_cases h13 : (σ 47 (Int32.toNatClampNeg x1)) = 2
    · rw [if_pos h13] at H
      refine xp_ok htr 6 (d + 1) 0 0 [eB false] 125 53 [some (.ref 34), some (.int x1), some (.int x2), some (.int x3)] [] (hM 36 σ τ) ⟨(xn_in g12), h13, ?_⟩
      show xv l Ω (d + 1) 0 0 125 63 [some (.ref 34), some (.int x1), some (.int x2), some (.int x3)] [] (hM 36 σ τ) r
      by_cases h14 : x2 = 2
      · rw [if_pos h14] at H
        refine xp_ok htr 3 (d + 1) 0 0 [eB false] 125 63 [some (.ref 34), some (.int x1), some (.int x2), some (.int x3)] [] (hM 36 σ τ) ⟨h14, ?_⟩
        show xv l Ω (d + 1) 0 0 125 68 [some (.ref 34), some (.int x1), some (.int x2), some (.int x3)] [] (hM 36 σ τ) r
        refine xp_ok htr 6 (d + 1) 0 0 [] 125 68 [some (.ref 34), some (.int x1), some (.int x2), some (.int x3)] [] (hM 36 σ τ) ⟨(xn_in g12), ?_⟩
        show xv l Ω (d + 1) 0 0 125 87 [some (.ref 34), some (.int x1), some (.int x2), some (.int x3)] [] (hM 36 (xh_ui σ 48 (Int32.toNatClampNeg x1) x3) τ) r
        exact xv_sub (L' := [some (.ref 34), some (.int x1), none, none]) ⟨rfl, ⟨rfl, trivial⟩⟩ (g125_87_ok_36 htr d  τ x1 (xh_ui σ 48 (Int32.toNatClampNeg x1) x3) r H)
      · rw [if_neg h14] at H
        refine xp_ok htr 3 (d + 1) 0 0 [eB true] 125 63 [some (.ref 34), some (.int x1), some (.int x2), some (.int x3)] [] (hM 36 σ τ) ⟨h14, ?_⟩
        show xv l Ω (d + 1) 0 0 125 78 [some (.ref 34), some (.int x1), some (.int x2), some (.int x3)] [] (hM 36 σ τ) r
        exact xv_sub (L' := [some (.ref 34), some (.int x1), none, some (.int x3)]) ⟨rfl, ⟨rfl, ⟨rfl, trivial⟩⟩⟩ (g125_78_ok_36 htr d  τ x1 x3 σ r H)
    · rw [if_neg h13] at H
      refine xp_ok htr 6 (d + 1) 0 0 [eB true] 125 53 [some (.ref 34), some (.int x1), some (.int x2), some (.int x3)] [] (hM 36 σ τ) ⟨(xn_in g12), h13, ?_⟩
      show xv l Ω (d + 1) 0 0 125 78 [some (.ref 34), some (.int x1), some (.int x2), some (.int x3)] [] (hM 36 σ τ) r
      exact xv_sub (L' := [some (.ref 34), some (.int x1), none, some (.int x3)]) ⟨rfl, ⟨rfl, ⟨rfl, trivial⟩⟩⟩ (g125_78_ok_36 htr d  τ x1 x3 σ r H)
theorem g125_19_ok_36 {l : Launch} {Ω : xo_O} (htr : xH l) (d : Nat) (τ : Nat → Nat → Int64) (x1 : Int32) (x2 : Int32) (k0 : Int32) (σ : xS) (r : xv_R) (H : xo (xB true 36 τ r) (g125_19 36 x1 x2 k0 σ)) : xv l Ω (d + 1) 0 0 125 19 [some (.ref 34), some (.int x1), some (.int x2), none] [.int k0] (hM 36 σ τ) r := by
  unfold g125_19 at H
  cases g3 : xn x1 40 with
  | false => rw [g3, cond_false] at H; exact False.elim H
  | true =>
    rw [g3, cond_true] at H
    by_cases h4 : (σ 47 (Int32.toNatClampNeg x1)) = 0
    · rw [if_pos h4] at H
      refine xp_ok htr 6 (d + 1) 0 0 [eB true] 125 19 [some (.ref 34), some (.int x1), some (.int x2), none] [.int k0] (hM 36 σ τ) ⟨(xn_in g3), h4, ?_⟩
      show xv l Ω (d + 1) 0 0 125 43 [some (.ref 34), some (.int x1), some (.int x2), some (.int k0)] [] (hM 36 σ τ) r
      exact xv_sub (L' := [some (.ref 34), some (.int x1), none, none]) ⟨rfl, ⟨rfl, trivial⟩⟩ (g125_43_ok_36 htr d  τ x1 σ r H)
    · rw [if_neg h4] at H
      refine xp_ok htr 6 (d + 1) 0 0 [eB false] 125 19 [some (.ref 34), some (.int x1), some (.int x2), none] [.int k0] (hM 36 σ τ) ⟨(xn_in g3), h4, ?_⟩
      show xv l Ω (d + 1) 0 0 125 29 [some (.ref 34), some (.int x1), some (.int x2), some (.int k0)] [] (hM 36 σ τ) r
      by_cases h10 : (σ 47 (Int32.toNatClampNeg x1)) = 2
      · rw [if_pos h10] at H
        refine xp_ok htr 6 (d + 1) 0 0 [eB false] 125 29 [some (.ref 34), some (.int x1), some (.int x2), some (.int k0)] [] (hM 36 σ τ) ⟨(xn_in g3), h10, ?_⟩
        show xv l Ω (d + 1) 0 0 125 39 [some (.ref 34), some (.int x1), some (.int x2), some (.int k0)] [] (hM 36 σ τ) r
        by_cases h11 : x2 = 0
        · rw [if_pos h11] at H
          refine xp_ok htr 2 (d + 1) 0 0 [eB false] 125 39 [some (.ref 34), some (.int x1), some (.int x2), some (.int k0)] [] (hM 36 σ τ) ⟨h11, ?_⟩
          show xv l Ω (d + 1) 0 0 125 43 [some (.ref 34), some (.int x1), some (.int x2), some (.int k0)] [] (hM 36 σ τ) r
          exact xv_sub (L' := [some (.ref 34), some (.int x1), none, none]) ⟨rfl, ⟨rfl, trivial⟩⟩ (g125_43_ok_36 htr d  τ x1 σ r H)
        · rw [if_neg h11] at H
          refine xp_ok htr 2 (d + 1) 0 0 [eB true] 125 39 [some (.ref 34), some (.int x1), some (.int x2), some (.int k0)] [] (hM 36 σ τ) ⟨h11, ?_⟩
          show xv l Ω (d + 1) 0 0 125 53 [some (.ref 34), some (.int x1), some (.int x2), some (.int k0)] [] (hM 36 σ τ) r
          exact xv_sub (L' := [some (.ref 34), some (.int x1), some (.int x2), some (.int k0)]) ⟨rfl, ⟨rfl, ⟨rfl, ⟨rfl, trivial⟩⟩⟩⟩ (g125_53_ok_36 htr d  τ x1 x2 k0 σ r H)
      · rw [if_neg h10] at H
        refine xp_ok htr 6 (d + 1) 0 0 [eB true] 125 29 [some (.ref 34), some (.int x1), some (.int x2), some (.int k0)] [] (hM 36 σ τ) ⟨(xn_in g3), h10, ?_⟩
        show xv l Ω (d + 1) 0 0 125 53 [some (.ref 34), some (.int x1), some (.int x2), some (.int k0)] [] (hM 36 σ τ) r
        exact xv_sub (L' := [some (.ref 34), some (.int x1), some (.int x2), some (.int k0)]) ⟨rfl, ⟨rfl, ⟨rfl, ⟨rfl, trivial⟩⟩⟩⟩ (g125_53_ok_36 htr d  τ x1 x2 k0 σ r H)
theorem g125_run_36 {l : Launch} {Ω : xo_O} (htr : xH l) (d : Nat) (τ : Nat → Nat → Int64) (a1 : Int32) (a2 : Int32) (σ : xS) {q : xQ} (hq : g125 36 a1 a2 σ = some q) : xv l Ω (d + 1) 0 0 125 0 (xs_loc (xm_l 125) [.ref 34, .int a1, .int a2]) [] (hM 36 σ τ) (xq_R true 36 τ q) := by
  have H : xo (xB true 36 τ (xq_R true 36 τ q)) (g125 36 a1 a2 σ) := by rw [hq]; exact rfl
  generalize xq_R true 36 τ q = r at H ⊢
  show xv l Ω (d + 1) 0 0 125 0 [some (.ref 34), some (.int a1), some (.int a2), none] [] (hM 36 σ τ) r
  unfold g125 at H
  cases g1 : xn a1 40 with
  | false => rw [g1, cond_false] at H; exact False.elim H
  | true =>
    rw [g1, cond_true] at H
    by_cases h2 : (σ ((59 - 36) + 1) (Int32.toNatClampNeg a1)) = 112
    · rw [if_pos h2] at H
      refine xp_ok htr 7 (d + 1) 0 0 [eB false] 125 0 [some (.ref 34), some (.int a1), some (.int a2), none] [] (hM 36 σ τ) ⟨(xn_in g1), h2, ?_⟩
      show xv l Ω (d + 1) 0 0 125 14 [some (.ref 34), some (.int a1), some (.int a2), none] [] (hM 36 σ τ) r
      refine xp_ok htr 2 (d + 1) 0 0 [] 125 14 [some (.ref 34), some (.int a1), some (.int a2), none] [] (hM 36 σ τ) ?_
      show xv l Ω (d + 1) 0 0 125 19 [some (.ref 34), some (.int a1), some (.int a2), none] [.int 1] (hM 36 σ τ) r
      exact xv_sub (L' := [some (.ref 34), some (.int a1), some (.int a2), none]) ⟨rfl, ⟨rfl, ⟨rfl, trivial⟩⟩⟩ (g125_19_ok_36 htr d  τ a1 a2 1 σ r H)
    · rw [if_neg h2] at H
      refine xp_ok htr 7 (d + 1) 0 0 [eB true] 125 0 [some (.ref 34), some (.int a1), some (.int a2), none] [] (hM 36 σ τ) ⟨(xn_in g1), h2, ?_⟩
      show xv l Ω (d + 1) 0 0 125 18 [some (.ref 34), some (.int a1), some (.int a2), none] [] (hM 36 σ τ) r
      refine xp_ok htr 1 (d + 1) 0 0 [] 125 18 [some (.ref 34), some (.int a1), some (.int a2), none] [] (hM 36 σ τ) ?_
      show xv l Ω (d + 1) 0 0 125 19 [some (.ref 34), some (.int a1), some (.int a2), none] [.int 2] (hM 36 σ τ) r
      exact xv_sub (L' := [some (.ref 34), some (.int a1), some (.int a2), none]) ⟨rfl, ⟨rfl, ⟨rfl, trivial⟩⟩⟩ (g125_19_ok_36 htr d  τ a1 a2 2 σ r H)
/- AccessDesk$Judge.seenIn -/
def g129_41 (p : Nat) (x1 : Int32) (x2 : Int32) (x3 : Int32) (σ : xS) : Option ((Int32 × Int32 × Int32 × xS) ⊕ xQ) := some (Sum.inl (x1, x2, (x3 + 1), σ))
def g129_6b (p : Nat) (x1 : Int32) (x2 : Int32) (x3 : Int32) (σ : xS) : Option ((Int32 × Int32 × Int32 × xS) ⊕ xQ) := (if (σ (59 - p) 7) ≤ x3 then some (Sum.inr ((Sum.inl x2, σ))) else (bif xn x3 40 then (if (σ ((59 - p) + 2) (Int32.toNatClampNeg x3)) = x1 then g129_41 p x1 (x2 ||| (1 <<< ((σ 48 (Int32.toNatClampNeg x3)) &&& 31))) x3 σ else g129_41 p x1 x2 x3 σ) else none))
def g129_6 (p : Nat) (x1 : Int32) (x2 : Int32) (x3 : Int32) (σ : xS) : Option xQ := xlo (fun a : Int32 × Int32 × Int32 × xS => g129_6b p a.1 a.2.1 a.2.2.1 a.2.2.2) 1000 (x1, x2, x3, σ)
def g129 (p : Nat) (a1 : Int32) (σ : xS) : xO := g129_6 p a1 0 (a1 + 1) σ
def a129_6 (l : Launch) (Ω : xo_O) (d p : Nat) (τ : Nat → Nat → Int64) (r : xv_R) : Int32 × Int32 × Int32 × xS → Prop := fun a => xv l Ω d 0 0 129 6 [some (.ref 34), some (.int a.1), some (.int a.2.1), some (.int a.2.2.1)] [] (hM p a.2.2.2 τ) r
theorem g129_41_ok_23 {l : Launch} {Ω : xo_O} (htr : xH l) (d : Nat) (τ : Nat → Nat → Int64) (x1 : Int32) (x2 : Int32) (x3 : Int32) (σ : xS) (r : xv_R) (H : xo (xd (a129_6 l Ω d 23 τ r) (xB false 23 τ r)) (g129_41 23 x1 x2 x3 σ)) : xv l Ω d 0 0 129 41 [some (.ref 34), some (.int x1), some (.int x2), some (.int x3)] [] (hM 23 σ τ) r := by
  unfold g129_41 at H
  refine xp_ok htr 2 d 0 0 [] 129 41 [some (.ref 34), some (.int x1), some (.int x2), some (.int x3)] [] (hM 23 σ τ) ?_
  show xv l Ω d 0 0 129 6 [some (.ref 34), some (.int x1), some (.int x2), some (.int (x3 + 1))] [] (hM 23 σ τ) r
  exact xv_sub (L' := [some (.ref 34), some (.int x1), some (.int x2), some (.int (x3 + 1))]) ⟨rfl, ⟨rfl, ⟨rfl, ⟨rfl, trivial⟩⟩⟩⟩ H
theorem g129_6b_ok_23 {l : Launch} {Ω : xo_O} (htr : xH l) (d : Nat) (τ : Nat → Nat → Int64) (x1 : Int32) (x2 : Int32) (x3 : Int32) (σ : xS) (r : xv_R) (H : xo (xd (a129_6 l Ω d 23 τ r) (xB false 23 τ r)) (g129_6b 23 x1 x2 x3 σ)) : xv l Ω d 0 0 129 6 [some (.ref 34), some (.int x1), some (.int x2), some (.int x3)] [] (hM 23 σ τ) r := by
  unfold g129_6b at H
  by_cases h1 : (σ (59 - 23) 7) ≤ x3
  · rw [if_pos h1] at H
    refine xp_ok htr 5 d 0 0 [eB true] 129 6 [some (.ref 34), some (.int x1), some (.int x2), some (.int x3)] [] (hM 23 σ τ) ⟨h1, ?_⟩
    show xv l Ω d 0 0 129 47 [some (.ref 34), some (.int x1), some (.int x2), some (.int x3)] [] (hM 23 σ τ) r
    exact xp_ok htr 2 d 0 0 [] 129 47 [some (.ref 34), some (.int x1), some (.int x2), some (.int x3)] [] (hM 23 σ τ) ⟨trivial, (Eq.symm H)⟩
  · rw [if_neg h1] at H
    refine xp_ok htr 5 d 0 0 [eB false] 129 6 [some (.ref 34), some (.int x1), some (.int x2), some (.int x3)] [] (hM 23 σ τ) ⟨h1, ?_⟩
    show xv l Ω d 0 0 129 17 [some (.ref 34), some (.int x1), some (.int x2), some (.int x3)] [] (hM 23 σ τ) r
    cases g2 : xn x3 40 with
    | false => rw [g2, cond_false] at H; exact False.elim H
    | true =>
      rw [g2, cond_true] at H
      by_cases h3 : (σ ((59 - 23) + 2) (Int32.toNatClampNeg x3)) = x1
      · rw [if_pos h3] at H
        refine xp_ok htr 7 d 0 0 [eB false] 129 17 [some (.ref 34), some (.int x1), some (.int x2), some (.int x3)] [] (hM 23 σ τ) ⟨(xn_in g2), h3, ?_⟩
        show xv l Ω d 0 0 129 30 [some (.ref 34), some (.int x1), some (.int x2), some (.int x3)] [] (hM 23 σ τ) r
        refine xp_ok htr 8 d 0 0 [] 129 30 [some (.ref 34), some (.int x1), some (.int x2), some (.int x3)] [] (hM 23 σ τ) ⟨(xn_in g2), ?_⟩
        show xv l Ω d 0 0 129 40 [some (.ref 34), some (.int x1), some (.int x2), some (.int x3)] [.int (x2 ||| (1 <<< ((σ 48 (Int32.toNatClampNeg x3)) &&& 31)))] (hM 23 σ τ) r
        refine xp_ok htr 1 d 0 0 [] 129 40 [some (.ref 34), some (.int x1), some (.int x2), some (.int x3)] [.int (x2 ||| (1 <<< ((σ 48 (Int32.toNatClampNeg x3)) &&& 31)))] (hM 23 σ τ) ?_
        show xv l Ω d 0 0 129 41 [some (.ref 34), some (.int x1), some (.int (x2 ||| (1 <<< ((σ 48 (Int32.toNatClampNeg x3)) &&& 31)))), some (.int x3)] [] (hM 23 σ τ) r
        exact xv_sub (L' := [some (.ref 34), some (.int x1), some (.int (x2 ||| (1 <<< ((σ 48 (Int32.toNatClampNeg x3)) &&& 31)))), some (.int x3)]) ⟨rfl, ⟨rfl, ⟨rfl, ⟨rfl, trivial⟩⟩⟩⟩ (g129_41_ok_23 htr d  τ x1 (x2 ||| (1 <<< ((σ 48 (Int32.toNatClampNeg x3)) &&& 31))) x3 σ r H)
      · rw [if_neg h3] at H
        refine xp_ok htr 7 d 0 0 [eB true] 129 17 [some (.ref 34), some (.int x1), some (.int x2), some (.int x3)] [] (hM 23 σ τ) ⟨(xn_in g2), h3, ?_⟩
        show xv l Ω d 0 0 129 41 [some (.ref 34), some (.int x1), some (.int x2), some (.int x3)] [] (hM 23 σ τ) r
        exact xv_sub (L' := [some (.ref 34), some (.int x1), some (.int x2), some (.int x3)]) ⟨rfl, ⟨rfl, ⟨rfl, ⟨rfl, trivial⟩⟩⟩⟩ (g129_41_ok_23 htr d  τ x1 x2 x3 σ r H)
theorem g129_6_ok_23 {l : Launch} {Ω : xo_O} (htr : xH l) (d : Nat) (τ : Nat → Nat → Int64) (x1 : Int32) (x2 : Int32) (x3 : Int32) (σ : xS) (r : xv_R) (H : xo (xB false 23 τ r) (g129_6 23 x1 x2 x3 σ)) : xv l Ω d 0 0 129 6 [some (.ref 34), some (.int x1), some (.int x2), some (.int x3)] [] (hM 23 σ τ) r :=
  xlo_ok (A := a129_6 l Ω d 23 τ r) (fun a H => g129_6b_ok_23 htr d  τ a.1 a.2.1 a.2.2.1 a.2.2.2 r H) 1000 (x1, x2, x3, σ) H
theorem g129_run_23 {l : Launch} {Ω : xo_O} (htr : xH l) (d : Nat) (τ : Nat → Nat → Int64) (a1 : Int32) (σ : xS) {q : xQ} (hq : g129 23 a1 σ = some q) : xv l Ω d 0 0 129 0 (xs_loc (xm_l 129) [.ref 34, .int a1]) [] (hM 23 σ τ) (xq_R false 23 τ q) := by
  have H : xo (xB false 23 τ (xq_R false 23 τ q)) (g129 23 a1 σ) := by rw [hq]; exact rfl
  generalize xq_R false 23 τ q = r at H ⊢
  show xv l Ω d 0 0 129 0 [some (.ref 34), some (.int a1), none, none] [] (hM 23 σ τ) r
  unfold g129 at H
  refine xp_ok htr 6 d 0 0 [] 129 0 [some (.ref 34), some (.int a1), none, none] [] (hM 23 σ τ) ?_
  show xv l Ω d 0 0 129 6 [some (.ref 34), some (.int a1), some (.int 0), some (.int (a1 + 1))] [] (hM 23 σ τ) r
  exact xv_sub (L' := [some (.ref 34), some (.int a1), some (.int 0), some (.int (a1 + 1))]) ⟨rfl, ⟨rfl, ⟨rfl, ⟨rfl, trivial⟩⟩⟩⟩ (g129_6_ok_23 htr d  τ a1 0 (a1 + 1) σ r H)
theorem g129_41_ok_36 {l : Launch} {Ω : xo_O} (htr : xH l) (d : Nat) (τ : Nat → Nat → Int64) (x1 : Int32) (x2 : Int32) (x3 : Int32) (σ : xS) (r : xv_R) (H : xo (xd (a129_6 l Ω d 36 τ r) (xB false 36 τ r)) (g129_41 36 x1 x2 x3 σ)) : xv l Ω d 0 0 129 41 [some (.ref 34), some (.int x1), some (.int x2), some (.int x3)] [] (hM 36 σ τ) r := by
  unfold g129_41 at H
  refine xp_ok htr 2 d 0 0 [] 129 41 [some (.ref 34), some (.int x1), some (.int x2), some (.int x3)] [] (hM 36 σ τ) ?_
  show xv l Ω d 0 0 129 6 [some (.ref 34), some (.int x1), some (.int x2), some (.int (x3 + 1))] [] (hM 36 σ τ) r
  exact xv_sub (L' := [some (.ref 34), some (.int x1), some (.int x2), some (.int (x3 + 1))]) ⟨rfl, ⟨rfl, ⟨rfl, ⟨rfl, trivial⟩⟩⟩⟩ H
theorem g129_6b_ok_36 {l : Launch} {Ω : xo_O} (htr : xH l) (d : Nat) (τ : Nat → Nat → Int64) (x1 : Int32) (x2 : Int32) (x3 : Int32) (σ : xS) (r : xv_R) (H : xo (xd (a129_6 l Ω d 36 τ r) (xB false 36 τ r)) (g129_6b 36 x1 x2 x3 σ)) : xv l Ω d 0 0 129 6 [some (.ref 34), some (.int x1), some (.int x2), some (.int x3)] [] (hM 36 σ τ) r := by
  unfold g129_6b at H
  by_cases h1 : (σ (59 - 36) 7) ≤ x3
  · rw [if_pos h1] at H
    refine xp_ok htr 5 d 0 0 [eB true] 129 6 [some (.ref 34), some (.int x1), some (.int x2), some (.int x3)] [] (hM 36 σ τ) ⟨h1, ?_⟩
    show xv l Ω d 0 0 129 47 [some (.ref 34), some (.int x1), some (.int x2), some (.int x3)] [] (hM 36 σ τ) r
    exact xp_ok htr 2 d 0 0 [] 129 47 [some (.ref 34), some (.int x1), some (.int x2), some (.int x3)] [] (hM 36 σ τ) ⟨trivial, (Eq.symm H)⟩
  · rw [if_neg h1] at H
    refine xp_ok htr 5 d 0 0 [eB false] 129 6 [some (.ref 34), some (.int x1), some (.int x2), some (.int x3)] [] (hM 36 σ τ) ⟨h1, ?_⟩
    show xv l Ω d 0 0 129 17 [some (.ref 34), some (.int x1), some (.int x2), some (.int x3)] [] (hM 36 σ τ) r
    cases g2 : xn x3 40 with
    | false => rw [g2, cond_false] at H; exact False.elim H
    | true =>
      rw [g2, cond_true] at H
      by_cases h3 : (σ ((59 - 36) + 2) (Int32.toNatClampNeg x3)) = x1
      · rw [if_pos h3] at H
        refine xp_ok htr 7 d 0 0 [eB false] 129 17 [some (.ref 34), some (.int x1), some (.int x2), some (.int x3)] [] (hM 36 σ τ) ⟨(xn_in g2), h3, ?_⟩
        show xv l Ω d 0 0 129 30 [some (.ref 34), some (.int x1), some (.int x2), some (.int x3)] [] (hM 36 σ τ) r
        refine xp_ok htr 8 d 0 0 [] 129 30 [some (.ref 34), some (.int x1), some (.int x2), some (.int x3)] [] (hM 36 σ τ) ⟨(xn_in g2), ?_⟩
        show xv l Ω d 0 0 129 40 [some (.ref 34), some (.int x1), some (.int x2), some (.int x3)] [.int (x2 ||| (1 <<< ((σ 48 (Int32.toNatClampNeg x3)) &&& 31)))] (hM 36 σ τ) r
        refine xp_ok htr 1 d 0 0 [] 129 40 [some (.ref 34), some (.int x1), some (.int x2), some (.int x3)] [.int (x2 ||| (1 <<< ((σ 48 (Int32.toNatClampNeg x3)) &&& 31)))] (hM 36 σ τ) ?_
        show xv l Ω d 0 0 129 41 [some (.ref 34), some (.int x1), some (.int (x2 ||| (1 <<< ((σ 48 (Int32.toNatClampNeg x3)) &&& 31)))), some (.int x3)] [] (hM 36 σ τ) r
        exact xv_sub (L' := [some (.ref 34), some (.int x1), some (.int (x2 ||| (1 <<< ((σ 48 (Int32.toNatClampNeg x3)) &&& 31)))), some (.int x3)]) ⟨rfl, ⟨rfl, ⟨rfl, ⟨rfl, trivial⟩⟩⟩⟩ (g129_41_ok_36 htr d  τ x1 (x2 ||| (1 <<< ((σ 48 (Int32.toNatClampNeg x3)) &&& 31))) x3 σ r H)
      · rw [if_neg h3] at H
        refine xp_ok htr 7 d 0 0 [eB true] 129 17 [some (.ref 34), some (.int x1), some (.int x2), some (.int x3)] [] (hM 36 σ τ) ⟨(xn_in g2), h3, ?_⟩
        show xv l Ω d 0 0 129 41 [some (.ref 34), some (.int x1), some (.int x2), some (.int x3)] [] (hM 36 σ τ) r
        exact xv_sub (L' := [some (.ref 34), some (.int x1), some (.int x2), some (.int x3)]) ⟨rfl, ⟨rfl, ⟨rfl, ⟨rfl, trivial⟩⟩⟩⟩ (g129_41_ok_36 htr d  τ x1 x2 x3 σ r H)
theorem g129_6_ok_36 {l : Launch} {Ω : xo_O} (htr : xH l) (d : Nat) (τ : Nat → Nat → Int64) (x1 : Int32) (x2 : Int32) (x3 : Int32) (σ : xS) (r : xv_R) (H : xo (xB false 36 τ r) (g129_6 36 x1 x2 x3 σ)) : xv l Ω d 0 0 129 6 [some (.ref 34), some (.int x1), some (.int x2), some (.int x3)] [] (hM 36 σ τ) r :=
  xlo_ok (A := a129_6 l Ω d 36 τ r) (fun a H => g129_6b_ok_36 htr d  τ a.1 a.2.1 a.2.2.1 a.2.2.2 r H) 1000 (x1, x2, x3, σ) H
theorem g129_run_36 {l : Launch} {Ω : xo_O} (htr : xH l) (d : Nat) (τ : Nat → Nat → Int64) (a1 : Int32) (σ : xS) {q : xQ} (hq : g129 36 a1 σ = some q) : xv l Ω d 0 0 129 0 (xs_loc (xm_l 129) [.ref 34, .int a1]) [] (hM 36 σ τ) (xq_R false 36 τ q) := by
  have H : xo (xB false 36 τ (xq_R false 36 τ q)) (g129 36 a1 σ) := by rw [hq]; exact rfl
  generalize xq_R false 36 τ q = r at H ⊢
  show xv l Ω d 0 0 129 0 [some (.ref 34), some (.int a1), none, none] [] (hM 36 σ τ) r
  unfold g129 at H
  refine xp_ok htr 6 d 0 0 [] 129 0 [some (.ref 34), some (.int a1), none, none] [] (hM 36 σ τ) ?_
  show xv l Ω d 0 0 129 6 [some (.ref 34), some (.int a1), some (.int 0), some (.int (a1 + 1))] [] (hM 36 σ τ) r
  exact xv_sub (L' := [some (.ref 34), some (.int a1), some (.int 0), some (.int (a1 + 1))]) ⟨rfl, ⟨rfl, ⟨rfl, ⟨rfl, trivial⟩⟩⟩⟩ (g129_6_ok_36 htr d  τ a1 0 (a1 + 1) σ r H)
/- AccessDesk$Judge.overriding -/
def g130_66 (x1 : Int32) (x2 : Int32) (x3 : Int32) (x4 : Int32) (σ : xS) : Option xQ := (match g28 x2 x3 σ with | some (Sum.inl v21, s22) => (if v21 = 0 then (match g28 x2 x1 s22 with | some (Sum.inl v25, s26) => (if v25 = 0 then (match g28 x2 x4 s26 with | some (Sum.inl v29, s30) => (if v29 = 0 then some ((Sum.inl 0, s30)) else some ((Sum.inl x4, s30))) | some (Sum.inr v29, s30) => none | none => none) else some ((Sum.inl x1, s26))) | some (Sum.inr v25, s26) => none | none => none) else some ((Sum.inl x3, s22))) | some (Sum.inr v21, s22) => none | none => none)
def g130_41 (x1 : Int32) (x2 : Int32) (x3 : Int32) (x4 : Int32) (k0 : Int32) (σ : xS) : Option xQ := (match g28 x2 5 σ with | some (Sum.inl v13, s14) => (if v13 = 0 then (match g28 x2 x3 s14 with | some (Sum.inl v17, s18) => (if v17 = 0 then g130_66 x1 x2 x3 x4 s18 else (if k0 = 0 then g130_66 x1 x2 x3 x4 s18 else some ((Sum.inl 5, s18)))) | some (Sum.inr v17, s18) => none | none => none) else some ((Sum.inl 5, s14))) | some (Sum.inr v13, s14) => none | none => none)
def g130_36 (x1 : Int32) (x2 : Int32) (x3 : Int32) (x4 : Int32) (σ : xS) : Option xQ := g130_41 x1 x2 x3 x4 1 σ
def g130 (a0 : Int32) (a1 : Int32) (a2 : Int32) (σ : xS) : xO := (match g28 a2 a0 σ with | some (Sum.inl v1, s2) => (if v1 = 0 then (match g28 a2 a1 s2 with | some (Sum.inl v5, s6) => (if v5 = 0 then (match g28 a2 (a1 + 2) s6 with | some (Sum.inl v9, s10) => (if v9 = 0 then g130_41 a1 a2 (a0 + 2) (a1 + 2) 0 s10 else g130_36 a1 a2 (a0 + 2) (a1 + 2) s10) | some (Sum.inr v9, s10) => none | none => none) else g130_36 a1 a2 (a0 + 2) (a1 + 2) s6) | some (Sum.inr v5, s6) => none | none => none) else some ((Sum.inl a0, s2))) | some (Sum.inr v1, s2) => none | none => none)
theorem g130_66_ok {l : Launch} {Ω : xo_O} (htr : xH l) (d : Nat) (p : Nat) (τ : Nat → Nat → Int64) (x1 : Int32) (x2 : Int32) (x3 : Int32) (x4 : Int32) (σ : xS) (r : xv_R) (H : xo (xB false p τ r) (g130_66 x1 x2 x3 x4 σ)) : xv l Ω (d + 1) 0 0 130 66 [none, some (.int x1), some (.int x2), some (.int x3), some (.int x4), none] [] (hM p σ τ) r := by
  unfold g130_66 at H
  cases q23 : g28 x2 x3 σ with
  | none => rw [q23] at H; exact False.elim H
  | some q230 =>
    obtain ⟨v21 | v21, s22⟩ := q230
    · rw [q23] at H; dsimp only at H
      have hc := g28_run (Ω := Ω) htr d p τ x2 x3 σ q23
      refine xp_ok htr 3 (d + 1) 0 0 [eC (some (.int v21)) (hM p s22 τ)] 130 66 [none, some (.int x1), some (.int x2), some (.int x3), some (.int x4), none] [] (hM p σ τ) ⟨hc, ?_⟩
      show xv l Ω (d + 1) 0 0 130 71 [none, some (.int x1), some (.int x2), some (.int x3), some (.int x4), none] [.int v21] (hM p s22 τ) r
      by_cases h24 : v21 = 0
      · rw [if_pos h24] at H
        refine xp_ok htr 1 (d + 1) 0 0 [eB true] 130 71 [none, some (.int x1), some (.int x2), some (.int x3), some (.int x4), none] [.int v21] (hM p s22 τ) ⟨h24, ?_⟩
        show xv l Ω (d + 1) 0 0 130 76 [none, some (.int x1), some (.int x2), some (.int x3), some (.int x4), none] [] (hM p s22 τ) r
        cases q27 : g28 x2 x1 s22 with
        | none => rw [q27] at H; exact False.elim H
        | some q270 =>
          obtain ⟨v25 | v25, s26⟩ := q270
          · rw [q27] at H; dsimp only at H
            have hc := g28_run (Ω := Ω) htr d p τ x2 x1 s22 q27
            refine xp_ok htr 3 (d + 1) 0 0 [eC (some (.int v25)) (hM p s26 τ)] 130 76 [none, some (.int x1), some (.int x2), some (.int x3), some (.int x4), none] [] (hM p s22 τ) ⟨hc, ?_⟩
            show xv l Ω (d + 1) 0 0 130 81 [none, some (.int x1), some (.int x2), some (.int x3), some (.int x4), none] [.int v25] (hM p s26 τ) r
            by_cases h28 : v25 = 0
            · rw [if_pos h28] at H
              refine xp_ok htr 1 (d + 1) 0 0 [eB true] 130 81 [none, some (.int x1), some (.int x2), some (.int x3), some (.int x4), none] [.int v25] (hM p s26 τ) ⟨h28, ?_⟩
              show xv l Ω (d + 1) 0 0 130 86 [none, some (.int x1), some (.int x2), some (.int x3), some (.int x4), none] [] (hM p s26 τ) r
              cases q31 : g28 x2 x4 s26 with
              | none => rw [q31] at H; exact False.elim H
              | some q310 =>
                obtain ⟨v29 | v29, s30⟩ := q310
                · rw [q31] at H; dsimp only at H
                  have hc := g28_run (Ω := Ω) htr d p τ x2 x4 s26 q31
                  refine xp_ok htr 3 (d + 1) 0 0 [eC (some (.int v29)) (hM p s30 τ)] 130 86 [none, some (.int x1), some (.int x2), some (.int x3), some (.int x4), none] [] (hM p s26 τ) ⟨hc, ?_⟩
                  show xv l Ω (d + 1) 0 0 130 92 [none, some (.int x1), some (.int x2), some (.int x3), some (.int x4), none] [.int v29] (hM p s30 τ) r
                  by_cases h32 : v29 = 0
                  · rw [if_pos h32] at H
                    refine xp_ok htr 1 (d + 1) 0 0 [eB true] 130 92 [none, some (.int x1), some (.int x2), some (.int x3), some (.int x4), none] [.int v29] (hM p s30 τ) ⟨h32, ?_⟩
                    show xv l Ω (d + 1) 0 0 130 100 [none, some (.int x1), some (.int x2), some (.int x3), some (.int x4), none] [] (hM p s30 τ) r
                    exact xp_ok htr 2 (d + 1) 0 0 [] 130 100 [none, some (.int x1), some (.int x2), some (.int x3), some (.int x4), none] [] (hM p s30 τ) ⟨trivial, (Eq.symm H)⟩
                  · rw [if_neg h32] at H
                    refine xp_ok htr 1 (d + 1) 0 0 [eB false] 130 92 [none, some (.int x1), some (.int x2), some (.int x3), some (.int x4), none] [.int v29] (hM p s30 τ) ⟨h32, ?_⟩
                    show xv l Ω (d + 1) 0 0 130 95 [none, some (.int x1), some (.int x2), some (.int x3), some (.int x4), none] [] (hM p s30 τ) r
                    exact xp_ok htr 3 (d + 1) 0 0 [] 130 95 [none, some (.int x1), some (.int x2), some (.int x3), some (.int x4), none] [] (hM p s30 τ) ⟨trivial, (Eq.symm H)⟩
                · rw [q31] at H; exact False.elim H
            · rw [if_neg h28] at H
              refine xp_ok htr 1 (d + 1) 0 0 [eB false] 130 81 [none, some (.int x1), some (.int x2), some (.int x3), some (.int x4), none] [.int v25] (hM p s26 τ) ⟨h28, ?_⟩
              show xv l Ω (d + 1) 0 0 130 84 [none, some (.int x1), some (.int x2), some (.int x3), some (.int x4), none] [] (hM p s26 τ) r
              exact xp_ok htr 2 (d + 1) 0 0 [] 130 84 [none, some (.int x1), some (.int x2), some (.int x3), some (.int x4), none] [] (hM p s26 τ) ⟨trivial, (Eq.symm H)⟩
          · rw [q27] at H; exact False.elim H
      · rw [if_neg h24] at H
        refine xp_ok htr 1 (d + 1) 0 0 [eB false] 130 71 [none, some (.int x1), some (.int x2), some (.int x3), some (.int x4), none] [.int v21] (hM p s22 τ) ⟨h24, ?_⟩
        show xv l Ω (d + 1) 0 0 130 74 [none, some (.int x1), some (.int x2), some (.int x3), some (.int x4), none] [] (hM p s22 τ) r
        exact xp_ok htr 2 (d + 1) 0 0 [] 130 74 [none, some (.int x1), some (.int x2), some (.int x3), some (.int x4), none] [] (hM p s22 τ) ⟨trivial, (Eq.symm H)⟩
    · rw [q23] at H; exact False.elim H
theorem g130_41_ok {l : Launch} {Ω : xo_O} (htr : xH l) (d : Nat) (p : Nat) (τ : Nat → Nat → Int64) (x1 : Int32) (x2 : Int32) (x3 : Int32) (x4 : Int32) (k0 : Int32) (σ : xS) (r : xv_R) (H : xo (xB false p τ r) (g130_41 x1 x2 x3 x4 k0 σ)) : xv l Ω (d + 1) 0 0 130 41 [none, some (.int x1), some (.int x2), some (.int x3), some (.int x4), none] [.int k0] (hM p σ τ) r := by
  unfold g130_41 at H
  cases q15 : g28 x2 5 σ with
  | none => rw [q15] at H; exact False.elim H
  | some q150 =>
    obtain ⟨v13 | v13, s14⟩ := q150
    · rw [q15] at H; dsimp only at H
      have hc := g28_run (Ω := Ω) htr d p τ x2 5 σ q15
      refine xp_ok htr 4 (d + 1) 0 0 [eC (some (.int v13)) (hM p s14 τ)] 130 41 [none, some (.int x1), some (.int x2), some (.int x3), some (.int x4), none] [.int k0] (hM p σ τ) ⟨hc, ?_⟩
      show xv l Ω (d + 1) 0 0 130 48 [none, some (.int x1), some (.int x2), some (.int x3), some (.int x4), some (.int k0)] [.int v13] (hM p s14 τ) r
      by_cases h16 : v13 = 0
      · rw [if_pos h16] at H
        refine xp_ok htr 1 (d + 1) 0 0 [eB false] 130 48 [none, some (.int x1), some (.int x2), some (.int x3), some (.int x4), some (.int k0)] [.int v13] (hM p s14 τ) ⟨h16, ?_⟩
        show xv l Ω (d + 1) 0 0 130 51 [none, some (.int x1), some (.int x2), some (.int x3), some (.int x4), some (.int k0)] [] (hM p s14 τ) r
        cases q19 : g28 x2 x3 s14 with
        | none => rw [q19] at H; exact False.elim H
        | some q190 =>
          obtain ⟨v17 | v17, s18⟩ := q190
          · rw [q19] at H; dsimp only at H
            have hc := g28_run (Ω := Ω) htr d p τ x2 x3 s14 q19
            refine xp_ok htr 3 (d + 1) 0 0 [eC (some (.int v17)) (hM p s18 τ)] 130 51 [none, some (.int x1), some (.int x2), some (.int x3), some (.int x4), some (.int k0)] [] (hM p s14 τ) ⟨hc, ?_⟩
            show xv l Ω (d + 1) 0 0 130 56 [none, some (.int x1), some (.int x2), some (.int x3), some (.int x4), some (.int k0)] [.int v17] (hM p s18 τ) r
            by_cases h20 : v17 = 0
            · rw [if_pos h20] at H
              refine xp_ok htr 1 (d + 1) 0 0 [eB true] 130 56 [none, some (.int x1), some (.int x2), some (.int x3), some (.int x4), some (.int k0)] [.int v17] (hM p s18 τ) ⟨h20, ?_⟩
              show xv l Ω (d + 1) 0 0 130 66 [none, some (.int x1), some (.int x2), some (.int x3), some (.int x4), some (.int k0)] [] (hM p s18 τ) r
              exact xv_sub (L' := [none, some (.int x1), some (.int x2), some (.int x3), some (.int x4), none]) ⟨rfl, ⟨rfl, ⟨rfl, ⟨rfl, trivial⟩⟩⟩⟩ (g130_66_ok htr d p τ x1 x2 x3 x4 s18 r H)
            · rw [if_neg h20] at H
              refine xp_ok htr 1 (d + 1) 0 0 [eB false] 130 56 [none, some (.int x1), some (.int x2), some (.int x3), some (.int x4), some (.int k0)] [.int v17] (hM p s18 τ) ⟨h20, ?_⟩
              show xv l Ω (d + 1) 0 0 130 59 [none, some (.int x1), some (.int x2), some (.int x3), some (.int x4), some (.int k0)] [] (hM p s18 τ) r
              by_cases h33 : k0 = 0
              · rw [if_pos h33] at H
                refine xp_ok htr 2 (d + 1) 0 0 [eB true] 130 59 [none, some (.int x1), some (.int x2), some (.int x3), some (.int x4), some (.int k0)] [] (hM p s18 τ) ⟨h33, ?_⟩
                show xv l Ω (d + 1) 0 0 130 66 [none, some (.int x1), some (.int x2), some (.int x3), some (.int x4), some (.int k0)] [] (hM p s18 τ) r
                exact xv_sub (L' := [none, some (.int x1), some (.int x2), some (.int x3), some (.int x4), none]) ⟨rfl, ⟨rfl, ⟨rfl, ⟨rfl, trivial⟩⟩⟩⟩ (g130_66_ok htr d p τ x1 x2 x3 x4 s18 r H)
              · rw [if_neg h33] at H
                refine xp_ok htr 2 (d + 1) 0 0 [eB false] 130 59 [none, some (.int x1), some (.int x2), some (.int x3), some (.int x4), some (.int k0)] [] (hM p s18 τ) ⟨h33, ?_⟩
                show xv l Ω (d + 1) 0 0 130 64 [none, some (.int x1), some (.int x2), some (.int x3), some (.int x4), some (.int k0)] [] (hM p s18 τ) r
                exact xp_ok htr 2 (d + 1) 0 0 [] 130 64 [none, some (.int x1), some (.int x2), some (.int x3), some (.int x4), some (.int k0)] [] (hM p s18 τ) ⟨trivial, (Eq.symm H)⟩
          · rw [q19] at H; exact False.elim H
      · rw [if_neg h16] at H
        refine xp_ok htr 1 (d + 1) 0 0 [eB true] 130 48 [none, some (.int x1), some (.int x2), some (.int x3), some (.int x4), some (.int k0)] [.int v13] (hM p s14 τ) ⟨h16, ?_⟩
        show xv l Ω (d + 1) 0 0 130 64 [none, some (.int x1), some (.int x2), some (.int x3), some (.int x4), some (.int k0)] [] (hM p s14 τ) r
        exact xp_ok htr 2 (d + 1) 0 0 [] 130 64 [none, some (.int x1), some (.int x2), some (.int x3), some (.int x4), some (.int k0)] [] (hM p s14 τ) ⟨trivial, (Eq.symm H)⟩
    · rw [q15] at H; exact False.elim H
theorem g130_36_ok {l : Launch} {Ω : xo_O} (htr : xH l) (d : Nat) (p : Nat) (τ : Nat → Nat → Int64) (x1 : Int32) (x2 : Int32) (x3 : Int32) (x4 : Int32) (σ : xS) (r : xv_R) (H : xo (xB false p τ r) (g130_36 x1 x2 x3 x4 σ)) : xv l Ω (d + 1) 0 0 130 36 [none, some (.int x1), some (.int x2), some (.int x3), some (.int x4), none] [] (hM p σ τ) r := by
  unfold g130_36 at H
  refine xp_ok htr 2 (d + 1) 0 0 [] 130 36 [none, some (.int x1), some (.int x2), some (.int x3), some (.int x4), none] [] (hM p σ τ) ?_
  show xv l Ω (d + 1) 0 0 130 41 [none, some (.int x1), some (.int x2), some (.int x3), some (.int x4), none] [.int 1] (hM p σ τ) r
  exact xv_sub (L' := [none, some (.int x1), some (.int x2), some (.int x3), some (.int x4), none]) ⟨rfl, ⟨rfl, ⟨rfl, ⟨rfl, trivial⟩⟩⟩⟩ (g130_41_ok htr d p τ x1 x2 x3 x4 1 σ r H)
theorem g130_run {l : Launch} {Ω : xo_O} (htr : xH l) (d : Nat) (p : Nat) (τ : Nat → Nat → Int64) (a0 : Int32) (a1 : Int32) (a2 : Int32) (σ : xS) {q : xQ} (hq : g130 a0 a1 a2 σ = some q) : xv l Ω (d + 1) 0 0 130 0 (xs_loc (xm_l 130) [.int a0, .int a1, .int a2]) [] (hM p σ τ) (xq_R false p τ q) := by
  have H : xo (xB false p τ (xq_R false p τ q)) (g130 a0 a1 a2 σ) := by rw [hq]; exact rfl
  generalize xq_R false p τ q = r at H ⊢
  show xv l Ω (d + 1) 0 0 130 0 [some (.int a0), some (.int a1), some (.int a2), none, none, none] [] (hM p σ τ) r
  unfold g130 at H
  refine xp_ok htr 8 (d + 1) 0 0 [] 130 0 [some (.int a0), some (.int a1), some (.int a2), none, none, none] [] (hM p σ τ) ?_
  show xv l Ω (d + 1) 0 0 130 9 [some (.int a0), some (.int a1), some (.int a2), some (.int (a0 + 2)), some (.int (a1 + 2)), none] [] (hM p σ τ) r
  cases q3 : g28 a2 a0 σ with
  | none => rw [q3] at H; exact False.elim H
  | some q30 =>
    obtain ⟨v1 | v1, s2⟩ := q30
    · rw [q3] at H; dsimp only at H
      have hc := g28_run (Ω := Ω) htr d p τ a2 a0 σ q3
      refine xp_ok htr 3 (d + 1) 0 0 [eC (some (.int v1)) (hM p s2 τ)] 130 9 [some (.int a0), some (.int a1), some (.int a2), some (.int (a0 + 2)), some (.int (a1 + 2)), none] [] (hM p σ τ) ⟨hc, ?_⟩
      show xv l Ω (d + 1) 0 0 130 14 [some (.int a0), some (.int a1), some (.int a2), some (.int (a0 + 2)), some (.int (a1 + 2)), none] [.int v1] (hM p s2 τ) r
      by_cases h4 : v1 = 0
      · rw [if_pos h4] at H
        refine xp_ok htr 1 (d + 1) 0 0 [eB true] 130 14 [some (.int a0), some (.int a1), some (.int a2), some (.int (a0 + 2)), some (.int (a1 + 2)), none] [.int v1] (hM p s2 τ) ⟨h4, ?_⟩
        show xv l Ω (d + 1) 0 0 130 19 [some (.int a0), some (.int a1), some (.int a2), some (.int (a0 + 2)), some (.int (a1 + 2)), none] [] (hM p s2 τ) r
        cases q7 : g28 a2 a1 s2 with
        | none => rw [q7] at H; exact False.elim H
        | some q70 =>
          obtain ⟨v5 | v5, s6⟩ := q70
          · rw [q7] at H; dsimp only at H
            have hc := g28_run (Ω := Ω) htr d p τ a2 a1 s2 q7
            refine xp_ok htr 3 (d + 1) 0 0 [eC (some (.int v5)) (hM p s6 τ)] 130 19 [some (.int a0), some (.int a1), some (.int a2), some (.int (a0 + 2)), some (.int (a1 + 2)), none] [] (hM p s2 τ) ⟨hc, ?_⟩
            show xv l Ω (d + 1) 0 0 130 24 [some (.int a0), some (.int a1), some (.int a2), some (.int (a0 + 2)), some (.int (a1 + 2)), none] [.int v5] (hM p s6 τ) r
            by_cases h8 : v5 = 0
            · rw [if_pos h8] at H
              refine xp_ok htr 1 (d + 1) 0 0 [eB false] 130 24 [some (.int a0), some (.int a1), some (.int a2), some (.int (a0 + 2)), some (.int (a1 + 2)), none] [.int v5] (hM p s6 τ) ⟨h8, ?_⟩
              show xv l Ω (d + 1) 0 0 130 27 [some (.int a0), some (.int a1), some (.int a2), some (.int (a0 + 2)), some (.int (a1 + 2)), none] [] (hM p s6 τ) r
              cases q11 : g28 a2 (a1 + 2) s6 with
              | none => rw [q11] at H; exact False.elim H
              | some q110 =>
                obtain ⟨v9 | v9, s10⟩ := q110
                · rw [q11] at H; dsimp only at H
                  have hc := g28_run (Ω := Ω) htr d p τ a2 (a1 + 2) s6 q11
                  refine xp_ok htr 3 (d + 1) 0 0 [eC (some (.int v9)) (hM p s10 τ)] 130 27 [some (.int a0), some (.int a1), some (.int a2), some (.int (a0 + 2)), some (.int (a1 + 2)), none] [] (hM p s6 τ) ⟨hc, ?_⟩
                  show xv l Ω (d + 1) 0 0 130 33 [some (.int a0), some (.int a1), some (.int a2), some (.int (a0 + 2)), some (.int (a1 + 2)), none] [.int v9] (hM p s10 τ) r
                  by_cases h12 : v9 = 0
                  · rw [if_pos h12] at H
                    refine xp_ok htr 1 (d + 1) 0 0 [eB true] 130 33 [some (.int a0), some (.int a1), some (.int a2), some (.int (a0 + 2)), some (.int (a1 + 2)), none] [.int v9] (hM p s10 τ) ⟨h12, ?_⟩
                    show xv l Ω (d + 1) 0 0 130 40 [some (.int a0), some (.int a1), some (.int a2), some (.int (a0 + 2)), some (.int (a1 + 2)), none] [] (hM p s10 τ) r
                    refine xp_ok htr 1 (d + 1) 0 0 [] 130 40 [some (.int a0), some (.int a1), some (.int a2), some (.int (a0 + 2)), some (.int (a1 + 2)), none] [] (hM p s10 τ) ?_
                    show xv l Ω (d + 1) 0 0 130 41 [some (.int a0), some (.int a1), some (.int a2), some (.int (a0 + 2)), some (.int (a1 + 2)), none] [.int 0] (hM p s10 τ) r
                    exact xv_sub (L' := [none, some (.int a1), some (.int a2), some (.int (a0 + 2)), some (.int (a1 + 2)), none]) ⟨rfl, ⟨rfl, ⟨rfl, ⟨rfl, trivial⟩⟩⟩⟩ (g130_41_ok htr d p τ a1 a2 (a0 + 2) (a1 + 2) 0 s10 r H)
                  · rw [if_neg h12] at H
                    refine xp_ok htr 1 (d + 1) 0 0 [eB false] 130 33 [some (.int a0), some (.int a1), some (.int a2), some (.int (a0 + 2)), some (.int (a1 + 2)), none] [.int v9] (hM p s10 τ) ⟨h12, ?_⟩
                    show xv l Ω (d + 1) 0 0 130 36 [some (.int a0), some (.int a1), some (.int a2), some (.int (a0 + 2)), some (.int (a1 + 2)), none] [] (hM p s10 τ) r
                    exact xv_sub (L' := [none, some (.int a1), some (.int a2), some (.int (a0 + 2)), some (.int (a1 + 2)), none]) ⟨rfl, ⟨rfl, ⟨rfl, ⟨rfl, trivial⟩⟩⟩⟩ (g130_36_ok htr d p τ a1 a2 (a0 + 2) (a1 + 2) s10 r H)
                · rw [q11] at H; exact False.elim H
            · rw [if_neg h8] at H
              refine xp_ok htr 1 (d + 1) 0 0 [eB true] 130 24 [some (.int a0), some (.int a1), some (.int a2), some (.int (a0 + 2)), some (.int (a1 + 2)), none] [.int v5] (hM p s6 τ) ⟨h8, ?_⟩
              show xv l Ω (d + 1) 0 0 130 36 [some (.int a0), some (.int a1), some (.int a2), some (.int (a0 + 2)), some (.int (a1 + 2)), none] [] (hM p s6 τ) r
              exact xv_sub (L' := [none, some (.int a1), some (.int a2), some (.int (a0 + 2)), some (.int (a1 + 2)), none]) ⟨rfl, ⟨rfl, ⟨rfl, ⟨rfl, trivial⟩⟩⟩⟩ (g130_36_ok htr d p τ a1 a2 (a0 + 2) (a1 + 2) s6 r H)
          · rw [q7] at H; exact False.elim H
      · rw [if_neg h4] at H
        refine xp_ok htr 1 (d + 1) 0 0 [eB false] 130 14 [some (.int a0), some (.int a1), some (.int a2), some (.int (a0 + 2)), some (.int (a1 + 2)), none] [.int v1] (hM p s2 τ) ⟨h4, ?_⟩
        show xv l Ω (d + 1) 0 0 130 17 [some (.int a0), some (.int a1), some (.int a2), some (.int (a0 + 2)), some (.int (a1 + 2)), none] [] (hM p s2 τ) r
        exact xp_ok htr 2 (d + 1) 0 0 [] 130 17 [some (.int a0), some (.int a1), some (.int a2), some (.int (a0 + 2)), some (.int (a1 + 2)), none] [] (hM p s2 τ) ⟨trivial, (Eq.symm H)⟩
    · rw [q3] at H; exact False.elim H
/- AccessDesk$Judge.combineAll -/
def g131_60 (p : Nat) (x1 : Int32) (x2 : Int32) (x3 : Int32) (σ : xS) : Option ((Int32 × Int32 × Int32 × xS) ⊕ xQ) := some (Sum.inl (x1, x2, (x3 + 1), σ))
def g131_11b (p : Nat) (x1 : Int32) (x2 : Int32) (x3 : Int32) (σ : xS) : Option ((Int32 × Int32 × Int32 × xS) ⊕ xQ) := (if (σ (59 - p) 7) ≤ x3 then some (Sum.inr ((Sum.inl 0, σ))) else (bif xn x3 40 then (if (σ ((59 - p) + 2) (Int32.toNatClampNeg x3)) = x1 then (if (σ 48 (Int32.toNatClampNeg x3)) = x2 then (bif xn x1 40 then g131_60 p x1 x2 x3 (xh_ui σ 49 (Int32.toNatClampNeg x1) ((σ 49 (Int32.toNatClampNeg x1)) ||| (σ 49 (Int32.toNatClampNeg x3)))) else none) else g131_60 p x1 x2 x3 σ) else g131_60 p x1 x2 x3 σ) else none))
def g131_11 (p : Nat) (x1 : Int32) (x2 : Int32) (x3 : Int32) (σ : xS) : Option xQ := xlo (fun a : Int32 × Int32 × Int32 × xS => g131_11b p a.1 a.2.1 a.2.2.1 a.2.2.2) 1000 (x1, x2, x3, σ)
def g131 (p : Nat) (a1 : Int32) (a2 : Int32) (σ : xS) : xO := (bif xn a1 40 then g131_11 p a1 a2 (a1 + 1) (xh_ui σ 48 (Int32.toNatClampNeg a1) a2) else none)
def a131_11 (l : Launch) (Ω : xo_O) (d p : Nat) (τ : Nat → Nat → Int64) (r : xv_R) : Int32 × Int32 × Int32 × xS → Prop := fun a => xv l Ω d 0 0 131 11 [some (.ref 34), some (.int a.1), some (.int a.2.1), some (.int a.2.2.1)] [] (hM p a.2.2.2 τ) r
theorem g131_60_ok_23 {l : Launch} {Ω : xo_O} (htr : xH l) (d : Nat) (τ : Nat → Nat → Int64) (x1 : Int32) (x2 : Int32) (x3 : Int32) (σ : xS) (r : xv_R) (H : xo (xd (a131_11 l Ω d 23 τ r) (xB true 23 τ r)) (g131_60 23 x1 x2 x3 σ)) : xv l Ω d 0 0 131 60 [some (.ref 34), some (.int x1), some (.int x2), some (.int x3)] [] (hM 23 σ τ) r := by
  unfold g131_60 at H
  refine xp_ok htr 2 d 0 0 [] 131 60 [some (.ref 34), some (.int x1), some (.int x2), some (.int x3)] [] (hM 23 σ τ) ?_
  show xv l Ω d 0 0 131 11 [some (.ref 34), some (.int x1), some (.int x2), some (.int (x3 + 1))] [] (hM 23 σ τ) r
  exact xv_sub (L' := [some (.ref 34), some (.int x1), some (.int x2), some (.int (x3 + 1))]) ⟨rfl, ⟨rfl, ⟨rfl, ⟨rfl, trivial⟩⟩⟩⟩ H
theorem g131_11b_ok_23 {l : Launch} {Ω : xo_O} (htr : xH l) (d : Nat) (τ : Nat → Nat → Int64) (x1 : Int32) (x2 : Int32) (x3 : Int32) (σ : xS) (r : xv_R) (H : xo (xd (a131_11 l Ω d 23 τ r) (xB true 23 τ r)) (g131_11b 23 x1 x2 x3 σ)) : xv l Ω d 0 0 131 11 [some (.ref 34), some (.int x1), some (.int x2), some (.int x3)] [] (hM 23 σ τ) r := by
  unfold g131_11b at H
  by_cases h2 : (σ (59 - 23) 7) ≤ x3
  · rw [if_pos h2] at H
    refine xp_ok htr 5 d 0 0 [eB true] 131 11 [some (.ref 34), some (.int x1), some (.int x2), some (.int x3)] [] (hM 23 σ τ) ⟨h2, ?_⟩
    show xv l Ω d 0 0 131 66 [some (.ref 34), some (.int x1), some (.int x2), some (.int x3)] [] (hM 23 σ τ) r
    exact xp_ok htr 1 d 0 0 [] 131 66 [some (.ref 34), some (.int x1), some (.int x2), some (.int x3)] [] (hM 23 σ τ) ⟨trivial, (Eq.symm H)⟩
  · rw [if_neg h2] at H
    refine xp_ok htr 5 d 0 0 [eB false] 131 11 [some (.ref 34), some (.int x1), some (.int x2), some (.int x3)] [] (hM 23 σ τ) ⟨h2, ?_⟩
    show xv l Ω d 0 0 131 22 [some (.ref 34), some (.int x1), some (.int x2), some (.int x3)] [] (hM 23 σ τ) r
    cases g3 : xn x3 40 with
    | false => rw [g3, cond_false] at H; exact False.elim H
    | true =>
      rw [g3, cond_true] at H
      by_cases h4 : (σ ((59 - 23) + 2) (Int32.toNatClampNeg x3)) = x1
      · rw [if_pos h4] at H
        refine xp_ok htr 7 d 0 0 [eB false] 131 22 [some (.ref 34), some (.int x1), some (.int x2), some (.int x3)] [] (hM 23 σ τ) ⟨(xn_in g3), h4, ?_⟩
        show xv l Ω d 0 0 131 35 [some (.ref 34), some (.int x1), some (.int x2), some (.int x3)] [] (hM 23 σ τ) r
        by_cases h5 : (σ 48 (Int32.toNatClampNeg x3)) = x2
        · rw [if_pos h5] at H
          refine xp_ok htr 6 d 0 0 [eB false] 131 35 [some (.ref 34), some (.int x1), some (.int x2), some (.int x3)] [] (hM 23 σ τ) ⟨(xn_in g3), h5, ?_⟩
          show xv l Ω d 0 0 131 45 [some (.ref 34), some (.int x1), some (.int x2), some (.int x3)] [] (hM 23 σ τ) r
          cases g6 : xn x1 40 with
          | false => rw [g6, cond_false] at H; exact False.elim H
          | true =>
            rw [g6, cond_true] at H
            refine xp_ok htr 8 d 0 0 [] 131 45 [some (.ref 34), some (.int x1), some (.int x2), some (.int x3)] [] (hM 23 σ τ) ⟨(xn_in g6), ?_⟩
            show xv l Ω d 0 0 131 57 [some (.ref 34), some (.int x1), some (.int x2), some (.int x3)] [.int x3, .ref 49, .int (σ 49 (Int32.toNatClampNeg x1)), .int x1, .ref 49] (hM 23 σ τ) r
            refine xp_ok htr 3 d 0 0 [] 131 57 [some (.ref 34), some (.int x1), some (.int x2), some (.int x3)] [.int x3, .ref 49, .int (σ 49 (Int32.toNatClampNeg x1)), .int x1, .ref 49] (hM 23 σ τ) ⟨(xn_in g3), (xn_in g6), ?_⟩
            show xv l Ω d 0 0 131 60 [some (.ref 34), some (.int x1), some (.int x2), some (.int x3)] [] (hM 23 (xh_ui σ 49 (Int32.toNatClampNeg x1) ((σ 49 (Int32.toNatClampNeg x1)) ||| (σ 49 (Int32.toNatClampNeg x3)))) τ) r
            exact xv_sub (L' := [some (.ref 34), some (.int x1), some (.int x2), some (.int x3)]) ⟨rfl, ⟨rfl, ⟨rfl, ⟨rfl, trivial⟩⟩⟩⟩ (g131_60_ok_23 htr d  τ x1 x2 x3 (xh_ui σ 49 (Int32.toNatClampNeg x1) ((σ 49 (Int32.toNatClampNeg x1)) ||| (σ 49 (Int32.toNatClampNeg x3)))) r H)
        · rw [if_neg h5] at H
          refine xp_ok htr 6 d 0 0 [eB true] 131 35 [some (.ref 34), some (.int x1), some (.int x2), some (.int x3)] [] (hM 23 σ τ) ⟨(xn_in g3), h5, ?_⟩
          show xv l Ω d 0 0 131 60 [some (.ref 34), some (.int x1), some (.int x2), some (.int x3)] [] (hM 23 σ τ) r
          exact xv_sub (L' := [some (.ref 34), some (.int x1), some (.int x2), some (.int x3)]) ⟨rfl, ⟨rfl, ⟨rfl, ⟨rfl, trivial⟩⟩⟩⟩ (g131_60_ok_23 htr d  τ x1 x2 x3 σ r H)
      · rw [if_neg h4] at H
        refine xp_ok htr 7 d 0 0 [eB true] 131 22 [some (.ref 34), some (.int x1), some (.int x2), some (.int x3)] [] (hM 23 σ τ) ⟨(xn_in g3), h4, ?_⟩
        show xv l Ω d 0 0 131 60 [some (.ref 34), some (.int x1), some (.int x2), some (.int x3)] [] (hM 23 σ τ) r
        exact xv_sub (L' := [some (.ref 34), some (.int x1), some (.int x2), some (.int x3)]) ⟨rfl, ⟨rfl, ⟨rfl, ⟨rfl, trivial⟩⟩⟩⟩ (g131_60_ok_23 htr d  τ x1 x2 x3 σ r H)
theorem g131_11_ok_23 {l : Launch} {Ω : xo_O} (htr : xH l) (d : Nat) (τ : Nat → Nat → Int64) (x1 : Int32) (x2 : Int32) (x3 : Int32) (σ : xS) (r : xv_R) (H : xo (xB true 23 τ r) (g131_11 23 x1 x2 x3 σ)) : xv l Ω d 0 0 131 11 [some (.ref 34), some (.int x1), some (.int x2), some (.int x3)] [] (hM 23 σ τ) r :=
  xlo_ok (A := a131_11 l Ω d 23 τ r) (fun a H => g131_11b_ok_23 htr d  τ a.1 a.2.1 a.2.2.1 a.2.2.2 r H) 1000 (x1, x2, x3, σ) H
theorem g131_run_23 {l : Launch} {Ω : xo_O} (htr : xH l) (d : Nat) (τ : Nat → Nat → Int64) (a1 : Int32) (a2 : Int32) (σ : xS) {q : xQ} (hq : g131 23 a1 a2 σ = some q) : xv l Ω d 0 0 131 0 (xs_loc (xm_l 131) [.ref 34, .int a1, .int a2]) [] (hM 23 σ τ) (xq_R true 23 τ q) := by
  have H : xo (xB true 23 τ (xq_R true 23 τ q)) (g131 23 a1 a2 σ) := by rw [hq]; exact rfl
  generalize xq_R true 23 τ q = r at H ⊢
  show xv l Ω d 0 0 131 0 [some (.ref 34), some (.int a1), some (.int a2), none] [] (hM 23 σ τ) r
  unfold g131 at H
  cases g1 : xn a1 40 with
  | false => rw [g1, cond_false] at H; exact False.elim H
  | true =>
    rw [g1, cond_true] at H
    refine xp_ok htr 8 d 0 0 [] 131 0 [some (.ref 34), some (.int a1), some (.int a2), none] [] (hM 23 σ τ) ⟨(xn_in g1), ?_⟩
    show xv l Ω d 0 0 131 10 [some (.ref 34), some (.int a1), some (.int a2), none] [.int (a1 + 1)] (hM 23 (xh_ui σ 48 (Int32.toNatClampNeg a1) a2) τ) r
    refine xp_ok htr 1 d 0 0 [] 131 10 [some (.ref 34), some (.int a1), some (.int a2), none] [.int (a1 + 1)] (hM 23 (xh_ui σ 48 (Int32.toNatClampNeg a1) a2) τ) ?_
    show xv l Ω d 0 0 131 11 [some (.ref 34), some (.int a1), some (.int a2), some (.int (a1 + 1))] [] (hM 23 (xh_ui σ 48 (Int32.toNatClampNeg a1) a2) τ) r
    exact xv_sub (L' := [some (.ref 34), some (.int a1), some (.int a2), some (.int (a1 + 1))]) ⟨rfl, ⟨rfl, ⟨rfl, ⟨rfl, trivial⟩⟩⟩⟩ (g131_11_ok_23 htr d  τ a1 a2 (a1 + 1) (xh_ui σ 48 (Int32.toNatClampNeg a1) a2) r H)
theorem g131_60_ok_36 {l : Launch} {Ω : xo_O} (htr : xH l) (d : Nat) (τ : Nat → Nat → Int64) (x1 : Int32) (x2 : Int32) (x3 : Int32) (σ : xS) (r : xv_R) (H : xo (xd (a131_11 l Ω d 36 τ r) (xB true 36 τ r)) (g131_60 36 x1 x2 x3 σ)) : xv l Ω d 0 0 131 60 [some (.ref 34), some (.int x1), some (.int x2), some (.int x3)] [] (hM 36 σ τ) r := by
  unfold g131_60 at H
  refine xp_ok htr 2 d 0 0 [] 131 60 [some (.ref 34), some (.int x1), some (.int x2), some (.int x3)] [] (hM 36 σ τ) ?_
  show xv l Ω d 0 0 131 11 [some (.ref 34), some (.int x1), some (.int x2), some (.int (x3 + 1))] [] (hM 36 σ τ) r
  exact xv_sub (L' := [some (.ref 34), some (.int x1), some (.int x2), some (.int (x3 + 1))]) ⟨rfl, ⟨rfl, ⟨rfl, ⟨rfl, trivial⟩⟩⟩⟩ H
theorem g131_11b_ok_36 {l : Launch} {Ω : xo_O} (htr : xH l) (d : Nat) (τ : Nat → Nat → Int64) (x1 : Int32) (x2 : Int32) (x3 : Int32) (σ : xS) (r : xv_R) (H : xo (xd (a131_11 l Ω d 36 τ r) (xB true 36 τ r)) (g131_11b 36 x1 x2 x3 σ)) : xv l Ω d 0 0 131 11 [some (.ref 34), some (.int x1), some (.int x2), some (.int x3)] [] (hM 36 σ τ) r := by
  unfold g131_11b at H
  by_cases h2 : (σ (59 - 36) 7) ≤ x3
  · rw [if_pos h2] at H
    refine xp_ok htr 5 d 0 0 [eB true] 131 11 [some (.ref 34), some (.int x1), some (.int x2), some (.int x3)] [] (hM 36 σ τ) ⟨h2, ?_⟩
    show xv l Ω d 0 0 131 66 [some (.ref 34), some (.int x1), some (.int x2), some (.int x3)] [] (hM 36 σ τ) r
    exact xp_ok htr 1 d 0 0 [] 131 66 [some (.ref 34), some (.int x1), some (.int x2), some (.int x3)] [] (hM 36 σ τ) ⟨trivial, (Eq.symm H)⟩
  · rw [if_neg h2] at H
    refine xp_ok htr 5 d 0 0 [eB false] 131 11 [some (.ref 34), some (.int x1), some (.int x2), some (.int x3)] [] (hM 36 σ τ) ⟨h2, ?_⟩
    show xv l Ω d 0 0 131 22 [some (.ref 34), some (.int x1), some (.int x2), some (.int x3)] [] (hM 36 σ τ) r
    cases g3 : xn x3 40 with
    | false => rw [g3, cond_false] at H; exact False.elim H
    | true =>
      rw [g3, cond_true] at H
      by_cases h4 : (σ ((59 - 36) + 2) (Int32.toNatClampNeg x3)) = x1
      · rw [if_pos h4] at H
        refine xp_ok htr 7 d 0 0 [eB false] 131 22 [some (.ref 34), some (.int x1), some (.int x2), some (.int x3)] [] (hM 36 σ τ) ⟨(xn_in g3), h4, ?_⟩
        show xv l Ω d 0 0 131 35 [some (.ref 34), some (.int x1), some (.int x2), some (.int x3)] [] (hM 36 σ τ) r
        by_cases h5 : (σ 48 (Int32.toNatClampNeg x3)) = x2
        · rw [if_pos h5] at H
          refine xp_ok htr 6 d 0 0 [eB false] 131 35 [some (.ref 34), some (.int x1), some (.int x2), some (.int x3)] [] (hM 36 σ τ) ⟨(xn_in g3), h5, ?_⟩
          show xv l Ω d 0 0 131 45 [some (.ref 34), some (.int x1), some (.int x2), some (.int x3)] [] (hM 36 σ τ) r
          cases g6 : xn x1 40 with
          | false => rw [g6, cond_false] at H; exact False.elim H
          | true =>
            rw [g6, cond_true] at H
            refine xp_ok htr 8 d 0 0 [] 131 45 [some (.ref 34), some (.int x1), some (.int x2), some (.int x3)] [] (hM 36 σ τ) ⟨(xn_in g6), ?_⟩
            show xv l Ω d 0 0 131 57 [some (.ref 34), some (.int x1), some (.int x2), some (.int x3)] [.int x3, .ref 49, .int (σ 49 (Int32.toNatClampNeg x1)), .int x1, .ref 49] (hM 36 σ τ) r
            refine xp_ok htr 3 d 0 0 [] 131 57 [some (.ref 34), some (.int x1), some (.int x2), some (.int x3)] [.int x3, .ref 49, .int (σ 49 (Int32.toNatClampNeg x1)), .int x1, .ref 49] (hM 36 σ τ) ⟨(xn_in g3), (xn_in g6), ?_⟩
            show xv l Ω d 0 0 131 60 [some (.ref 34), some (.int x1), some (.int x2), some (.int x3)] [] (hM 36 (xh_ui σ 49 (Int32.toNatClampNeg x1) ((σ 49 (Int32.toNatClampNeg x1)) ||| (σ 49 (Int32.toNatClampNeg x3)))) τ) r
            exact xv_sub (L' := [some (.ref 34), some (.int x1), some (.int x2), some (.int x3)]) ⟨rfl, ⟨rfl, ⟨rfl, ⟨rfl, trivial⟩⟩⟩⟩ (g131_60_ok_36 htr d  τ x1 x2 x3 (xh_ui σ 49 (Int32.toNatClampNeg x1) ((σ 49 (Int32.toNatClampNeg x1)) ||| (σ 49 (Int32.toNatClampNeg x3)))) r H)
        · rw [if_neg h5] at H
          refine xp_ok htr 6 d 0 0 [eB true] 131 35 [some (.ref 34), some (.int x1), some (.int x2), some (.int x3)] [] (hM 36 σ τ) ⟨(xn_in g3), h5, ?_⟩
          show xv l Ω d 0 0 131 60 [some (.ref 34), some (.int x1), some (.int x2), some (.int x3)] [] (hM 36 σ τ) r
          exact xv_sub (L' := [some (.ref 34), some (.int x1), some (.int x2), some (.int x3)]) ⟨rfl, ⟨rfl, ⟨rfl, ⟨rfl, trivial⟩⟩⟩⟩ (g131_60_ok_36 htr d  τ x1 x2 x3 σ r H)
      · rw [if_neg h4] at H
        refine xp_ok htr 7 d 0 0 [eB true] 131 22 [some (.ref 34), some (.int x1), some (.int x2), some (.int x3)] [] (hM 36 σ τ) ⟨(xn_in g3), h4, ?_⟩
        show xv l Ω d 0 0 131 60 [some (.ref 34), some (.int x1), some (.int x2), some (.int x3)] [] (hM 36 σ τ) r
        exact xv_sub (L' := [some (.ref 34), some (.int x1), some (.int x2), some (.int x3)]) ⟨rfl, ⟨rfl, ⟨rfl, ⟨rfl, trivial⟩⟩⟩⟩ (g131_60_ok_36 htr d  τ x1 x2 x3 σ r H)
theorem g131_11_ok_36 {l : Launch} {Ω : xo_O} (htr : xH l) (d : Nat) (τ : Nat → Nat → Int64) (x1 : Int32) (x2 : Int32) (x3 : Int32) (σ : xS) (r : xv_R) (H : xo (xB true 36 τ r) (g131_11 36 x1 x2 x3 σ)) : xv l Ω d 0 0 131 11 [some (.ref 34), some (.int x1), some (.int x2), some (.int x3)] [] (hM 36 σ τ) r :=
  xlo_ok (A := a131_11 l Ω d 36 τ r) (fun a H => g131_11b_ok_36 htr d  τ a.1 a.2.1 a.2.2.1 a.2.2.2 r H) 1000 (x1, x2, x3, σ) H
theorem g131_run_36 {l : Launch} {Ω : xo_O} (htr : xH l) (d : Nat) (τ : Nat → Nat → Int64) (a1 : Int32) (a2 : Int32) (σ : xS) {q : xQ} (hq : g131 36 a1 a2 σ = some q) : xv l Ω d 0 0 131 0 (xs_loc (xm_l 131) [.ref 34, .int a1, .int a2]) [] (hM 36 σ τ) (xq_R true 36 τ q) := by
  have H : xo (xB true 36 τ (xq_R true 36 τ q)) (g131 36 a1 a2 σ) := by rw [hq]; exact rfl
  generalize xq_R true 36 τ q = r at H ⊢
  show xv l Ω d 0 0 131 0 [some (.ref 34), some (.int a1), some (.int a2), none] [] (hM 36 σ τ) r
  unfold g131 at H
  cases g1 : xn a1 40 with
  | false => rw [g1, cond_false] at H; exact False.elim H
  | true =>
    rw [g1, cond_true] at H
    refine xp_ok htr 8 d 0 0 [] 131 0 [some (.ref 34), some (.int a1), some (.int a2), none] [] (hM 36 σ τ) ⟨(xn_in g1), ?_⟩
    show xv l Ω d 0 0 131 10 [some (.ref 34), some (.int a1), some (.int a2), none] [.int (a1 + 1)] (hM 36 (xh_ui σ 48 (Int32.toNatClampNeg a1) a2) τ) r
    refine xp_ok htr 1 d 0 0 [] 131 10 [some (.ref 34), some (.int a1), some (.int a2), none] [.int (a1 + 1)] (hM 36 (xh_ui σ 48 (Int32.toNatClampNeg a1) a2) τ) ?_
    show xv l Ω d 0 0 131 11 [some (.ref 34), some (.int a1), some (.int a2), some (.int (a1 + 1))] [] (hM 36 (xh_ui σ 48 (Int32.toNatClampNeg a1) a2) τ) r
    exact xv_sub (L' := [some (.ref 34), some (.int a1), some (.int a2), some (.int (a1 + 1))]) ⟨rfl, ⟨rfl, ⟨rfl, ⟨rfl, trivial⟩⟩⟩⟩ (g131_11_ok_36 htr d  τ a1 a2 (a1 + 1) (xh_ui σ 48 (Int32.toNatClampNeg a1) a2) r H)
/- AccessDesk$Judge.firstApplicable -/
def g132_39 (p : Nat) (x1 : Int32) (x2 : Int32) (σ : xS) : Option ((Int32 × Int32 × xS) ⊕ xQ) := some (Sum.inl (x1, (x2 + 1), σ))
def g132_4b (p : Nat) (x1 : Int32) (x2 : Int32) (σ : xS) : Option ((Int32 × Int32 × xS) ⊕ xQ) := (if (σ (59 - p) 7) ≤ x2 then some (Sum.inr ((Sum.inl (-1), σ))) else (bif xn x2 40 then (if (σ ((59 - p) + 2) (Int32.toNatClampNeg x2)) = x1 then (if (σ 48 (Int32.toNatClampNeg x2)) = 0 then g132_39 p x1 x2 σ else some (Sum.inr ((Sum.inl x2, σ)))) else g132_39 p x1 x2 σ) else none))
def g132_4 (p : Nat) (x1 : Int32) (x2 : Int32) (σ : xS) : Option xQ := xlo (fun a : Int32 × Int32 × xS => g132_4b p a.1 a.2.1 a.2.2) 1000 (x1, x2, σ)
def g132 (p : Nat) (a1 : Int32) (σ : xS) : xO := g132_4 p a1 (a1 + 1) σ
def a132_4 (l : Launch) (Ω : xo_O) (d p : Nat) (τ : Nat → Nat → Int64) (r : xv_R) : Int32 × Int32 × xS → Prop := fun a => xv l Ω d 0 0 132 4 [some (.ref 34), some (.int a.1), some (.int a.2.1)] [] (hM p a.2.2 τ) r
theorem g132_39_ok_23 {l : Launch} {Ω : xo_O} (htr : xH l) (d : Nat) (τ : Nat → Nat → Int64) (x1 : Int32) (x2 : Int32) (σ : xS) (r : xv_R) (H : xo (xd (a132_4 l Ω d 23 τ r) (xB false 23 τ r)) (g132_39 23 x1 x2 σ)) : xv l Ω d 0 0 132 39 [some (.ref 34), some (.int x1), some (.int x2)] [] (hM 23 σ τ) r := by
  unfold g132_39 at H
  refine xp_ok htr 2 d 0 0 [] 132 39 [some (.ref 34), some (.int x1), some (.int x2)] [] (hM 23 σ τ) ?_
  show xv l Ω d 0 0 132 4 [some (.ref 34), some (.int x1), some (.int (x2 + 1))] [] (hM 23 σ τ) r
  exact xv_sub (L' := [some (.ref 34), some (.int x1), some (.int (x2 + 1))]) ⟨rfl, ⟨rfl, ⟨rfl, trivial⟩⟩⟩ H
theorem g132_4b_ok_23 {l : Launch} {Ω : xo_O} (htr : xH l) (d : Nat) (τ : Nat → Nat → Int64) (x1 : Int32) (x2 : Int32) (σ : xS) (r : xv_R) (H : xo (xd (a132_4 l Ω d 23 τ r) (xB false 23 τ r)) (g132_4b 23 x1 x2 σ)) : xv l Ω d 0 0 132 4 [some (.ref 34), some (.int x1), some (.int x2)] [] (hM 23 σ τ) r := by
  unfold g132_4b at H
  by_cases h1 : (σ (59 - 23) 7) ≤ x2
  · rw [if_pos h1] at H
    refine xp_ok htr 5 d 0 0 [eB true] 132 4 [some (.ref 34), some (.int x1), some (.int x2)] [] (hM 23 σ τ) ⟨h1, ?_⟩
    show xv l Ω d 0 0 132 45 [some (.ref 34), some (.int x1), some (.int x2)] [] (hM 23 σ τ) r
    exact xp_ok htr 2 d 0 0 [] 132 45 [some (.ref 34), some (.int x1), some (.int x2)] [] (hM 23 σ τ) ⟨trivial, (Eq.symm H)⟩
  · rw [if_neg h1] at H
    refine xp_ok htr 5 d 0 0 [eB false] 132 4 [some (.ref 34), some (.int x1), some (.int x2)] [] (hM 23 σ τ) ⟨h1, ?_⟩
    show xv l Ω d 0 0 132 15 [some (.ref 34), some (.int x1), some (.int x2)] [] (hM 23 σ τ) r
    cases g2 : xn x2 40 with
    | false => rw [g2, cond_false] at H; exact False.elim H
    | true =>
      rw [g2, cond_true] at H
      by_cases h3 : (σ ((59 - 23) + 2) (Int32.toNatClampNeg x2)) = x1
      · rw [if_pos h3] at H
        refine xp_ok htr 7 d 0 0 [eB false] 132 15 [some (.ref 34), some (.int x1), some (.int x2)] [] (hM 23 σ τ) ⟨(xn_in g2), h3, ?_⟩
        show xv l Ω d 0 0 132 28 [some (.ref 34), some (.int x1), some (.int x2)] [] (hM 23 σ τ) r
        by_cases h4 : (σ 48 (Int32.toNatClampNeg x2)) = 0
        · rw [if_pos h4] at H
          refine xp_ok htr 5 d 0 0 [eB true] 132 28 [some (.ref 34), some (.int x1), some (.int x2)] [] (hM 23 σ τ) ⟨(xn_in g2), h4, ?_⟩
          show xv l Ω d 0 0 132 39 [some (.ref 34), some (.int x1), some (.int x2)] [] (hM 23 σ τ) r
          exact xv_sub (L' := [some (.ref 34), some (.int x1), some (.int x2)]) ⟨rfl, ⟨rfl, ⟨rfl, trivial⟩⟩⟩ (g132_39_ok_23 htr d  τ x1 x2 σ r H)
        · rw [if_neg h4] at H
          refine xp_ok htr 5 d 0 0 [eB false] 132 28 [some (.ref 34), some (.int x1), some (.int x2)] [] (hM 23 σ τ) ⟨(xn_in g2), h4, ?_⟩
          show xv l Ω d 0 0 132 37 [some (.ref 34), some (.int x1), some (.int x2)] [] (hM 23 σ τ) r
          exact xp_ok htr 2 d 0 0 [] 132 37 [some (.ref 34), some (.int x1), some (.int x2)] [] (hM 23 σ τ) ⟨trivial, (Eq.symm H)⟩
      · rw [if_neg h3] at H
        refine xp_ok htr 7 d 0 0 [eB true] 132 15 [some (.ref 34), some (.int x1), some (.int x2)] [] (hM 23 σ τ) ⟨(xn_in g2), h3, ?_⟩
        show xv l Ω d 0 0 132 39 [some (.ref 34), some (.int x1), some (.int x2)] [] (hM 23 σ τ) r
        exact xv_sub (L' := [some (.ref 34), some (.int x1), some (.int x2)]) ⟨rfl, ⟨rfl, ⟨rfl, trivial⟩⟩⟩ (g132_39_ok_23 htr d  τ x1 x2 σ r H)
theorem g132_4_ok_23 {l : Launch} {Ω : xo_O} (htr : xH l) (d : Nat) (τ : Nat → Nat → Int64) (x1 : Int32) (x2 : Int32) (σ : xS) (r : xv_R) (H : xo (xB false 23 τ r) (g132_4 23 x1 x2 σ)) : xv l Ω d 0 0 132 4 [some (.ref 34), some (.int x1), some (.int x2)] [] (hM 23 σ τ) r :=
  xlo_ok (A := a132_4 l Ω d 23 τ r) (fun a H => g132_4b_ok_23 htr d  τ a.1 a.2.1 a.2.2 r H) 1000 (x1, x2, σ) H
theorem g132_run_23 {l : Launch} {Ω : xo_O} (htr : xH l) (d : Nat) (τ : Nat → Nat → Int64) (a1 : Int32) (σ : xS) {q : xQ} (hq : g132 23 a1 σ = some q) : xv l Ω d 0 0 132 0 (xs_loc (xm_l 132) [.ref 34, .int a1]) [] (hM 23 σ τ) (xq_R false 23 τ q) := by
  have H : xo (xB false 23 τ (xq_R false 23 τ q)) (g132 23 a1 σ) := by rw [hq]; exact rfl
  generalize xq_R false 23 τ q = r at H ⊢
  show xv l Ω d 0 0 132 0 [some (.ref 34), some (.int a1), none] [] (hM 23 σ τ) r
  unfold g132 at H
  refine xp_ok htr 4 d 0 0 [] 132 0 [some (.ref 34), some (.int a1), none] [] (hM 23 σ τ) ?_
  show xv l Ω d 0 0 132 4 [some (.ref 34), some (.int a1), some (.int (a1 + 1))] [] (hM 23 σ τ) r
  exact xv_sub (L' := [some (.ref 34), some (.int a1), some (.int (a1 + 1))]) ⟨rfl, ⟨rfl, ⟨rfl, trivial⟩⟩⟩ (g132_4_ok_23 htr d  τ a1 (a1 + 1) σ r H)
theorem g132_39_ok_36 {l : Launch} {Ω : xo_O} (htr : xH l) (d : Nat) (τ : Nat → Nat → Int64) (x1 : Int32) (x2 : Int32) (σ : xS) (r : xv_R) (H : xo (xd (a132_4 l Ω d 36 τ r) (xB false 36 τ r)) (g132_39 36 x1 x2 σ)) : xv l Ω d 0 0 132 39 [some (.ref 34), some (.int x1), some (.int x2)] [] (hM 36 σ τ) r := by
  unfold g132_39 at H
  refine xp_ok htr 2 d 0 0 [] 132 39 [some (.ref 34), some (.int x1), some (.int x2)] [] (hM 36 σ τ) ?_
  show xv l Ω d 0 0 132 4 [some (.ref 34), some (.int x1), some (.int (x2 + 1))] [] (hM 36 σ τ) r
  exact xv_sub (L' := [some (.ref 34), some (.int x1), some (.int (x2 + 1))]) ⟨rfl, ⟨rfl, ⟨rfl, trivial⟩⟩⟩ H
theorem g132_4b_ok_36 {l : Launch} {Ω : xo_O} (htr : xH l) (d : Nat) (τ : Nat → Nat → Int64) (x1 : Int32) (x2 : Int32) (σ : xS) (r : xv_R) (H : xo (xd (a132_4 l Ω d 36 τ r) (xB false 36 τ r)) (g132_4b 36 x1 x2 σ)) : xv l Ω d 0 0 132 4 [some (.ref 34), some (.int x1), some (.int x2)] [] (hM 36 σ τ) r := by
  unfold g132_4b at H
  by_cases h1 : (σ (59 - 36) 7) ≤ x2
  · rw [if_pos h1] at H
    refine xp_ok htr 5 d 0 0 [eB true] 132 4 [some (.ref 34), some (.int x1), some (.int x2)] [] (hM 36 σ τ) ⟨h1, ?_⟩
    show xv l Ω d 0 0 132 45 [some (.ref 34), some (.int x1), some (.int x2)] [] (hM 36 σ τ) r
    exact xp_ok htr 2 d 0 0 [] 132 45 [some (.ref 34), some (.int x1), some (.int x2)] [] (hM 36 σ τ) ⟨trivial, (Eq.symm H)⟩
  · rw [if_neg h1] at H
    refine xp_ok htr 5 d 0 0 [eB false] 132 4 [some (.ref 34), some (.int x1), some (.int x2)] [] (hM 36 σ τ) ⟨h1, ?_⟩
    show xv l Ω d 0 0 132 15 [some (.ref 34), some (.int x1), some (.int x2)] [] (hM 36 σ τ) r
    cases g2 : xn x2 40 with
    | false => rw [g2, cond_false] at H; exact False.elim H
    | true =>
      rw [g2, cond_true] at H
      by_cases h3 : (σ ((59 - 36) + 2) (Int32.toNatClampNeg x2)) = x1
      · rw [if_pos h3] at H
        refine xp_ok htr 7 d 0 0 [eB false] 132 15 [some (.ref 34), some (.int x1), some (.int x2)] [] (hM 36 σ τ) ⟨(xn_in g2), h3, ?_⟩
        show xv l Ω d 0 0 132 28 [some (.ref 34), some (.int x1), some (.int x2)] [] (hM 36 σ τ) r
        by_cases h4 : (σ 48 (Int32.toNatClampNeg x2)) = 0
        · rw [if_pos h4] at H
          refine xp_ok htr 5 d 0 0 [eB true] 132 28 [some (.ref 34), some (.int x1), some (.int x2)] [] (hM 36 σ τ) ⟨(xn_in g2), h4, ?_⟩
          show xv l Ω d 0 0 132 39 [some (.ref 34), some (.int x1), some (.int x2)] [] (hM 36 σ τ) r
          exact xv_sub (L' := [some (.ref 34), some (.int x1), some (.int x2)]) ⟨rfl, ⟨rfl, ⟨rfl, trivial⟩⟩⟩ (g132_39_ok_36 htr d  τ x1 x2 σ r H)
        · rw [if_neg h4] at H
          refine xp_ok htr 5 d 0 0 [eB false] 132 28 [some (.ref 34), some (.int x1), some (.int x2)] [] (hM 36 σ τ) ⟨(xn_in g2), h4, ?_⟩
          show xv l Ω d 0 0 132 37 [some (.ref 34), some (.int x1), some (.int x2)] [] (hM 36 σ τ) r
          exact xp_ok htr 2 d 0 0 [] 132 37 [some (.ref 34), some (.int x1), some (.int x2)] [] (hM 36 σ τ) ⟨trivial, (Eq.symm H)⟩
      · rw [if_neg h3] at H
        refine xp_ok htr 7 d 0 0 [eB true] 132 15 [some (.ref 34), some (.int x1), some (.int x2)] [] (hM 36 σ τ) ⟨(xn_in g2), h3, ?_⟩
        show xv l Ω d 0 0 132 39 [some (.ref 34), some (.int x1), some (.int x2)] [] (hM 36 σ τ) r
        exact xv_sub (L' := [some (.ref 34), some (.int x1), some (.int x2)]) ⟨rfl, ⟨rfl, ⟨rfl, trivial⟩⟩⟩ (g132_39_ok_36 htr d  τ x1 x2 σ r H)
theorem g132_4_ok_36 {l : Launch} {Ω : xo_O} (htr : xH l) (d : Nat) (τ : Nat → Nat → Int64) (x1 : Int32) (x2 : Int32) (σ : xS) (r : xv_R) (H : xo (xB false 36 τ r) (g132_4 36 x1 x2 σ)) : xv l Ω d 0 0 132 4 [some (.ref 34), some (.int x1), some (.int x2)] [] (hM 36 σ τ) r :=
  xlo_ok (A := a132_4 l Ω d 36 τ r) (fun a H => g132_4b_ok_36 htr d  τ a.1 a.2.1 a.2.2 r H) 1000 (x1, x2, σ) H
theorem g132_run_36 {l : Launch} {Ω : xo_O} (htr : xH l) (d : Nat) (τ : Nat → Nat → Int64) (a1 : Int32) (σ : xS) {q : xQ} (hq : g132 36 a1 σ = some q) : xv l Ω d 0 0 132 0 (xs_loc (xm_l 132) [.ref 34, .int a1]) [] (hM 36 σ τ) (xq_R false 36 τ q) := by
  have H : xo (xB false 36 τ (xq_R false 36 τ q)) (g132 36 a1 σ) := by rw [hq]; exact rfl
  generalize xq_R false 36 τ q = r at H ⊢
  show xv l Ω d 0 0 132 0 [some (.ref 34), some (.int a1), none] [] (hM 36 σ τ) r
  unfold g132 at H
  refine xp_ok htr 4 d 0 0 [] 132 0 [some (.ref 34), some (.int a1), none] [] (hM 36 σ τ) ?_
  show xv l Ω d 0 0 132 4 [some (.ref 34), some (.int a1), some (.int (a1 + 1))] [] (hM 36 σ τ) r
  exact xv_sub (L' := [some (.ref 34), some (.int a1), some (.int (a1 + 1))]) ⟨rfl, ⟨rfl, ⟨rfl, trivial⟩⟩⟩ (g132_4_ok_36 htr d  τ a1 (a1 + 1) σ r H)
/- AccessDesk$Judge.takeOver -/
def g133 (a1 : Int32) (a2 : Int32) (σ : xS) : xO := (if a2 = (-1) then some ((Sum.inl 0, σ)) else (bif xn a2 40 then (bif xn a1 40 then some ((Sum.inl 0, (xh_ui (xh_ui σ 48 (Int32.toNatClampNeg a1) (σ 48 (Int32.toNatClampNeg a2))) 49 (Int32.toNatClampNeg a1) ((xh_ui σ 48 (Int32.toNatClampNeg a1) (σ 48 (Int32.toNatClampNeg a2))) 49 (Int32.toNatClampNeg a2))))) else none) else none))
theorem g133_run {l : Launch} {Ω : xo_O} (htr : xH l) (d : Nat) (p : Nat) (τ : Nat → Nat → Int64) (a1 : Int32) (a2 : Int32) (σ : xS) {q : xQ} (hq : g133 a1 a2 σ = some q) : xv l Ω d 0 0 133 0 (xs_loc (xm_l 133) [.ref 34, .int a1, .int a2]) [] (hM p σ τ) (xq_R true p τ q) := by
  have H : xo (xB true p τ (xq_R true p τ q)) (g133 a1 a2 σ) := by rw [hq]; exact rfl
  generalize xq_R true p τ q = r at H ⊢
  show xv l Ω d 0 0 133 0 [some (.ref 34), some (.int a1), some (.int a2)] [] (hM p σ τ) r
  unfold g133 at H
  by_cases h1 : a2 = (-1)
  · rw [if_pos h1] at H
    refine xp_ok htr 3 d 0 0 [eB true] 133 0 [some (.ref 34), some (.int a1), some (.int a2)] [] (hM p σ τ) ⟨h1, ?_⟩
    show xv l Ω d 0 0 133 29 [some (.ref 34), some (.int a1), some (.int a2)] [] (hM p σ τ) r
    exact xp_ok htr 1 d 0 0 [] 133 29 [some (.ref 34), some (.int a1), some (.int a2)] [] (hM p σ τ) ⟨trivial, (Eq.symm H)⟩
  · rw [if_neg h1] at H
    refine xp_ok htr 3 d 0 0 [eB false] 133 0 [some (.ref 34), some (.int a1), some (.int a2)] [] (hM p σ τ) ⟨h1, ?_⟩
    show xv l Ω d 0 0 133 5 [some (.ref 34), some (.int a1), some (.int a2)] [] (hM p σ τ) r
    cases g2 : xn a2 40 with
    | false => rw [g2, cond_false] at H; exact False.elim H
    | true =>
      rw [g2, cond_true] at H
      cases g3 : xn a1 40 with
      | false => rw [g3, cond_false] at H; exact False.elim H
      | true =>
        rw [g3, cond_true] at H
        refine xp_ok htr 8 d 0 0 [] 133 5 [some (.ref 34), some (.int a1), some (.int a2)] [] (hM p σ τ) ⟨(xn_in g2), (xn_in g3), ?_⟩
        show xv l Ω d 0 0 133 17 [some (.ref 34), some (.int a1), some (.int a2)] [] (hM p (xh_ui σ 48 (Int32.toNatClampNeg a1) (σ 48 (Int32.toNatClampNeg a2))) τ) r
        refine xp_ok htr 8 d 0 0 [] 133 17 [some (.ref 34), some (.int a1), some (.int a2)] [] (hM p (xh_ui σ 48 (Int32.toNatClampNeg a1) (σ 48 (Int32.toNatClampNeg a2))) τ) ⟨(xn_in g2), (xn_in g3), ?_⟩
        show xv l Ω d 0 0 133 29 [some (.ref 34), some (.int a1), some (.int a2)] [] (hM p (xh_ui (xh_ui σ 48 (Int32.toNatClampNeg a1) (σ 48 (Int32.toNatClampNeg a2))) 49 (Int32.toNatClampNeg a1) ((xh_ui σ 48 (Int32.toNatClampNeg a1) (σ 48 (Int32.toNatClampNeg a2))) 49 (Int32.toNatClampNeg a2))) τ) r
        exact xp_ok htr 1 d 0 0 [] 133 29 [some (.ref 34), some (.int a1), some (.int a2)] [] (hM p (xh_ui (xh_ui σ 48 (Int32.toNatClampNeg a1) (σ 48 (Int32.toNatClampNeg a2))) 49 (Int32.toNatClampNeg a1) ((xh_ui σ 48 (Int32.toNatClampNeg a1) (σ 48 (Int32.toNatClampNeg a2))) 49 (Int32.toNatClampNeg a2))) τ) ⟨trivial, (Eq.symm H)⟩
