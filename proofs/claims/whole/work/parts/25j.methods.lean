/-! the methods as functions: laid by program (wip/whole/dec.py) -/
/- AccessDeskModel.closePolicies -/
def g186_86  (σ : xS) : Option xQ := (if (σ 53 40) ≤ 0 then some ((Sum.inl 0, σ)) else some ((Sum.inl 1, σ)))
def g186_0b  (σ : xS) : Option ((xS) ⊕ xQ) := (match g171 σ with | some (Sum.inl v1, s2) => (if v1 = 0 then Option.map Sum.inr (g186_86 s2) else (if (s2 53 40) ≤ 0 then Option.map Sum.inr (g186_86 s2) else (match g173 s2 with | some (Sum.inl v7, s8) => (if v7 = 125 then (bif xn ((xh_ui (xh_ui s8 53 19 ((s8 53 19) + 1)) 53 40 (((xh_ui s8 53 19 ((s8 53 19) + 1)) 53 40) - 1)) 53 40) 8 then (match g185 43 (xh_ui (xh_ui s8 53 19 ((s8 53 19) + 1)) 53 40 (((xh_ui s8 53 19 ((s8 53 19) + 1)) 53 40) - 1)) with | some (Sum.inl v12, s13) => (bif xn ((xh_ui (xh_ui s8 53 19 ((s8 53 19) + 1)) 53 40 (((xh_ui s8 53 19 ((s8 53 19) + 1)) 53 40) - 1)) 85 (Int32.toNatClampNeg ((xh_ui (xh_ui s8 53 19 ((s8 53 19) + 1)) 53 40 (((xh_ui s8 53 19 ((s8 53 19) + 1)) 53 40) - 1)) 53 40))) 80 then (bif xn ((xh_ui s13 77 (Int32.toNatClampNeg ((xh_ui (xh_ui s8 53 19 ((s8 53 19) + 1)) 53 40 (((xh_ui s8 53 19 ((s8 53 19) + 1)) 53 40) - 1)) 85 (Int32.toNatClampNeg ((xh_ui (xh_ui s8 53 19 ((s8 53 19) + 1)) 53 40 (((xh_ui s8 53 19 ((s8 53 19) + 1)) 53 40) - 1)) 53 40)))) v12) 53 40) 8 then (match g185 45 (xh_ui s13 77 (Int32.toNatClampNeg ((xh_ui (xh_ui s8 53 19 ((s8 53 19) + 1)) 53 40 (((xh_ui s8 53 19 ((s8 53 19) + 1)) 53 40) - 1)) 85 (Int32.toNatClampNeg ((xh_ui (xh_ui s8 53 19 ((s8 53 19) + 1)) 53 40 (((xh_ui s8 53 19 ((s8 53 19) + 1)) 53 40) - 1)) 53 40)))) v12) with | some (Sum.inl v17, s18) => (bif xn ((xh_ui s13 77 (Int32.toNatClampNeg ((xh_ui (xh_ui s8 53 19 ((s8 53 19) + 1)) 53 40 (((xh_ui s8 53 19 ((s8 53 19) + 1)) 53 40) - 1)) 85 (Int32.toNatClampNeg ((xh_ui (xh_ui s8 53 19 ((s8 53 19) + 1)) 53 40 (((xh_ui s8 53 19 ((s8 53 19) + 1)) 53 40) - 1)) 53 40)))) v12) 85 (Int32.toNatClampNeg ((xh_ui s13 77 (Int32.toNatClampNeg ((xh_ui (xh_ui s8 53 19 ((s8 53 19) + 1)) 53 40 (((xh_ui s8 53 19 ((s8 53 19) + 1)) 53 40) - 1)) 85 (Int32.toNatClampNeg ((xh_ui (xh_ui s8 53 19 ((s8 53 19) + 1)) 53 40 (((xh_ui s8 53 19 ((s8 53 19) + 1)) 53 40) - 1)) 53 40)))) v12) 53 40))) 80 then some (Sum.inl ((xh_ui s18 78 (Int32.toNatClampNeg ((xh_ui s13 77 (Int32.toNatClampNeg ((xh_ui (xh_ui s8 53 19 ((s8 53 19) + 1)) 53 40 (((xh_ui s8 53 19 ((s8 53 19) + 1)) 53 40) - 1)) 85 (Int32.toNatClampNeg ((xh_ui (xh_ui s8 53 19 ((s8 53 19) + 1)) 53 40 (((xh_ui s8 53 19 ((s8 53 19) + 1)) 53 40) - 1)) 53 40)))) v12) 85 (Int32.toNatClampNeg ((xh_ui s13 77 (Int32.toNatClampNeg ((xh_ui (xh_ui s8 53 19 ((s8 53 19) + 1)) 53 40 (((xh_ui s8 53 19 ((s8 53 19) + 1)) 53 40) - 1)) 85 (Int32.toNatClampNeg ((xh_ui (xh_ui s8 53 19 ((s8 53 19) + 1)) 53 40 (((xh_ui s8 53 19 ((s8 53 19) + 1)) 53 40) - 1)) 53 40)))) v12) 53 40)))) v17))) else none) | some (Sum.inr v17, s18) => none | none => none) else none) else none) | some (Sum.inr v12, s13) => none | none => none) else none) else Option.map Sum.inr (g186_86 s8)) | some (Sum.inr v7, s8) => none | none => none))) | some (Sum.inr v1, s2) => none | none => none)
def g186_0  (σ : xS) : Option xQ := xlo (fun a : xS => g186_0b a) 1000 (σ)
def g186  (σ : xS) : xO := g186_0 σ
def a186_0 (l : Launch) (Ω : xo_O) (d p : Nat) (τ : Nat → Nat → Int64) (r : xv_R) : xS → Prop := fun a => xv l Ω (d + 2) 0 0 186 0 [some (.ref 53)] [] (hM p a τ) r
theorem g186_86_ok {l : Launch} {Ω : xo_O} (htr : xH l) (d : Nat) (p : Nat) (τ : Nat → Nat → Int64)  (σ : xS) (r : xv_R) (H : xo (xB false p τ r) (g186_86 σ)) : xv l Ω (d + 2) 0 0 186 86 [some (.ref 53)] [] (hM p σ τ) r := by
  unfold g186_86 at H
  by_cases h5 : (σ 53 40) ≤ 0
  · rw [if_pos h5] at H
    refine xp_ok htr 3 (d + 2) 0 0 [eB true] 186 86 [some (.ref 53)] [] (hM p σ τ) ⟨h5, ?_⟩
    show xv l Ω (d + 2) 0 0 186 97 [some (.ref 53)] [] (hM p σ τ) r
    exact xp_ok htr 2 (d + 2) 0 0 [] 186 97 [some (.ref 53)] [] (hM p σ τ) ⟨Or.inl rfl, (Eq.symm H)⟩
  · rw [if_neg h5] at H
    refine xp_ok htr 3 (d + 2) 0 0 [eB false] 186 86 [some (.ref 53)] [] (hM p σ τ) ⟨h5, ?_⟩
    show xv l Ω (d + 2) 0 0 186 93 [some (.ref 53)] [] (hM p σ τ) r
    exact xp_ok htr 3 (d + 2) 0 0 [] 186 93 [some (.ref 53)] [] (hM p σ τ) ⟨Or.inr rfl, (Eq.symm H)⟩
theorem g186_0b_ok {l : Launch} {Ω : xo_O} (htr : xH l) (d : Nat) (p : Nat) (τ : Nat → Nat → Int64)  (σ : xS) (r : xv_R) (H : xo (xd (a186_0 l Ω d p τ r) (xB false p τ r)) (g186_0b σ)) : xv l Ω (d + 2) 0 0 186 0 [some (.ref 53)] [] (hM p σ τ) r := by
  unfold g186_0b at H
  cases q3 : g171 σ with
  | none => rw [q3] at H; exact False.elim H
  | some q30 =>
    obtain ⟨v1 | v1, s2⟩ := q30
    · rw [q3] at H; dsimp only at H
      have hc := g171_run (Ω := Ω) htr (d + 1) p τ  σ q3
      refine xp_ok htr 2 (d + 2) 0 0 [eC (some (.int v1)) (hM p s2 τ)] 186 0 [some (.ref 53)] [] (hM p σ τ) ⟨hc, ?_⟩
      show xv l Ω (d + 2) 0 0 186 4 [some (.ref 53)] [.int v1] (hM p s2 τ) r
      by_cases h4 : v1 = 0
      · rw [if_pos h4] at H
        refine xp_ok htr 1 (d + 2) 0 0 [eB true] 186 4 [some (.ref 53)] [.int v1] (hM p s2 τ) ⟨h4, ?_⟩
        show xv l Ω (d + 2) 0 0 186 86 [some (.ref 53)] [] (hM p s2 τ) r
        exact xv_sub (L' := [some (.ref 53)]) ⟨rfl, trivial⟩ (g186_86_ok htr d p τ s2 r (xo_map H))
      · rw [if_neg h4] at H
        refine xp_ok htr 1 (d + 2) 0 0 [eB false] 186 4 [some (.ref 53)] [.int v1] (hM p s2 τ) ⟨h4, ?_⟩
        show xv l Ω (d + 2) 0 0 186 7 [some (.ref 53)] [] (hM p s2 τ) r
        by_cases h6 : (s2 53 40) ≤ 0
        · rw [if_pos h6] at H
          refine xp_ok htr 3 (d + 2) 0 0 [eB true] 186 7 [some (.ref 53)] [] (hM p s2 τ) ⟨h6, ?_⟩
          show xv l Ω (d + 2) 0 0 186 86 [some (.ref 53)] [] (hM p s2 τ) r
          exact xv_sub (L' := [some (.ref 53)]) ⟨rfl, trivial⟩ (g186_86_ok htr d p τ s2 r (xo_map H))
        · rw [if_neg h6] at H
          refine xp_ok htr 3 (d + 2) 0 0 [eB false] 186 7 [some (.ref 53)] [] (hM p s2 τ) ⟨h6, ?_⟩
          show xv l Ω (d + 2) 0 0 186 14 [some (.ref 53)] [] (hM p s2 τ) r
          cases q9 : g173 s2 with
          | none => rw [q9] at H; exact False.elim H
          | some q90 =>
            obtain ⟨v7 | v7, s8⟩ := q90
            · rw [q9] at H; dsimp only at H
              have hc := g173_run (Ω := Ω) htr (d + 1) p τ  s2 q9
              refine xp_ok htr 2 (d + 2) 0 0 [eC (some (.int v7)) (hM p s8 τ)] 186 14 [some (.ref 53)] [] (hM p s2 τ) ⟨hc, ?_⟩
              show xv l Ω (d + 2) 0 0 186 18 [some (.ref 53)] [.int v7] (hM p s8 τ) r
              by_cases h10 : v7 = 125
              · rw [if_pos h10] at H
                refine xp_ok htr 2 (d + 2) 0 0 [eB false] 186 18 [some (.ref 53)] [.int v7] (hM p s8 τ) ⟨h10, ?_⟩
                show xv l Ω (d + 2) 0 0 186 23 [some (.ref 53)] [] (hM p s8 τ) r
                refine xp_ok htr 8 (d + 2) 0 0 [] 186 23 [some (.ref 53)] [] (hM p s8 τ) ?_
                show xv l Ω (d + 2) 0 0 186 35 [some (.ref 53)] [.ref 53, .ref 53] (hM p (xh_ui s8 53 19 ((s8 53 19) + 1)) τ) r
                refine xp_ok htr 8 (d + 2) 0 0 [] 186 35 [some (.ref 53)] [.ref 53, .ref 53] (hM p (xh_ui s8 53 19 ((s8 53 19) + 1)) τ) ?_
                show xv l Ω (d + 2) 0 0 186 51 [some (.ref 53)] [.ref 85, .ref 77] (hM p (xh_ui (xh_ui s8 53 19 ((s8 53 19) + 1)) 53 40 (((xh_ui s8 53 19 ((s8 53 19) + 1)) 53 40) - 1)) τ) r
                cases g11 : xn ((xh_ui (xh_ui s8 53 19 ((s8 53 19) + 1)) 53 40 (((xh_ui s8 53 19 ((s8 53 19) + 1)) 53 40) - 1)) 53 40) 8 with
                | false => rw [g11, cond_false] at H; exact False.elim H
                | true =>
                  rw [g11, cond_true] at H
                  cases q14 : g185 43 (xh_ui (xh_ui s8 53 19 ((s8 53 19) + 1)) 53 40 (((xh_ui s8 53 19 ((s8 53 19) + 1)) 53 40) - 1)) with
                  | none => rw [q14] at H; exact False.elim H
                  | some q140 =>
                    obtain ⟨v12 | v12, s13⟩ := q140
                    · rw [q14] at H; dsimp only at H
                      have hc := g185_run (Ω := Ω) htr d p τ 43 (xh_ui (xh_ui s8 53 19 ((s8 53 19) + 1)) 53 40 (((xh_ui s8 53 19 ((s8 53 19) + 1)) 53 40) - 1)) q14
                      refine xp_ok htr 6 (d + 2) 0 0 [eC (some (.int v12)) (hM p s13 τ)] 186 51 [some (.ref 53)] [.ref 85, .ref 77] (hM p (xh_ui (xh_ui s8 53 19 ((s8 53 19) + 1)) 53 40 (((xh_ui s8 53 19 ((s8 53 19) + 1)) 53 40) - 1)) τ) ⟨(xn_in g11), hc, ?_⟩
                      show xv l Ω (d + 2) 0 0 186 62 [some (.ref 53)] [.int v12, .int ((xh_ui (xh_ui s8 53 19 ((s8 53 19) + 1)) 53 40 (((xh_ui s8 53 19 ((s8 53 19) + 1)) 53 40) - 1)) 85 (Int32.toNatClampNeg ((xh_ui (xh_ui s8 53 19 ((s8 53 19) + 1)) 53 40 (((xh_ui s8 53 19 ((s8 53 19) + 1)) 53 40) - 1)) 53 40))), .ref 77] (hM p s13 τ) r
                      cases g15 : xn ((xh_ui (xh_ui s8 53 19 ((s8 53 19) + 1)) 53 40 (((xh_ui s8 53 19 ((s8 53 19) + 1)) 53 40) - 1)) 85 (Int32.toNatClampNeg ((xh_ui (xh_ui s8 53 19 ((s8 53 19) + 1)) 53 40 (((xh_ui s8 53 19 ((s8 53 19) + 1)) 53 40) - 1)) 53 40))) 80 with
                      | false => rw [g15, cond_false] at H; exact False.elim H
                      | true =>
                        rw [g15, cond_true] at H
                        cases g16 : xn ((xh_ui s13 77 (Int32.toNatClampNeg ((xh_ui (xh_ui s8 53 19 ((s8 53 19) + 1)) 53 40 (((xh_ui s8 53 19 ((s8 53 19) + 1)) 53 40) - 1)) 85 (Int32.toNatClampNeg ((xh_ui (xh_ui s8 53 19 ((s8 53 19) + 1)) 53 40 (((xh_ui s8 53 19 ((s8 53 19) + 1)) 53 40) - 1)) 53 40)))) v12) 53 40) 8 with
                        | false => rw [g16, cond_false] at H; exact False.elim H
                        | true =>
                          rw [g16, cond_true] at H
                          refine xp_ok htr 8 (d + 2) 0 0 [] 186 62 [some (.ref 53)] [.int v12, .int ((xh_ui (xh_ui s8 53 19 ((s8 53 19) + 1)) 53 40 (((xh_ui s8 53 19 ((s8 53 19) + 1)) 53 40) - 1)) 85 (Int32.toNatClampNeg ((xh_ui (xh_ui s8 53 19 ((s8 53 19) + 1)) 53 40 (((xh_ui s8 53 19 ((s8 53 19) + 1)) 53 40) - 1)) 53 40))), .ref 77] (hM p s13 τ) ⟨(xn_in g15), (xn_in g16), ?_⟩
                          show xv l Ω (d + 2) 0 0 186 76 [some (.ref 53)] [.int ((xh_ui s13 77 (Int32.toNatClampNeg ((xh_ui (xh_ui s8 53 19 ((s8 53 19) + 1)) 53 40 (((xh_ui s8 53 19 ((s8 53 19) + 1)) 53 40) - 1)) 85 (Int32.toNatClampNeg ((xh_ui (xh_ui s8 53 19 ((s8 53 19) + 1)) 53 40 (((xh_ui s8 53 19 ((s8 53 19) + 1)) 53 40) - 1)) 53 40)))) v12) 85 (Int32.toNatClampNeg ((xh_ui s13 77 (Int32.toNatClampNeg ((xh_ui (xh_ui s8 53 19 ((s8 53 19) + 1)) 53 40 (((xh_ui s8 53 19 ((s8 53 19) + 1)) 53 40) - 1)) 85 (Int32.toNatClampNeg ((xh_ui (xh_ui s8 53 19 ((s8 53 19) + 1)) 53 40 (((xh_ui s8 53 19 ((s8 53 19) + 1)) 53 40) - 1)) 53 40)))) v12) 53 40))), .ref 78] (hM p (xh_ui s13 77 (Int32.toNatClampNeg ((xh_ui (xh_ui s8 53 19 ((s8 53 19) + 1)) 53 40 (((xh_ui s8 53 19 ((s8 53 19) + 1)) 53 40) - 1)) 85 (Int32.toNatClampNeg ((xh_ui (xh_ui s8 53 19 ((s8 53 19) + 1)) 53 40 (((xh_ui s8 53 19 ((s8 53 19) + 1)) 53 40) - 1)) 53 40)))) v12) τ) r
                          cases q19 : g185 45 (xh_ui s13 77 (Int32.toNatClampNeg ((xh_ui (xh_ui s8 53 19 ((s8 53 19) + 1)) 53 40 (((xh_ui s8 53 19 ((s8 53 19) + 1)) 53 40) - 1)) 85 (Int32.toNatClampNeg ((xh_ui (xh_ui s8 53 19 ((s8 53 19) + 1)) 53 40 (((xh_ui s8 53 19 ((s8 53 19) + 1)) 53 40) - 1)) 53 40)))) v12) with
                          | none => rw [q19] at H; exact False.elim H
                          | some q190 =>
                            obtain ⟨v17 | v17, s18⟩ := q190
                            · rw [q19] at H; dsimp only at H
                              have hc := g185_run (Ω := Ω) htr d p τ 45 (xh_ui s13 77 (Int32.toNatClampNeg ((xh_ui (xh_ui s8 53 19 ((s8 53 19) + 1)) 53 40 (((xh_ui s8 53 19 ((s8 53 19) + 1)) 53 40) - 1)) 85 (Int32.toNatClampNeg ((xh_ui (xh_ui s8 53 19 ((s8 53 19) + 1)) 53 40 (((xh_ui s8 53 19 ((s8 53 19) + 1)) 53 40) - 1)) 53 40)))) v12) q19
                              refine xp_ok htr 3 (d + 2) 0 0 [eC (some (.int v17)) (hM p s18 τ)] 186 76 [some (.ref 53)] [.int ((xh_ui s13 77 (Int32.toNatClampNeg ((xh_ui (xh_ui s8 53 19 ((s8 53 19) + 1)) 53 40 (((xh_ui s8 53 19 ((s8 53 19) + 1)) 53 40) - 1)) 85 (Int32.toNatClampNeg ((xh_ui (xh_ui s8 53 19 ((s8 53 19) + 1)) 53 40 (((xh_ui s8 53 19 ((s8 53 19) + 1)) 53 40) - 1)) 53 40)))) v12) 85 (Int32.toNatClampNeg ((xh_ui s13 77 (Int32.toNatClampNeg ((xh_ui (xh_ui s8 53 19 ((s8 53 19) + 1)) 53 40 (((xh_ui s8 53 19 ((s8 53 19) + 1)) 53 40) - 1)) 85 (Int32.toNatClampNeg ((xh_ui (xh_ui s8 53 19 ((s8 53 19) + 1)) 53 40 (((xh_ui s8 53 19 ((s8 53 19) + 1)) 53 40) - 1)) 53 40)))) v12) 53 40))), .ref 78] (hM p (xh_ui s13 77 (Int32.toNatClampNeg ((xh_ui (xh_ui s8 53 19 ((s8 53 19) + 1)) 53 40 (((xh_ui s8 53 19 ((s8 53 19) + 1)) 53 40) - 1)) 85 (Int32.toNatClampNeg ((xh_ui (xh_ui s8 53 19 ((s8 53 19) + 1)) 53 40 (((xh_ui s8 53 19 ((s8 53 19) + 1)) 53 40) - 1)) 53 40)))) v12) τ) ⟨hc, ?_⟩
                              show xv l Ω (d + 2) 0 0 186 82 [some (.ref 53)] [.int v17, .int ((xh_ui s13 77 (Int32.toNatClampNeg ((xh_ui (xh_ui s8 53 19 ((s8 53 19) + 1)) 53 40 (((xh_ui s8 53 19 ((s8 53 19) + 1)) 53 40) - 1)) 85 (Int32.toNatClampNeg ((xh_ui (xh_ui s8 53 19 ((s8 53 19) + 1)) 53 40 (((xh_ui s8 53 19 ((s8 53 19) + 1)) 53 40) - 1)) 53 40)))) v12) 85 (Int32.toNatClampNeg ((xh_ui s13 77 (Int32.toNatClampNeg ((xh_ui (xh_ui s8 53 19 ((s8 53 19) + 1)) 53 40 (((xh_ui s8 53 19 ((s8 53 19) + 1)) 53 40) - 1)) 85 (Int32.toNatClampNeg ((xh_ui (xh_ui s8 53 19 ((s8 53 19) + 1)) 53 40 (((xh_ui s8 53 19 ((s8 53 19) + 1)) 53 40) - 1)) 53 40)))) v12) 53 40))), .ref 78] (hM p s18 τ) r
                              cases g20 : xn ((xh_ui s13 77 (Int32.toNatClampNeg ((xh_ui (xh_ui s8 53 19 ((s8 53 19) + 1)) 53 40 (((xh_ui s8 53 19 ((s8 53 19) + 1)) 53 40) - 1)) 85 (Int32.toNatClampNeg ((xh_ui (xh_ui s8 53 19 ((s8 53 19) + 1)) 53 40 (((xh_ui s8 53 19 ((s8 53 19) + 1)) 53 40) - 1)) 53 40)))) v12) 85 (Int32.toNatClampNeg ((xh_ui s13 77 (Int32.toNatClampNeg ((xh_ui (xh_ui s8 53 19 ((s8 53 19) + 1)) 53 40 (((xh_ui s8 53 19 ((s8 53 19) + 1)) 53 40) - 1)) 85 (Int32.toNatClampNeg ((xh_ui (xh_ui s8 53 19 ((s8 53 19) + 1)) 53 40 (((xh_ui s8 53 19 ((s8 53 19) + 1)) 53 40) - 1)) 53 40)))) v12) 53 40))) 80 with
                              | false => rw [g20, cond_false] at H; exact False.elim H
                              | true =>
                                rw [g20, cond_true] at H
                                refine xp_ok htr 2 (d + 2) 0 0 [] 186 82 [some (.ref 53)] [.int v17, .int ((xh_ui s13 77 (Int32.toNatClampNeg ((xh_ui (xh_ui s8 53 19 ((s8 53 19) + 1)) 53 40 (((xh_ui s8 53 19 ((s8 53 19) + 1)) 53 40) - 1)) 85 (Int32.toNatClampNeg ((xh_ui (xh_ui s8 53 19 ((s8 53 19) + 1)) 53 40 (((xh_ui s8 53 19 ((s8 53 19) + 1)) 53 40) - 1)) 53 40)))) v12) 85 (Int32.toNatClampNeg ((xh_ui s13 77 (Int32.toNatClampNeg ((xh_ui (xh_ui s8 53 19 ((s8 53 19) + 1)) 53 40 (((xh_ui s8 53 19 ((s8 53 19) + 1)) 53 40) - 1)) 85 (Int32.toNatClampNeg ((xh_ui (xh_ui s8 53 19 ((s8 53 19) + 1)) 53 40 (((xh_ui s8 53 19 ((s8 53 19) + 1)) 53 40) - 1)) 53 40)))) v12) 53 40))), .ref 78] (hM p s18 τ) ⟨(xn_in g20), ?_⟩
                                show xv l Ω (d + 2) 0 0 186 0 [some (.ref 53)] [] (hM p (xh_ui s18 78 (Int32.toNatClampNeg ((xh_ui s13 77 (Int32.toNatClampNeg ((xh_ui (xh_ui s8 53 19 ((s8 53 19) + 1)) 53 40 (((xh_ui s8 53 19 ((s8 53 19) + 1)) 53 40) - 1)) 85 (Int32.toNatClampNeg ((xh_ui (xh_ui s8 53 19 ((s8 53 19) + 1)) 53 40 (((xh_ui s8 53 19 ((s8 53 19) + 1)) 53 40) - 1)) 53 40)))) v12) 85 (Int32.toNatClampNeg ((xh_ui s13 77 (Int32.toNatClampNeg ((xh_ui (xh_ui s8 53 19 ((s8 53 19) + 1)) 53 40 (((xh_ui s8 53 19 ((s8 53 19) + 1)) 53 40) - 1)) 85 (Int32.toNatClampNeg ((xh_ui (xh_ui s8 53 19 ((s8 53 19) + 1)) 53 40 (((xh_ui s8 53 19 ((s8 53 19) + 1)) 53 40) - 1)) 53 40)))) v12) 53 40)))) v17) τ) r
                                exact xv_sub (L' := [some (.ref 53)]) ⟨rfl, trivial⟩ H
                            · rw [q19] at H; exact False.elim H
                    · rw [q14] at H; exact False.elim H
              · rw [if_neg h10] at H
                refine xp_ok htr 2 (d + 2) 0 0 [eB true] 186 18 [some (.ref 53)] [.int v7] (hM p s8 τ) ⟨h10, ?_⟩
                show xv l Ω (d + 2) 0 0 186 86 [some (.ref 53)] [] (hM p s8 τ) r
                exact xv_sub (L' := [some (.ref 53)]) ⟨rfl, trivial⟩ (g186_86_ok htr d p τ s8 r (xo_map H))
            · rw [q9] at H; exact False.elim H
    · rw [q3] at H; exact False.elim H
theorem g186_0_ok {l : Launch} {Ω : xo_O} (htr : xH l) (d : Nat) (p : Nat) (τ : Nat → Nat → Int64)  (σ : xS) (r : xv_R) (H : xo (xB false p τ r) (g186_0 σ)) : xv l Ω (d + 2) 0 0 186 0 [some (.ref 53)] [] (hM p σ τ) r :=
  xlo_ok (A := a186_0 l Ω d p τ r) (fun a H => g186_0b_ok htr d p τ a r H) 1000 (σ) H
theorem g186_run {l : Launch} {Ω : xo_O} (htr : xH l) (d : Nat) (p : Nat) (τ : Nat → Nat → Int64)  (σ : xS) {q : xQ} (hq : g186  σ = some q) : xv l Ω (d + 2) 0 0 186 0 (xs_loc (xm_l 186) [.ref 53]) [] (hM p σ τ) (xq_R false p τ q) := by
  have H : xo (xB false p τ (xq_R false p τ q)) (g186  σ) := by rw [hq]; exact rfl
  generalize xq_R false p τ q = r at H ⊢
  show xv l Ω (d + 2) 0 0 186 0 [some (.ref 53)] [] (hM p σ τ) r
  unfold g186 at H
  exact xv_sub (L' := [some (.ref 53)]) ⟨rfl, trivial⟩ (g186_0_ok htr d p τ σ r H)
/- AccessDeskModel.copyRows -/
def g187_332 (x1 : Int32) (k1 : Int32) (k2 : Int32) (σ : xS) : Option ((Int32 × xS) ⊕ xQ) := (bif xn k1 600 then some (Sum.inl ((x1 + 1), (xh_ui σ 84 (Int32.toNatClampNeg k1) k2))) else none)
def g187_277b (x1 : Int32) (σ : xS) : Option ((Int32 × xS) ⊕ xQ) := (if (σ 53 32) ≤ x1 then some (Sum.inr ((Sum.inl 0, σ))) else (bif xn (300 + x1) 600 then (if 1000 ≤ (σ 84 (Int32.toNatClampNeg (300 + x1))) then g187_332 x1 x1 (σ 84 (Int32.toNatClampNeg (300 + x1))) σ else g187_332 x1 x1 ((σ 84 (Int32.toNatClampNeg (300 + x1))) - 100) σ) else none))
def g187_277 (x1 : Int32) (σ : xS) : Option xQ := xlo (fun a : Int32 × xS => g187_277b a.1 a.2) 1000 (x1, σ)
def g187_186b (x1 : Int32) (σ : xS) : Option ((Int32 × xS) ⊕ xQ) := (if (σ 53 31) ≤ x1 then Option.map Sum.inr (g187_277 0 σ) else (bif xn (100 + x1) 200 then (bif xn x1 200 then some (Sum.inl ((x1 + 1), (xh_ui (xh_ui (xh_ui (xh_ui (xh_ui σ 79 (Int32.toNatClampNeg x1) (σ 79 (Int32.toNatClampNeg (100 + x1)))) 80 (Int32.toNatClampNeg x1) ((xh_ui σ 79 (Int32.toNatClampNeg x1) (σ 79 (Int32.toNatClampNeg (100 + x1)))) 80 (Int32.toNatClampNeg (100 + x1)))) 81 (Int32.toNatClampNeg x1) ((xh_ui (xh_ui σ 79 (Int32.toNatClampNeg x1) (σ 79 (Int32.toNatClampNeg (100 + x1)))) 80 (Int32.toNatClampNeg x1) ((xh_ui σ 79 (Int32.toNatClampNeg x1) (σ 79 (Int32.toNatClampNeg (100 + x1)))) 80 (Int32.toNatClampNeg (100 + x1)))) 81 (Int32.toNatClampNeg (100 + x1)))) 82 (Int32.toNatClampNeg x1) (vp_nar .boolean ((xh_ui (xh_ui (xh_ui σ 79 (Int32.toNatClampNeg x1) (σ 79 (Int32.toNatClampNeg (100 + x1)))) 80 (Int32.toNatClampNeg x1) ((xh_ui σ 79 (Int32.toNatClampNeg x1) (σ 79 (Int32.toNatClampNeg (100 + x1)))) 80 (Int32.toNatClampNeg (100 + x1)))) 81 (Int32.toNatClampNeg x1) ((xh_ui (xh_ui σ 79 (Int32.toNatClampNeg x1) (σ 79 (Int32.toNatClampNeg (100 + x1)))) 80 (Int32.toNatClampNeg x1) ((xh_ui σ 79 (Int32.toNatClampNeg x1) (σ 79 (Int32.toNatClampNeg (100 + x1)))) 80 (Int32.toNatClampNeg (100 + x1)))) 81 (Int32.toNatClampNeg (100 + x1)))) 82 (Int32.toNatClampNeg (100 + x1))))) 83 (Int32.toNatClampNeg x1) (vp_nar .boolean ((xh_ui (xh_ui (xh_ui (xh_ui σ 79 (Int32.toNatClampNeg x1) (σ 79 (Int32.toNatClampNeg (100 + x1)))) 80 (Int32.toNatClampNeg x1) ((xh_ui σ 79 (Int32.toNatClampNeg x1) (σ 79 (Int32.toNatClampNeg (100 + x1)))) 80 (Int32.toNatClampNeg (100 + x1)))) 81 (Int32.toNatClampNeg x1) ((xh_ui (xh_ui σ 79 (Int32.toNatClampNeg x1) (σ 79 (Int32.toNatClampNeg (100 + x1)))) 80 (Int32.toNatClampNeg x1) ((xh_ui σ 79 (Int32.toNatClampNeg x1) (σ 79 (Int32.toNatClampNeg (100 + x1)))) 80 (Int32.toNatClampNeg (100 + x1)))) 81 (Int32.toNatClampNeg (100 + x1)))) 82 (Int32.toNatClampNeg x1) (vp_nar .boolean ((xh_ui (xh_ui (xh_ui σ 79 (Int32.toNatClampNeg x1) (σ 79 (Int32.toNatClampNeg (100 + x1)))) 80 (Int32.toNatClampNeg x1) ((xh_ui σ 79 (Int32.toNatClampNeg x1) (σ 79 (Int32.toNatClampNeg (100 + x1)))) 80 (Int32.toNatClampNeg (100 + x1)))) 81 (Int32.toNatClampNeg x1) ((xh_ui (xh_ui σ 79 (Int32.toNatClampNeg x1) (σ 79 (Int32.toNatClampNeg (100 + x1)))) 80 (Int32.toNatClampNeg x1) ((xh_ui σ 79 (Int32.toNatClampNeg x1) (σ 79 (Int32.toNatClampNeg (100 + x1)))) 80 (Int32.toNatClampNeg (100 + x1)))) 81 (Int32.toNatClampNeg (100 + x1)))) 82 (Int32.toNatClampNeg (100 + x1))))) 83 (Int32.toNatClampNeg (100 + x1))))))) else none) else none))
def g187_186 (x1 : Int32) (σ : xS) : Option xQ := xlo (fun a : Int32 × xS => g187_186b a.1 a.2) 1000 (x1, σ)
def g187_73 (x1 : Int32) (k1 : Int32) (k2 : Int32) (σ : xS) : Option ((Int32 × xS) ⊕ xQ) := (bif xn k1 80 then (bif xn (40 + x1) 80 then (bif xn x1 80 then some (Sum.inl ((x1 + 1), (xh_ui (xh_ui (xh_ui (xh_ui (xh_ui (xh_ui (xh_ui σ 72 (Int32.toNatClampNeg k1) k2) 73 (Int32.toNatClampNeg x1) (((xh_ui σ 72 (Int32.toNatClampNeg k1) k2) 73 (Int32.toNatClampNeg (40 + x1))) - 100)) 74 (Int32.toNatClampNeg x1) (((xh_ui (xh_ui σ 72 (Int32.toNatClampNeg k1) k2) 73 (Int32.toNatClampNeg x1) (((xh_ui σ 72 (Int32.toNatClampNeg k1) k2) 73 (Int32.toNatClampNeg (40 + x1))) - 100)) 74 (Int32.toNatClampNeg (40 + x1))) - 100)) 75 (Int32.toNatClampNeg x1) (((xh_ui (xh_ui (xh_ui σ 72 (Int32.toNatClampNeg k1) k2) 73 (Int32.toNatClampNeg x1) (((xh_ui σ 72 (Int32.toNatClampNeg k1) k2) 73 (Int32.toNatClampNeg (40 + x1))) - 100)) 74 (Int32.toNatClampNeg x1) (((xh_ui (xh_ui σ 72 (Int32.toNatClampNeg k1) k2) 73 (Int32.toNatClampNeg x1) (((xh_ui σ 72 (Int32.toNatClampNeg k1) k2) 73 (Int32.toNatClampNeg (40 + x1))) - 100)) 74 (Int32.toNatClampNeg (40 + x1))) - 100)) 75 (Int32.toNatClampNeg (40 + x1))) - 300)) 76 (Int32.toNatClampNeg x1) (((xh_ui (xh_ui (xh_ui (xh_ui σ 72 (Int32.toNatClampNeg k1) k2) 73 (Int32.toNatClampNeg x1) (((xh_ui σ 72 (Int32.toNatClampNeg k1) k2) 73 (Int32.toNatClampNeg (40 + x1))) - 100)) 74 (Int32.toNatClampNeg x1) (((xh_ui (xh_ui σ 72 (Int32.toNatClampNeg k1) k2) 73 (Int32.toNatClampNeg x1) (((xh_ui σ 72 (Int32.toNatClampNeg k1) k2) 73 (Int32.toNatClampNeg (40 + x1))) - 100)) 74 (Int32.toNatClampNeg (40 + x1))) - 100)) 75 (Int32.toNatClampNeg x1) (((xh_ui (xh_ui (xh_ui σ 72 (Int32.toNatClampNeg k1) k2) 73 (Int32.toNatClampNeg x1) (((xh_ui σ 72 (Int32.toNatClampNeg k1) k2) 73 (Int32.toNatClampNeg (40 + x1))) - 100)) 74 (Int32.toNatClampNeg x1) (((xh_ui (xh_ui σ 72 (Int32.toNatClampNeg k1) k2) 73 (Int32.toNatClampNeg x1) (((xh_ui σ 72 (Int32.toNatClampNeg k1) k2) 73 (Int32.toNatClampNeg (40 + x1))) - 100)) 74 (Int32.toNatClampNeg (40 + x1))) - 100)) 75 (Int32.toNatClampNeg (40 + x1))) - 300)) 76 (Int32.toNatClampNeg (40 + x1))) - 300)) 77 (Int32.toNatClampNeg x1) ((xh_ui (xh_ui (xh_ui (xh_ui (xh_ui σ 72 (Int32.toNatClampNeg k1) k2) 73 (Int32.toNatClampNeg x1) (((xh_ui σ 72 (Int32.toNatClampNeg k1) k2) 73 (Int32.toNatClampNeg (40 + x1))) - 100)) 74 (Int32.toNatClampNeg x1) (((xh_ui (xh_ui σ 72 (Int32.toNatClampNeg k1) k2) 73 (Int32.toNatClampNeg x1) (((xh_ui σ 72 (Int32.toNatClampNeg k1) k2) 73 (Int32.toNatClampNeg (40 + x1))) - 100)) 74 (Int32.toNatClampNeg (40 + x1))) - 100)) 75 (Int32.toNatClampNeg x1) (((xh_ui (xh_ui (xh_ui σ 72 (Int32.toNatClampNeg k1) k2) 73 (Int32.toNatClampNeg x1) (((xh_ui σ 72 (Int32.toNatClampNeg k1) k2) 73 (Int32.toNatClampNeg (40 + x1))) - 100)) 74 (Int32.toNatClampNeg x1) (((xh_ui (xh_ui σ 72 (Int32.toNatClampNeg k1) k2) 73 (Int32.toNatClampNeg x1) (((xh_ui σ 72 (Int32.toNatClampNeg k1) k2) 73 (Int32.toNatClampNeg (40 + x1))) - 100)) 74 (Int32.toNatClampNeg (40 + x1))) - 100)) 75 (Int32.toNatClampNeg (40 + x1))) - 300)) 76 (Int32.toNatClampNeg x1) (((xh_ui (xh_ui (xh_ui (xh_ui σ 72 (Int32.toNatClampNeg k1) k2) 73 (Int32.toNatClampNeg x1) (((xh_ui σ 72 (Int32.toNatClampNeg k1) k2) 73 (Int32.toNatClampNeg (40 + x1))) - 100)) 74 (Int32.toNatClampNeg x1) (((xh_ui (xh_ui σ 72 (Int32.toNatClampNeg k1) k2) 73 (Int32.toNatClampNeg x1) (((xh_ui σ 72 (Int32.toNatClampNeg k1) k2) 73 (Int32.toNatClampNeg (40 + x1))) - 100)) 74 (Int32.toNatClampNeg (40 + x1))) - 100)) 75 (Int32.toNatClampNeg x1) (((xh_ui (xh_ui (xh_ui σ 72 (Int32.toNatClampNeg k1) k2) 73 (Int32.toNatClampNeg x1) (((xh_ui σ 72 (Int32.toNatClampNeg k1) k2) 73 (Int32.toNatClampNeg (40 + x1))) - 100)) 74 (Int32.toNatClampNeg x1) (((xh_ui (xh_ui σ 72 (Int32.toNatClampNeg k1) k2) 73 (Int32.toNatClampNeg x1) (((xh_ui σ 72 (Int32.toNatClampNeg k1) k2) 73 (Int32.toNatClampNeg (40 + x1))) - 100)) 74 (Int32.toNatClampNeg (40 + x1))) - 100)) 75 (Int32.toNatClampNeg (40 + x1))) - 300)) 76 (Int32.toNatClampNeg (40 + x1))) - 300)) 77 (Int32.toNatClampNeg (40 + x1)))) 78 (Int32.toNatClampNeg x1) ((xh_ui (xh_ui (xh_ui (xh_ui (xh_ui (xh_ui σ 72 (Int32.toNatClampNeg k1) k2) 73 (Int32.toNatClampNeg x1) (((xh_ui σ 72 (Int32.toNatClampNeg k1) k2) 73 (Int32.toNatClampNeg (40 + x1))) - 100)) 74 (Int32.toNatClampNeg x1) (((xh_ui (xh_ui σ 72 (Int32.toNatClampNeg k1) k2) 73 (Int32.toNatClampNeg x1) (((xh_ui σ 72 (Int32.toNatClampNeg k1) k2) 73 (Int32.toNatClampNeg (40 + x1))) - 100)) 74 (Int32.toNatClampNeg (40 + x1))) - 100)) 75 (Int32.toNatClampNeg x1) (((xh_ui (xh_ui (xh_ui σ 72 (Int32.toNatClampNeg k1) k2) 73 (Int32.toNatClampNeg x1) (((xh_ui σ 72 (Int32.toNatClampNeg k1) k2) 73 (Int32.toNatClampNeg (40 + x1))) - 100)) 74 (Int32.toNatClampNeg x1) (((xh_ui (xh_ui σ 72 (Int32.toNatClampNeg k1) k2) 73 (Int32.toNatClampNeg x1) (((xh_ui σ 72 (Int32.toNatClampNeg k1) k2) 73 (Int32.toNatClampNeg (40 + x1))) - 100)) 74 (Int32.toNatClampNeg (40 + x1))) - 100)) 75 (Int32.toNatClampNeg (40 + x1))) - 300)) 76 (Int32.toNatClampNeg x1) (((xh_ui (xh_ui (xh_ui (xh_ui σ 72 (Int32.toNatClampNeg k1) k2) 73 (Int32.toNatClampNeg x1) (((xh_ui σ 72 (Int32.toNatClampNeg k1) k2) 73 (Int32.toNatClampNeg (40 + x1))) - 100)) 74 (Int32.toNatClampNeg x1) (((xh_ui (xh_ui σ 72 (Int32.toNatClampNeg k1) k2) 73 (Int32.toNatClampNeg x1) (((xh_ui σ 72 (Int32.toNatClampNeg k1) k2) 73 (Int32.toNatClampNeg (40 + x1))) - 100)) 74 (Int32.toNatClampNeg (40 + x1))) - 100)) 75 (Int32.toNatClampNeg x1) (((xh_ui (xh_ui (xh_ui σ 72 (Int32.toNatClampNeg k1) k2) 73 (Int32.toNatClampNeg x1) (((xh_ui σ 72 (Int32.toNatClampNeg k1) k2) 73 (Int32.toNatClampNeg (40 + x1))) - 100)) 74 (Int32.toNatClampNeg x1) (((xh_ui (xh_ui σ 72 (Int32.toNatClampNeg k1) k2) 73 (Int32.toNatClampNeg x1) (((xh_ui σ 72 (Int32.toNatClampNeg k1) k2) 73 (Int32.toNatClampNeg (40 + x1))) - 100)) 74 (Int32.toNatClampNeg (40 + x1))) - 100)) 75 (Int32.toNatClampNeg (40 + x1))) - 300)) 76 (Int32.toNatClampNeg (40 + x1))) - 300)) 77 (Int32.toNatClampNeg x1) ((xh_ui (xh_ui (xh_ui (xh_ui (xh_ui σ 72 (Int32.toNatClampNeg k1) k2) 73 (Int32.toNatClampNeg x1) (((xh_ui σ 72 (Int32.toNatClampNeg k1) k2) 73 (Int32.toNatClampNeg (40 + x1))) - 100)) 74 (Int32.toNatClampNeg x1) (((xh_ui (xh_ui σ 72 (Int32.toNatClampNeg k1) k2) 73 (Int32.toNatClampNeg x1) (((xh_ui σ 72 (Int32.toNatClampNeg k1) k2) 73 (Int32.toNatClampNeg (40 + x1))) - 100)) 74 (Int32.toNatClampNeg (40 + x1))) - 100)) 75 (Int32.toNatClampNeg x1) (((xh_ui (xh_ui (xh_ui σ 72 (Int32.toNatClampNeg k1) k2) 73 (Int32.toNatClampNeg x1) (((xh_ui σ 72 (Int32.toNatClampNeg k1) k2) 73 (Int32.toNatClampNeg (40 + x1))) - 100)) 74 (Int32.toNatClampNeg x1) (((xh_ui (xh_ui σ 72 (Int32.toNatClampNeg k1) k2) 73 (Int32.toNatClampNeg x1) (((xh_ui σ 72 (Int32.toNatClampNeg k1) k2) 73 (Int32.toNatClampNeg (40 + x1))) - 100)) 74 (Int32.toNatClampNeg (40 + x1))) - 100)) 75 (Int32.toNatClampNeg (40 + x1))) - 300)) 76 (Int32.toNatClampNeg x1) (((xh_ui (xh_ui (xh_ui (xh_ui σ 72 (Int32.toNatClampNeg k1) k2) 73 (Int32.toNatClampNeg x1) (((xh_ui σ 72 (Int32.toNatClampNeg k1) k2) 73 (Int32.toNatClampNeg (40 + x1))) - 100)) 74 (Int32.toNatClampNeg x1) (((xh_ui (xh_ui σ 72 (Int32.toNatClampNeg k1) k2) 73 (Int32.toNatClampNeg x1) (((xh_ui σ 72 (Int32.toNatClampNeg k1) k2) 73 (Int32.toNatClampNeg (40 + x1))) - 100)) 74 (Int32.toNatClampNeg (40 + x1))) - 100)) 75 (Int32.toNatClampNeg x1) (((xh_ui (xh_ui (xh_ui σ 72 (Int32.toNatClampNeg k1) k2) 73 (Int32.toNatClampNeg x1) (((xh_ui σ 72 (Int32.toNatClampNeg k1) k2) 73 (Int32.toNatClampNeg (40 + x1))) - 100)) 74 (Int32.toNatClampNeg x1) (((xh_ui (xh_ui σ 72 (Int32.toNatClampNeg k1) k2) 73 (Int32.toNatClampNeg x1) (((xh_ui σ 72 (Int32.toNatClampNeg k1) k2) 73 (Int32.toNatClampNeg (40 + x1))) - 100)) 74 (Int32.toNatClampNeg (40 + x1))) - 100)) 75 (Int32.toNatClampNeg (40 + x1))) - 300)) 76 (Int32.toNatClampNeg (40 + x1))) - 300)) 77 (Int32.toNatClampNeg (40 + x1)))) 78 (Int32.toNatClampNeg (40 + x1)))))) else none) else none) else none)
def g187_14b (x1 : Int32) (σ : xS) : Option ((Int32 × xS) ⊕ xQ) := (if (σ 70 1) ≤ x1 then Option.map Sum.inr (g187_186 0 σ) else (bif xn (40 + x1) 80 then (bif xn x1 80 then (if ((xh_ui σ 71 (Int32.toNatClampNeg x1) (σ 71 (Int32.toNatClampNeg (40 + x1)))) 72 (Int32.toNatClampNeg (40 + x1))) = (-1) then g187_73 x1 x1 (-1) (xh_ui σ 71 (Int32.toNatClampNeg x1) (σ 71 (Int32.toNatClampNeg (40 + x1)))) else g187_73 x1 x1 (((xh_ui σ 71 (Int32.toNatClampNeg x1) (σ 71 (Int32.toNatClampNeg (40 + x1)))) 72 (Int32.toNatClampNeg (40 + x1))) - 40) (xh_ui σ 71 (Int32.toNatClampNeg x1) (σ 71 (Int32.toNatClampNeg (40 + x1))))) else none) else none))
def g187_14 (x1 : Int32) (σ : xS) : Option xQ := xlo (fun a : Int32 × xS => g187_14b a.1 a.2) 1000 (x1, σ)
def g187  (σ : xS) : xO := g187_14 0 (xh_ui σ 70 0 (σ 70 1))
def a187_277 (l : Launch) (Ω : xo_O) (d p : Nat) (τ : Nat → Nat → Int64) (r : xv_R) : Int32 × xS → Prop := fun a => xv l Ω d 0 0 187 277 [some (.ref 53), some (.int a.1)] [] (hM p a.2 τ) r
def a187_186 (l : Launch) (Ω : xo_O) (d p : Nat) (τ : Nat → Nat → Int64) (r : xv_R) : Int32 × xS → Prop := fun a => xv l Ω d 0 0 187 186 [some (.ref 53), some (.int a.1)] [] (hM p a.2 τ) r
def a187_14 (l : Launch) (Ω : xo_O) (d p : Nat) (τ : Nat → Nat → Int64) (r : xv_R) : Int32 × xS → Prop := fun a => xv l Ω d 0 0 187 14 [some (.ref 53), some (.int a.1)] [] (hM p a.2 τ) r
theorem g187_332_ok {l : Launch} {Ω : xo_O} (htr : xH l) (d : Nat) (p : Nat) (τ : Nat → Nat → Int64) (x1 : Int32) (k1 : Int32) (k2 : Int32) (σ : xS) (r : xv_R) (H : xo (xd (a187_277 l Ω d p τ r) (xB true p τ r)) (g187_332 x1 k1 k2 σ)) : xv l Ω d 0 0 187 332 [some (.ref 53), some (.int x1)] [.int k2, .int k1, .ref 84] (hM p σ τ) r := by
  unfold g187_332 at H
  cases g6 : xn k1 600 with
  | false => rw [g6, cond_false] at H; exact False.elim H
  | true =>
    rw [g6, cond_true] at H
    refine xp_ok htr 3 d 0 0 [] 187 332 [some (.ref 53), some (.int x1)] [.int k2, .int k1, .ref 84] (hM p σ τ) ⟨(xn_in g6), ?_⟩
    show xv l Ω d 0 0 187 277 [some (.ref 53), some (.int (x1 + 1))] [] (hM p (xh_ui σ 84 (Int32.toNatClampNeg k1) k2) τ) r
    exact xv_sub (L' := [some (.ref 53), some (.int (x1 + 1))]) ⟨rfl, ⟨rfl, trivial⟩⟩ H
theorem g187_277b_ok {l : Launch} {Ω : xo_O} (htr : xH l) (d : Nat) (p : Nat) (τ : Nat → Nat → Int64) (x1 : Int32) (σ : xS) (r : xv_R) (H : xo (xd (a187_277 l Ω d p τ r) (xB true p τ r)) (g187_277b x1 σ)) : xv l Ω d 0 0 187 277 [some (.ref 53), some (.int x1)] [] (hM p σ τ) r := by
  unfold g187_277b at H
  by_cases h3 : (σ 53 32) ≤ x1
  · rw [if_pos h3] at H
    refine xp_ok htr 4 d 0 0 [eB true] 187 277 [some (.ref 53), some (.int x1)] [] (hM p σ τ) ⟨h3, ?_⟩
    show xv l Ω d 0 0 187 339 [some (.ref 53), some (.int x1)] [] (hM p σ τ) r
    exact xp_ok htr 1 d 0 0 [] 187 339 [some (.ref 53), some (.int x1)] [] (hM p σ τ) ⟨trivial, (Eq.symm H)⟩
  · rw [if_neg h3] at H
    refine xp_ok htr 4 d 0 0 [eB false] 187 277 [some (.ref 53), some (.int x1)] [] (hM p σ τ) ⟨h3, ?_⟩
    show xv l Ω d 0 0 187 285 [some (.ref 53), some (.int x1)] [] (hM p σ τ) r
    refine xp_ok htr 8 d 0 0 [] 187 285 [some (.ref 53), some (.int x1)] [] (hM p σ τ) ?_
    show xv l Ω d 0 0 187 299 [some (.ref 53), some (.int x1)] [.int (300 + x1), .ref 84, .int x1, .ref 84] (hM p σ τ) r
    cases g4 : xn (300 + x1) 600 with
    | false => rw [g4, cond_false] at H; exact False.elim H
    | true =>
      rw [g4, cond_true] at H
      by_cases h5 : 1000 ≤ (σ 84 (Int32.toNatClampNeg (300 + x1)))
      · rw [if_pos h5] at H
        refine xp_ok htr 3 d 0 0 [eB true] 187 299 [some (.ref 53), some (.int x1)] [.int (300 + x1), .ref 84, .int x1, .ref 84] (hM p σ τ) ⟨(xn_in g4), h5, ?_⟩
        show xv l Ω d 0 0 187 322 [some (.ref 53), some (.int x1)] [.int x1, .ref 84] (hM p σ τ) r
        refine xp_ok htr 6 d 0 0 [] 187 322 [some (.ref 53), some (.int x1)] [.int x1, .ref 84] (hM p σ τ) ⟨(xn_in g4), ?_⟩
        show xv l Ω d 0 0 187 332 [some (.ref 53), some (.int x1)] [.int (σ 84 (Int32.toNatClampNeg (300 + x1))), .int x1, .ref 84] (hM p σ τ) r
        exact xv_sub (L' := [some (.ref 53), some (.int x1)]) ⟨rfl, ⟨rfl, trivial⟩⟩ (g187_332_ok htr d p τ x1 x1 (σ 84 (Int32.toNatClampNeg (300 + x1))) σ r H)
      · rw [if_neg h5] at H
        refine xp_ok htr 3 d 0 0 [eB false] 187 299 [some (.ref 53), some (.int x1)] [.int (300 + x1), .ref 84, .int x1, .ref 84] (hM p σ τ) ⟨(xn_in g4), h5, ?_⟩
        show xv l Ω d 0 0 187 306 [some (.ref 53), some (.int x1)] [.int x1, .ref 84] (hM p σ τ) r
        refine xp_ok htr 8 d 0 0 [] 187 306 [some (.ref 53), some (.int x1)] [.int x1, .ref 84] (hM p σ τ) ⟨(xn_in g4), ?_⟩
        show xv l Ω d 0 0 187 319 [some (.ref 53), some (.int x1)] [.int ((σ 84 (Int32.toNatClampNeg (300 + x1))) - 100), .int x1, .ref 84] (hM p σ τ) r
        refine xp_ok htr 1 d 0 0 [] 187 319 [some (.ref 53), some (.int x1)] [.int ((σ 84 (Int32.toNatClampNeg (300 + x1))) - 100), .int x1, .ref 84] (hM p σ τ) ?_
        show xv l Ω d 0 0 187 332 [some (.ref 53), some (.int x1)] [.int ((σ 84 (Int32.toNatClampNeg (300 + x1))) - 100), .int x1, .ref 84] (hM p σ τ) r
        exact xv_sub (L' := [some (.ref 53), some (.int x1)]) ⟨rfl, ⟨rfl, trivial⟩⟩ (g187_332_ok htr d p τ x1 x1 ((σ 84 (Int32.toNatClampNeg (300 + x1))) - 100) σ r H)
theorem g187_277_ok {l : Launch} {Ω : xo_O} (htr : xH l) (d : Nat) (p : Nat) (τ : Nat → Nat → Int64) (x1 : Int32) (σ : xS) (r : xv_R) (H : xo (xB true p τ r) (g187_277 x1 σ)) : xv l Ω d 0 0 187 277 [some (.ref 53), some (.int x1)] [] (hM p σ τ) r :=
  xlo_ok (A := a187_277 l Ω d p τ r) (fun a H => g187_277b_ok htr d p τ a.1 a.2 r H) 1000 (x1, σ) H
theorem g187_186b_ok {l : Launch} {Ω : xo_O} (htr : xH l) (d : Nat) (p : Nat) (τ : Nat → Nat → Int64) (x1 : Int32) (σ : xS) (r : xv_R) (H : xo (xd (a187_186 l Ω d p τ r) (xB true p τ r)) (g187_186b x1 σ)) : xv l Ω d 0 0 187 186 [some (.ref 53), some (.int x1)] [] (hM p σ τ) r := by
  unfold g187_186b at H
  by_cases h2 : (σ 53 31) ≤ x1
  · rw [if_pos h2] at H
    refine xp_ok htr 4 d 0 0 [eB true] 187 186 [some (.ref 53), some (.int x1)] [] (hM p σ τ) ⟨h2, ?_⟩
    show xv l Ω d 0 0 187 275 [some (.ref 53), some (.int x1)] [] (hM p σ τ) r
    refine xp_ok htr 2 d 0 0 [] 187 275 [some (.ref 53), some (.int x1)] [] (hM p σ τ) ?_
    show xv l Ω d 0 0 187 277 [some (.ref 53), some (.int 0)] [] (hM p σ τ) r
    exact xv_sub (L' := [some (.ref 53), some (.int 0)]) ⟨rfl, ⟨rfl, trivial⟩⟩ (g187_277_ok htr d p τ 0 σ r (xo_map H))
  · rw [if_neg h2] at H
    refine xp_ok htr 4 d 0 0 [eB false] 187 186 [some (.ref 53), some (.int x1)] [] (hM p σ τ) ⟨h2, ?_⟩
    show xv l Ω d 0 0 187 194 [some (.ref 53), some (.int x1)] [] (hM p σ τ) r
    refine xp_ok htr 8 d 0 0 [] 187 194 [some (.ref 53), some (.int x1)] [] (hM p σ τ) ?_
    show xv l Ω d 0 0 187 207 [some (.ref 53), some (.int x1)] [.int (100 + x1), .ref 79, .int x1, .ref 79] (hM p σ τ) r
    cases g7 : xn (100 + x1) 200 with
    | false => rw [g7, cond_false] at H; exact False.elim H
    | true =>
      rw [g7, cond_true] at H
      cases g8 : xn x1 200 with
      | false => rw [g8, cond_false] at H; exact False.elim H
      | true =>
        rw [g8, cond_true] at H
        refine xp_ok htr 8 d 0 0 [] 187 207 [some (.ref 53), some (.int x1)] [.int (100 + x1), .ref 79, .int x1, .ref 79] (hM p σ τ) ⟨(xn_in g7), (xn_in g8), ?_⟩
        show xv l Ω d 0 0 187 220 [some (.ref 53), some (.int x1)] [.int 100, .ref 80, .int x1, .ref 80] (hM p (xh_ui σ 79 (Int32.toNatClampNeg x1) (σ 79 (Int32.toNatClampNeg (100 + x1)))) τ) r
        refine xp_ok htr 8 d 0 0 [] 187 220 [some (.ref 53), some (.int x1)] [.int 100, .ref 80, .int x1, .ref 80] (hM p (xh_ui σ 79 (Int32.toNatClampNeg x1) (σ 79 (Int32.toNatClampNeg (100 + x1)))) τ) ⟨(xn_in g7), (xn_in g8), ?_⟩
        show xv l Ω d 0 0 187 230 [some (.ref 53), some (.int x1)] [.ref 53, .int x1, .ref 81] (hM p (xh_ui (xh_ui σ 79 (Int32.toNatClampNeg x1) (σ 79 (Int32.toNatClampNeg (100 + x1)))) 80 (Int32.toNatClampNeg x1) ((xh_ui σ 79 (Int32.toNatClampNeg x1) (σ 79 (Int32.toNatClampNeg (100 + x1)))) 80 (Int32.toNatClampNeg (100 + x1)))) τ) r
        refine xp_ok htr 8 d 0 0 [] 187 230 [some (.ref 53), some (.int x1)] [.ref 53, .int x1, .ref 81] (hM p (xh_ui (xh_ui σ 79 (Int32.toNatClampNeg x1) (σ 79 (Int32.toNatClampNeg (100 + x1)))) 80 (Int32.toNatClampNeg x1) ((xh_ui σ 79 (Int32.toNatClampNeg x1) (σ 79 (Int32.toNatClampNeg (100 + x1)))) 80 (Int32.toNatClampNeg (100 + x1)))) τ) ⟨(xn_in g7), (xn_in g8), ?_⟩
        show xv l Ω d 0 0 187 243 [some (.ref 53), some (.int x1)] [.ref 82] (hM p (xh_ui (xh_ui (xh_ui σ 79 (Int32.toNatClampNeg x1) (σ 79 (Int32.toNatClampNeg (100 + x1)))) 80 (Int32.toNatClampNeg x1) ((xh_ui σ 79 (Int32.toNatClampNeg x1) (σ 79 (Int32.toNatClampNeg (100 + x1)))) 80 (Int32.toNatClampNeg (100 + x1)))) 81 (Int32.toNatClampNeg x1) ((xh_ui (xh_ui σ 79 (Int32.toNatClampNeg x1) (σ 79 (Int32.toNatClampNeg (100 + x1)))) 80 (Int32.toNatClampNeg x1) ((xh_ui σ 79 (Int32.toNatClampNeg x1) (σ 79 (Int32.toNatClampNeg (100 + x1)))) 80 (Int32.toNatClampNeg (100 + x1)))) 81 (Int32.toNatClampNeg (100 + x1)))) τ) r
        refine xp_ok htr 8 d 0 0 [] 187 243 [some (.ref 53), some (.int x1)] [.ref 82] (hM p (xh_ui (xh_ui (xh_ui σ 79 (Int32.toNatClampNeg x1) (σ 79 (Int32.toNatClampNeg (100 + x1)))) 80 (Int32.toNatClampNeg x1) ((xh_ui σ 79 (Int32.toNatClampNeg x1) (σ 79 (Int32.toNatClampNeg (100 + x1)))) 80 (Int32.toNatClampNeg (100 + x1)))) 81 (Int32.toNatClampNeg x1) ((xh_ui (xh_ui σ 79 (Int32.toNatClampNeg x1) (σ 79 (Int32.toNatClampNeg (100 + x1)))) 80 (Int32.toNatClampNeg x1) ((xh_ui σ 79 (Int32.toNatClampNeg x1) (σ 79 (Int32.toNatClampNeg (100 + x1)))) 80 (Int32.toNatClampNeg (100 + x1)))) 81 (Int32.toNatClampNeg (100 + x1)))) τ) ⟨(xn_in g7), (xn_in g8), ?_⟩
        show xv l Ω d 0 0 187 254 [some (.ref 53), some (.int x1)] [] (hM p (xh_ui (xh_ui (xh_ui (xh_ui σ 79 (Int32.toNatClampNeg x1) (σ 79 (Int32.toNatClampNeg (100 + x1)))) 80 (Int32.toNatClampNeg x1) ((xh_ui σ 79 (Int32.toNatClampNeg x1) (σ 79 (Int32.toNatClampNeg (100 + x1)))) 80 (Int32.toNatClampNeg (100 + x1)))) 81 (Int32.toNatClampNeg x1) ((xh_ui (xh_ui σ 79 (Int32.toNatClampNeg x1) (σ 79 (Int32.toNatClampNeg (100 + x1)))) 80 (Int32.toNatClampNeg x1) ((xh_ui σ 79 (Int32.toNatClampNeg x1) (σ 79 (Int32.toNatClampNeg (100 + x1)))) 80 (Int32.toNatClampNeg (100 + x1)))) 81 (Int32.toNatClampNeg (100 + x1)))) 82 (Int32.toNatClampNeg x1) (vp_nar .boolean ((xh_ui (xh_ui (xh_ui σ 79 (Int32.toNatClampNeg x1) (σ 79 (Int32.toNatClampNeg (100 + x1)))) 80 (Int32.toNatClampNeg x1) ((xh_ui σ 79 (Int32.toNatClampNeg x1) (σ 79 (Int32.toNatClampNeg (100 + x1)))) 80 (Int32.toNatClampNeg (100 + x1)))) 81 (Int32.toNatClampNeg x1) ((xh_ui (xh_ui σ 79 (Int32.toNatClampNeg x1) (σ 79 (Int32.toNatClampNeg (100 + x1)))) 80 (Int32.toNatClampNeg x1) ((xh_ui σ 79 (Int32.toNatClampNeg x1) (σ 79 (Int32.toNatClampNeg (100 + x1)))) 80 (Int32.toNatClampNeg (100 + x1)))) 81 (Int32.toNatClampNeg (100 + x1)))) 82 (Int32.toNatClampNeg (100 + x1))))) τ) r
        refine xp_ok htr 8 d 0 0 [] 187 254 [some (.ref 53), some (.int x1)] [] (hM p (xh_ui (xh_ui (xh_ui (xh_ui σ 79 (Int32.toNatClampNeg x1) (σ 79 (Int32.toNatClampNeg (100 + x1)))) 80 (Int32.toNatClampNeg x1) ((xh_ui σ 79 (Int32.toNatClampNeg x1) (σ 79 (Int32.toNatClampNeg (100 + x1)))) 80 (Int32.toNatClampNeg (100 + x1)))) 81 (Int32.toNatClampNeg x1) ((xh_ui (xh_ui σ 79 (Int32.toNatClampNeg x1) (σ 79 (Int32.toNatClampNeg (100 + x1)))) 80 (Int32.toNatClampNeg x1) ((xh_ui σ 79 (Int32.toNatClampNeg x1) (σ 79 (Int32.toNatClampNeg (100 + x1)))) 80 (Int32.toNatClampNeg (100 + x1)))) 81 (Int32.toNatClampNeg (100 + x1)))) 82 (Int32.toNatClampNeg x1) (vp_nar .boolean ((xh_ui (xh_ui (xh_ui σ 79 (Int32.toNatClampNeg x1) (σ 79 (Int32.toNatClampNeg (100 + x1)))) 80 (Int32.toNatClampNeg x1) ((xh_ui σ 79 (Int32.toNatClampNeg x1) (σ 79 (Int32.toNatClampNeg (100 + x1)))) 80 (Int32.toNatClampNeg (100 + x1)))) 81 (Int32.toNatClampNeg x1) ((xh_ui (xh_ui σ 79 (Int32.toNatClampNeg x1) (σ 79 (Int32.toNatClampNeg (100 + x1)))) 80 (Int32.toNatClampNeg x1) ((xh_ui σ 79 (Int32.toNatClampNeg x1) (σ 79 (Int32.toNatClampNeg (100 + x1)))) 80 (Int32.toNatClampNeg (100 + x1)))) 81 (Int32.toNatClampNeg (100 + x1)))) 82 (Int32.toNatClampNeg (100 + x1))))) τ) ?_
        show xv l Ω d 0 0 187 267 [some (.ref 53), some (.int x1)] [.int (100 + x1), .ref 83, .int x1, .ref 83] (hM p (xh_ui (xh_ui (xh_ui (xh_ui σ 79 (Int32.toNatClampNeg x1) (σ 79 (Int32.toNatClampNeg (100 + x1)))) 80 (Int32.toNatClampNeg x1) ((xh_ui σ 79 (Int32.toNatClampNeg x1) (σ 79 (Int32.toNatClampNeg (100 + x1)))) 80 (Int32.toNatClampNeg (100 + x1)))) 81 (Int32.toNatClampNeg x1) ((xh_ui (xh_ui σ 79 (Int32.toNatClampNeg x1) (σ 79 (Int32.toNatClampNeg (100 + x1)))) 80 (Int32.toNatClampNeg x1) ((xh_ui σ 79 (Int32.toNatClampNeg x1) (σ 79 (Int32.toNatClampNeg (100 + x1)))) 80 (Int32.toNatClampNeg (100 + x1)))) 81 (Int32.toNatClampNeg (100 + x1)))) 82 (Int32.toNatClampNeg x1) (vp_nar .boolean ((xh_ui (xh_ui (xh_ui σ 79 (Int32.toNatClampNeg x1) (σ 79 (Int32.toNatClampNeg (100 + x1)))) 80 (Int32.toNatClampNeg x1) ((xh_ui σ 79 (Int32.toNatClampNeg x1) (σ 79 (Int32.toNatClampNeg (100 + x1)))) 80 (Int32.toNatClampNeg (100 + x1)))) 81 (Int32.toNatClampNeg x1) ((xh_ui (xh_ui σ 79 (Int32.toNatClampNeg x1) (σ 79 (Int32.toNatClampNeg (100 + x1)))) 80 (Int32.toNatClampNeg x1) ((xh_ui σ 79 (Int32.toNatClampNeg x1) (σ 79 (Int32.toNatClampNeg (100 + x1)))) 80 (Int32.toNatClampNeg (100 + x1)))) 81 (Int32.toNatClampNeg (100 + x1)))) 82 (Int32.toNatClampNeg (100 + x1))))) τ) r
        refine xp_ok htr 4 d 0 0 [] 187 267 [some (.ref 53), some (.int x1)] [.int (100 + x1), .ref 83, .int x1, .ref 83] (hM p (xh_ui (xh_ui (xh_ui (xh_ui σ 79 (Int32.toNatClampNeg x1) (σ 79 (Int32.toNatClampNeg (100 + x1)))) 80 (Int32.toNatClampNeg x1) ((xh_ui σ 79 (Int32.toNatClampNeg x1) (σ 79 (Int32.toNatClampNeg (100 + x1)))) 80 (Int32.toNatClampNeg (100 + x1)))) 81 (Int32.toNatClampNeg x1) ((xh_ui (xh_ui σ 79 (Int32.toNatClampNeg x1) (σ 79 (Int32.toNatClampNeg (100 + x1)))) 80 (Int32.toNatClampNeg x1) ((xh_ui σ 79 (Int32.toNatClampNeg x1) (σ 79 (Int32.toNatClampNeg (100 + x1)))) 80 (Int32.toNatClampNeg (100 + x1)))) 81 (Int32.toNatClampNeg (100 + x1)))) 82 (Int32.toNatClampNeg x1) (vp_nar .boolean ((xh_ui (xh_ui (xh_ui σ 79 (Int32.toNatClampNeg x1) (σ 79 (Int32.toNatClampNeg (100 + x1)))) 80 (Int32.toNatClampNeg x1) ((xh_ui σ 79 (Int32.toNatClampNeg x1) (σ 79 (Int32.toNatClampNeg (100 + x1)))) 80 (Int32.toNatClampNeg (100 + x1)))) 81 (Int32.toNatClampNeg x1) ((xh_ui (xh_ui σ 79 (Int32.toNatClampNeg x1) (σ 79 (Int32.toNatClampNeg (100 + x1)))) 80 (Int32.toNatClampNeg x1) ((xh_ui σ 79 (Int32.toNatClampNeg x1) (σ 79 (Int32.toNatClampNeg (100 + x1)))) 80 (Int32.toNatClampNeg (100 + x1)))) 81 (Int32.toNatClampNeg (100 + x1)))) 82 (Int32.toNatClampNeg (100 + x1))))) τ) ⟨(xn_in g7), (xn_in g8), ?_⟩
        show xv l Ω d 0 0 187 186 [some (.ref 53), some (.int (x1 + 1))] [] (hM p (xh_ui (xh_ui (xh_ui (xh_ui (xh_ui σ 79 (Int32.toNatClampNeg x1) (σ 79 (Int32.toNatClampNeg (100 + x1)))) 80 (Int32.toNatClampNeg x1) ((xh_ui σ 79 (Int32.toNatClampNeg x1) (σ 79 (Int32.toNatClampNeg (100 + x1)))) 80 (Int32.toNatClampNeg (100 + x1)))) 81 (Int32.toNatClampNeg x1) ((xh_ui (xh_ui σ 79 (Int32.toNatClampNeg x1) (σ 79 (Int32.toNatClampNeg (100 + x1)))) 80 (Int32.toNatClampNeg x1) ((xh_ui σ 79 (Int32.toNatClampNeg x1) (σ 79 (Int32.toNatClampNeg (100 + x1)))) 80 (Int32.toNatClampNeg (100 + x1)))) 81 (Int32.toNatClampNeg (100 + x1)))) 82 (Int32.toNatClampNeg x1) (vp_nar .boolean ((xh_ui (xh_ui (xh_ui σ 79 (Int32.toNatClampNeg x1) (σ 79 (Int32.toNatClampNeg (100 + x1)))) 80 (Int32.toNatClampNeg x1) ((xh_ui σ 79 (Int32.toNatClampNeg x1) (σ 79 (Int32.toNatClampNeg (100 + x1)))) 80 (Int32.toNatClampNeg (100 + x1)))) 81 (Int32.toNatClampNeg x1) ((xh_ui (xh_ui σ 79 (Int32.toNatClampNeg x1) (σ 79 (Int32.toNatClampNeg (100 + x1)))) 80 (Int32.toNatClampNeg x1) ((xh_ui σ 79 (Int32.toNatClampNeg x1) (σ 79 (Int32.toNatClampNeg (100 + x1)))) 80 (Int32.toNatClampNeg (100 + x1)))) 81 (Int32.toNatClampNeg (100 + x1)))) 82 (Int32.toNatClampNeg (100 + x1))))) 83 (Int32.toNatClampNeg x1) (vp_nar .boolean ((xh_ui (xh_ui (xh_ui (xh_ui σ 79 (Int32.toNatClampNeg x1) (σ 79 (Int32.toNatClampNeg (100 + x1)))) 80 (Int32.toNatClampNeg x1) ((xh_ui σ 79 (Int32.toNatClampNeg x1) (σ 79 (Int32.toNatClampNeg (100 + x1)))) 80 (Int32.toNatClampNeg (100 + x1)))) 81 (Int32.toNatClampNeg x1) ((xh_ui (xh_ui σ 79 (Int32.toNatClampNeg x1) (σ 79 (Int32.toNatClampNeg (100 + x1)))) 80 (Int32.toNatClampNeg x1) ((xh_ui σ 79 (Int32.toNatClampNeg x1) (σ 79 (Int32.toNatClampNeg (100 + x1)))) 80 (Int32.toNatClampNeg (100 + x1)))) 81 (Int32.toNatClampNeg (100 + x1)))) 82 (Int32.toNatClampNeg x1) (vp_nar .boolean ((xh_ui (xh_ui (xh_ui σ 79 (Int32.toNatClampNeg x1) (σ 79 (Int32.toNatClampNeg (100 + x1)))) 80 (Int32.toNatClampNeg x1) ((xh_ui σ 79 (Int32.toNatClampNeg x1) (σ 79 (Int32.toNatClampNeg (100 + x1)))) 80 (Int32.toNatClampNeg (100 + x1)))) 81 (Int32.toNatClampNeg x1) ((xh_ui (xh_ui σ 79 (Int32.toNatClampNeg x1) (σ 79 (Int32.toNatClampNeg (100 + x1)))) 80 (Int32.toNatClampNeg x1) ((xh_ui σ 79 (Int32.toNatClampNeg x1) (σ 79 (Int32.toNatClampNeg (100 + x1)))) 80 (Int32.toNatClampNeg (100 + x1)))) 81 (Int32.toNatClampNeg (100 + x1)))) 82 (Int32.toNatClampNeg (100 + x1))))) 83 (Int32.toNatClampNeg (100 + x1))))) τ) r
        exact xv_sub (L' := [some (.ref 53), some (.int (x1 + 1))]) ⟨rfl, ⟨rfl, trivial⟩⟩ H
theorem g187_186_ok {l : Launch} {Ω : xo_O} (htr : xH l) (d : Nat) (p : Nat) (τ : Nat → Nat → Int64) (x1 : Int32) (σ : xS) (r : xv_R) (H : xo (xB true p τ r) (g187_186 x1 σ)) : xv l Ω d 0 0 187 186 [some (.ref 53), some (.int x1)] [] (hM p σ τ) r :=
  xlo_ok (A := a187_186 l Ω d p τ r) (fun a H => g187_186b_ok htr d p τ a.1 a.2 r H) 1000 (x1, σ) H
theorem g187_73_ok {l : Launch} {Ω : xo_O} (htr : xH l) (d : Nat) (p : Nat) (τ : Nat → Nat → Int64) (x1 : Int32) (k1 : Int32) (k2 : Int32) (σ : xS) (r : xv_R) (H : xo (xd (a187_14 l Ω d p τ r) (xB true p τ r)) (g187_73 x1 k1 k2 σ)) : xv l Ω d 0 0 187 73 [some (.ref 53), some (.int x1)] [.int k2, .int k1, .ref 72] (hM p σ τ) r := by
  unfold g187_73 at H
  cases g12 : xn k1 80 with
  | false => rw [g12, cond_false] at H; exact False.elim H
  | true =>
    rw [g12, cond_true] at H
    refine xp_ok htr 8 d 0 0 [] 187 73 [some (.ref 53), some (.int x1)] [.int k2, .int k1, .ref 72] (hM p σ τ) ⟨(xn_in g12), ?_⟩
    show xv l Ω d 0 0 187 86 [some (.ref 53), some (.int x1)] [.int x1, .int 40, .ref 73, .int x1, .ref 73] (hM p (xh_ui σ 72 (Int32.toNatClampNeg k1) k2) τ) r
    cases g13 : xn (40 + x1) 80 with
    | false => rw [g13, cond_false] at H; exact False.elim H
    | true =>
      rw [g13, cond_true] at H
      cases g14 : xn x1 80 with
      | false => rw [g14, cond_false] at H; exact False.elim H
      | true =>
        rw [g14, cond_true] at H
        refine xp_ok htr 8 d 0 0 [] 187 86 [some (.ref 53), some (.int x1)] [.int x1, .int 40, .ref 73, .int x1, .ref 73] (hM p (xh_ui σ 72 (Int32.toNatClampNeg k1) k2) τ) ⟨(xn_in g13), (xn_in g14), ?_⟩
        show xv l Ω d 0 0 187 97 [some (.ref 53), some (.int x1)] [.int x1, .ref 74] (hM p (xh_ui (xh_ui σ 72 (Int32.toNatClampNeg k1) k2) 73 (Int32.toNatClampNeg x1) (((xh_ui σ 72 (Int32.toNatClampNeg k1) k2) 73 (Int32.toNatClampNeg (40 + x1))) - 100)) τ) r
        refine xp_ok htr 8 d 0 0 [] 187 97 [some (.ref 53), some (.int x1)] [.int x1, .ref 74] (hM p (xh_ui (xh_ui σ 72 (Int32.toNatClampNeg k1) k2) 73 (Int32.toNatClampNeg x1) (((xh_ui σ 72 (Int32.toNatClampNeg k1) k2) 73 (Int32.toNatClampNeg (40 + x1))) - 100)) τ) ⟨(xn_in g13), ?_⟩
        show xv l Ω d 0 0 187 109 [some (.ref 53), some (.int x1)] [.int (((xh_ui (xh_ui σ 72 (Int32.toNatClampNeg k1) k2) 73 (Int32.toNatClampNeg x1) (((xh_ui σ 72 (Int32.toNatClampNeg k1) k2) 73 (Int32.toNatClampNeg (40 + x1))) - 100)) 74 (Int32.toNatClampNeg (40 + x1))) - 100), .int x1, .ref 74] (hM p (xh_ui (xh_ui σ 72 (Int32.toNatClampNeg k1) k2) 73 (Int32.toNatClampNeg x1) (((xh_ui σ 72 (Int32.toNatClampNeg k1) k2) 73 (Int32.toNatClampNeg (40 + x1))) - 100)) τ) r
        refine xp_ok htr 8 d 0 0 [] 187 109 [some (.ref 53), some (.int x1)] [.int (((xh_ui (xh_ui σ 72 (Int32.toNatClampNeg k1) k2) 73 (Int32.toNatClampNeg x1) (((xh_ui σ 72 (Int32.toNatClampNeg k1) k2) 73 (Int32.toNatClampNeg (40 + x1))) - 100)) 74 (Int32.toNatClampNeg (40 + x1))) - 100), .int x1, .ref 74] (hM p (xh_ui (xh_ui σ 72 (Int32.toNatClampNeg k1) k2) 73 (Int32.toNatClampNeg x1) (((xh_ui σ 72 (Int32.toNatClampNeg k1) k2) 73 (Int32.toNatClampNeg (40 + x1))) - 100)) τ) ⟨(xn_in g14), ?_⟩
        show xv l Ω d 0 0 187 122 [some (.ref 53), some (.int x1)] [.int x1, .int 40, .ref 75, .int x1, .ref 75] (hM p (xh_ui (xh_ui (xh_ui σ 72 (Int32.toNatClampNeg k1) k2) 73 (Int32.toNatClampNeg x1) (((xh_ui σ 72 (Int32.toNatClampNeg k1) k2) 73 (Int32.toNatClampNeg (40 + x1))) - 100)) 74 (Int32.toNatClampNeg x1) (((xh_ui (xh_ui σ 72 (Int32.toNatClampNeg k1) k2) 73 (Int32.toNatClampNeg x1) (((xh_ui σ 72 (Int32.toNatClampNeg k1) k2) 73 (Int32.toNatClampNeg (40 + x1))) - 100)) 74 (Int32.toNatClampNeg (40 + x1))) - 100)) τ) r
        refine xp_ok htr 8 d 0 0 [] 187 122 [some (.ref 53), some (.int x1)] [.int x1, .int 40, .ref 75, .int x1, .ref 75] (hM p (xh_ui (xh_ui (xh_ui σ 72 (Int32.toNatClampNeg k1) k2) 73 (Int32.toNatClampNeg x1) (((xh_ui σ 72 (Int32.toNatClampNeg k1) k2) 73 (Int32.toNatClampNeg (40 + x1))) - 100)) 74 (Int32.toNatClampNeg x1) (((xh_ui (xh_ui σ 72 (Int32.toNatClampNeg k1) k2) 73 (Int32.toNatClampNeg x1) (((xh_ui σ 72 (Int32.toNatClampNeg k1) k2) 73 (Int32.toNatClampNeg (40 + x1))) - 100)) 74 (Int32.toNatClampNeg (40 + x1))) - 100)) τ) ⟨(xn_in g13), (xn_in g14), ?_⟩
        show xv l Ω d 0 0 187 134 [some (.ref 53), some (.int x1)] [.int x1, .ref 76] (hM p (xh_ui (xh_ui (xh_ui (xh_ui σ 72 (Int32.toNatClampNeg k1) k2) 73 (Int32.toNatClampNeg x1) (((xh_ui σ 72 (Int32.toNatClampNeg k1) k2) 73 (Int32.toNatClampNeg (40 + x1))) - 100)) 74 (Int32.toNatClampNeg x1) (((xh_ui (xh_ui σ 72 (Int32.toNatClampNeg k1) k2) 73 (Int32.toNatClampNeg x1) (((xh_ui σ 72 (Int32.toNatClampNeg k1) k2) 73 (Int32.toNatClampNeg (40 + x1))) - 100)) 74 (Int32.toNatClampNeg (40 + x1))) - 100)) 75 (Int32.toNatClampNeg x1) (((xh_ui (xh_ui (xh_ui σ 72 (Int32.toNatClampNeg k1) k2) 73 (Int32.toNatClampNeg x1) (((xh_ui σ 72 (Int32.toNatClampNeg k1) k2) 73 (Int32.toNatClampNeg (40 + x1))) - 100)) 74 (Int32.toNatClampNeg x1) (((xh_ui (xh_ui σ 72 (Int32.toNatClampNeg k1) k2) 73 (Int32.toNatClampNeg x1) (((xh_ui σ 72 (Int32.toNatClampNeg k1) k2) 73 (Int32.toNatClampNeg (40 + x1))) - 100)) 74 (Int32.toNatClampNeg (40 + x1))) - 100)) 75 (Int32.toNatClampNeg (40 + x1))) - 300)) τ) r
        refine xp_ok htr 8 d 0 0 [] 187 134 [some (.ref 53), some (.int x1)] [.int x1, .ref 76] (hM p (xh_ui (xh_ui (xh_ui (xh_ui σ 72 (Int32.toNatClampNeg k1) k2) 73 (Int32.toNatClampNeg x1) (((xh_ui σ 72 (Int32.toNatClampNeg k1) k2) 73 (Int32.toNatClampNeg (40 + x1))) - 100)) 74 (Int32.toNatClampNeg x1) (((xh_ui (xh_ui σ 72 (Int32.toNatClampNeg k1) k2) 73 (Int32.toNatClampNeg x1) (((xh_ui σ 72 (Int32.toNatClampNeg k1) k2) 73 (Int32.toNatClampNeg (40 + x1))) - 100)) 74 (Int32.toNatClampNeg (40 + x1))) - 100)) 75 (Int32.toNatClampNeg x1) (((xh_ui (xh_ui (xh_ui σ 72 (Int32.toNatClampNeg k1) k2) 73 (Int32.toNatClampNeg x1) (((xh_ui σ 72 (Int32.toNatClampNeg k1) k2) 73 (Int32.toNatClampNeg (40 + x1))) - 100)) 74 (Int32.toNatClampNeg x1) (((xh_ui (xh_ui σ 72 (Int32.toNatClampNeg k1) k2) 73 (Int32.toNatClampNeg x1) (((xh_ui σ 72 (Int32.toNatClampNeg k1) k2) 73 (Int32.toNatClampNeg (40 + x1))) - 100)) 74 (Int32.toNatClampNeg (40 + x1))) - 100)) 75 (Int32.toNatClampNeg (40 + x1))) - 300)) τ) ⟨(xn_in g13), ?_⟩
        show xv l Ω d 0 0 187 147 [some (.ref 53), some (.int x1)] [.int (((xh_ui (xh_ui (xh_ui (xh_ui σ 72 (Int32.toNatClampNeg k1) k2) 73 (Int32.toNatClampNeg x1) (((xh_ui σ 72 (Int32.toNatClampNeg k1) k2) 73 (Int32.toNatClampNeg (40 + x1))) - 100)) 74 (Int32.toNatClampNeg x1) (((xh_ui (xh_ui σ 72 (Int32.toNatClampNeg k1) k2) 73 (Int32.toNatClampNeg x1) (((xh_ui σ 72 (Int32.toNatClampNeg k1) k2) 73 (Int32.toNatClampNeg (40 + x1))) - 100)) 74 (Int32.toNatClampNeg (40 + x1))) - 100)) 75 (Int32.toNatClampNeg x1) (((xh_ui (xh_ui (xh_ui σ 72 (Int32.toNatClampNeg k1) k2) 73 (Int32.toNatClampNeg x1) (((xh_ui σ 72 (Int32.toNatClampNeg k1) k2) 73 (Int32.toNatClampNeg (40 + x1))) - 100)) 74 (Int32.toNatClampNeg x1) (((xh_ui (xh_ui σ 72 (Int32.toNatClampNeg k1) k2) 73 (Int32.toNatClampNeg x1) (((xh_ui σ 72 (Int32.toNatClampNeg k1) k2) 73 (Int32.toNatClampNeg (40 + x1))) - 100)) 74 (Int32.toNatClampNeg (40 + x1))) - 100)) 75 (Int32.toNatClampNeg (40 + x1))) - 300)) 76 (Int32.toNatClampNeg (40 + x1))) - 300), .int x1, .ref 76] (hM p (xh_ui (xh_ui (xh_ui (xh_ui σ 72 (Int32.toNatClampNeg k1) k2) 73 (Int32.toNatClampNeg x1) (((xh_ui σ 72 (Int32.toNatClampNeg k1) k2) 73 (Int32.toNatClampNeg (40 + x1))) - 100)) 74 (Int32.toNatClampNeg x1) (((xh_ui (xh_ui σ 72 (Int32.toNatClampNeg k1) k2) 73 (Int32.toNatClampNeg x1) (((xh_ui σ 72 (Int32.toNatClampNeg k1) k2) 73 (Int32.toNatClampNeg (40 + x1))) - 100)) 74 (Int32.toNatClampNeg (40 + x1))) - 100)) 75 (Int32.toNatClampNeg x1) (((xh_ui (xh_ui (xh_ui σ 72 (Int32.toNatClampNeg k1) k2) 73 (Int32.toNatClampNeg x1) (((xh_ui σ 72 (Int32.toNatClampNeg k1) k2) 73 (Int32.toNatClampNeg (40 + x1))) - 100)) 74 (Int32.toNatClampNeg x1) (((xh_ui (xh_ui σ 72 (Int32.toNatClampNeg k1) k2) 73 (Int32.toNatClampNeg x1) (((xh_ui σ 72 (Int32.toNatClampNeg k1) k2) 73 (Int32.toNatClampNeg (40 + x1))) - 100)) 74 (Int32.toNatClampNeg (40 + x1))) - 100)) 75 (Int32.toNatClampNeg (40 + x1))) - 300)) τ) r
        refine xp_ok htr 8 d 0 0 [] 187 147 [some (.ref 53), some (.int x1)] [.int (((xh_ui (xh_ui (xh_ui (xh_ui σ 72 (Int32.toNatClampNeg k1) k2) 73 (Int32.toNatClampNeg x1) (((xh_ui σ 72 (Int32.toNatClampNeg k1) k2) 73 (Int32.toNatClampNeg (40 + x1))) - 100)) 74 (Int32.toNatClampNeg x1) (((xh_ui (xh_ui σ 72 (Int32.toNatClampNeg k1) k2) 73 (Int32.toNatClampNeg x1) (((xh_ui σ 72 (Int32.toNatClampNeg k1) k2) 73 (Int32.toNatClampNeg (40 + x1))) - 100)) 74 (Int32.toNatClampNeg (40 + x1))) - 100)) 75 (Int32.toNatClampNeg x1) (((xh_ui (xh_ui (xh_ui σ 72 (Int32.toNatClampNeg k1) k2) 73 (Int32.toNatClampNeg x1) (((xh_ui σ 72 (Int32.toNatClampNeg k1) k2) 73 (Int32.toNatClampNeg (40 + x1))) - 100)) 74 (Int32.toNatClampNeg x1) (((xh_ui (xh_ui σ 72 (Int32.toNatClampNeg k1) k2) 73 (Int32.toNatClampNeg x1) (((xh_ui σ 72 (Int32.toNatClampNeg k1) k2) 73 (Int32.toNatClampNeg (40 + x1))) - 100)) 74 (Int32.toNatClampNeg (40 + x1))) - 100)) 75 (Int32.toNatClampNeg (40 + x1))) - 300)) 76 (Int32.toNatClampNeg (40 + x1))) - 300), .int x1, .ref 76] (hM p (xh_ui (xh_ui (xh_ui (xh_ui σ 72 (Int32.toNatClampNeg k1) k2) 73 (Int32.toNatClampNeg x1) (((xh_ui σ 72 (Int32.toNatClampNeg k1) k2) 73 (Int32.toNatClampNeg (40 + x1))) - 100)) 74 (Int32.toNatClampNeg x1) (((xh_ui (xh_ui σ 72 (Int32.toNatClampNeg k1) k2) 73 (Int32.toNatClampNeg x1) (((xh_ui σ 72 (Int32.toNatClampNeg k1) k2) 73 (Int32.toNatClampNeg (40 + x1))) - 100)) 74 (Int32.toNatClampNeg (40 + x1))) - 100)) 75 (Int32.toNatClampNeg x1) (((xh_ui (xh_ui (xh_ui σ 72 (Int32.toNatClampNeg k1) k2) 73 (Int32.toNatClampNeg x1) (((xh_ui σ 72 (Int32.toNatClampNeg k1) k2) 73 (Int32.toNatClampNeg (40 + x1))) - 100)) 74 (Int32.toNatClampNeg x1) (((xh_ui (xh_ui σ 72 (Int32.toNatClampNeg k1) k2) 73 (Int32.toNatClampNeg x1) (((xh_ui σ 72 (Int32.toNatClampNeg k1) k2) 73 (Int32.toNatClampNeg (40 + x1))) - 100)) 74 (Int32.toNatClampNeg (40 + x1))) - 100)) 75 (Int32.toNatClampNeg (40 + x1))) - 300)) τ) ⟨(xn_in g14), ?_⟩
        show xv l Ω d 0 0 187 160 [some (.ref 53), some (.int x1)] [.int x1, .int 40, .ref 77, .int x1, .ref 77] (hM p (xh_ui (xh_ui (xh_ui (xh_ui (xh_ui σ 72 (Int32.toNatClampNeg k1) k2) 73 (Int32.toNatClampNeg x1) (((xh_ui σ 72 (Int32.toNatClampNeg k1) k2) 73 (Int32.toNatClampNeg (40 + x1))) - 100)) 74 (Int32.toNatClampNeg x1) (((xh_ui (xh_ui σ 72 (Int32.toNatClampNeg k1) k2) 73 (Int32.toNatClampNeg x1) (((xh_ui σ 72 (Int32.toNatClampNeg k1) k2) 73 (Int32.toNatClampNeg (40 + x1))) - 100)) 74 (Int32.toNatClampNeg (40 + x1))) - 100)) 75 (Int32.toNatClampNeg x1) (((xh_ui (xh_ui (xh_ui σ 72 (Int32.toNatClampNeg k1) k2) 73 (Int32.toNatClampNeg x1) (((xh_ui σ 72 (Int32.toNatClampNeg k1) k2) 73 (Int32.toNatClampNeg (40 + x1))) - 100)) 74 (Int32.toNatClampNeg x1) (((xh_ui (xh_ui σ 72 (Int32.toNatClampNeg k1) k2) 73 (Int32.toNatClampNeg x1) (((xh_ui σ 72 (Int32.toNatClampNeg k1) k2) 73 (Int32.toNatClampNeg (40 + x1))) - 100)) 74 (Int32.toNatClampNeg (40 + x1))) - 100)) 75 (Int32.toNatClampNeg (40 + x1))) - 300)) 76 (Int32.toNatClampNeg x1) (((xh_ui (xh_ui (xh_ui (xh_ui σ 72 (Int32.toNatClampNeg k1) k2) 73 (Int32.toNatClampNeg x1) (((xh_ui σ 72 (Int32.toNatClampNeg k1) k2) 73 (Int32.toNatClampNeg (40 + x1))) - 100)) 74 (Int32.toNatClampNeg x1) (((xh_ui (xh_ui σ 72 (Int32.toNatClampNeg k1) k2) 73 (Int32.toNatClampNeg x1) (((xh_ui σ 72 (Int32.toNatClampNeg k1) k2) 73 (Int32.toNatClampNeg (40 + x1))) - 100)) 74 (Int32.toNatClampNeg (40 + x1))) - 100)) 75 (Int32.toNatClampNeg x1) (((xh_ui (xh_ui (xh_ui σ 72 (Int32.toNatClampNeg k1) k2) 73 (Int32.toNatClampNeg x1) (((xh_ui σ 72 (Int32.toNatClampNeg k1) k2) 73 (Int32.toNatClampNeg (40 + x1))) - 100)) 74 (Int32.toNatClampNeg x1) (((xh_ui (xh_ui σ 72 (Int32.toNatClampNeg k1) k2) 73 (Int32.toNatClampNeg x1) (((xh_ui σ 72 (Int32.toNatClampNeg k1) k2) 73 (Int32.toNatClampNeg (40 + x1))) - 100)) 74 (Int32.toNatClampNeg (40 + x1))) - 100)) 75 (Int32.toNatClampNeg (40 + x1))) - 300)) 76 (Int32.toNatClampNeg (40 + x1))) - 300)) τ) r
        refine xp_ok htr 8 d 0 0 [] 187 160 [some (.ref 53), some (.int x1)] [.int x1, .int 40, .ref 77, .int x1, .ref 77] (hM p (xh_ui (xh_ui (xh_ui (xh_ui (xh_ui σ 72 (Int32.toNatClampNeg k1) k2) 73 (Int32.toNatClampNeg x1) (((xh_ui σ 72 (Int32.toNatClampNeg k1) k2) 73 (Int32.toNatClampNeg (40 + x1))) - 100)) 74 (Int32.toNatClampNeg x1) (((xh_ui (xh_ui σ 72 (Int32.toNatClampNeg k1) k2) 73 (Int32.toNatClampNeg x1) (((xh_ui σ 72 (Int32.toNatClampNeg k1) k2) 73 (Int32.toNatClampNeg (40 + x1))) - 100)) 74 (Int32.toNatClampNeg (40 + x1))) - 100)) 75 (Int32.toNatClampNeg x1) (((xh_ui (xh_ui (xh_ui σ 72 (Int32.toNatClampNeg k1) k2) 73 (Int32.toNatClampNeg x1) (((xh_ui σ 72 (Int32.toNatClampNeg k1) k2) 73 (Int32.toNatClampNeg (40 + x1))) - 100)) 74 (Int32.toNatClampNeg x1) (((xh_ui (xh_ui σ 72 (Int32.toNatClampNeg k1) k2) 73 (Int32.toNatClampNeg x1) (((xh_ui σ 72 (Int32.toNatClampNeg k1) k2) 73 (Int32.toNatClampNeg (40 + x1))) - 100)) 74 (Int32.toNatClampNeg (40 + x1))) - 100)) 75 (Int32.toNatClampNeg (40 + x1))) - 300)) 76 (Int32.toNatClampNeg x1) (((xh_ui (xh_ui (xh_ui (xh_ui σ 72 (Int32.toNatClampNeg k1) k2) 73 (Int32.toNatClampNeg x1) (((xh_ui σ 72 (Int32.toNatClampNeg k1) k2) 73 (Int32.toNatClampNeg (40 + x1))) - 100)) 74 (Int32.toNatClampNeg x1) (((xh_ui (xh_ui σ 72 (Int32.toNatClampNeg k1) k2) 73 (Int32.toNatClampNeg x1) (((xh_ui σ 72 (Int32.toNatClampNeg k1) k2) 73 (Int32.toNatClampNeg (40 + x1))) - 100)) 74 (Int32.toNatClampNeg (40 + x1))) - 100)) 75 (Int32.toNatClampNeg x1) (((xh_ui (xh_ui (xh_ui σ 72 (Int32.toNatClampNeg k1) k2) 73 (Int32.toNatClampNeg x1) (((xh_ui σ 72 (Int32.toNatClampNeg k1) k2) 73 (Int32.toNatClampNeg (40 + x1))) - 100)) 74 (Int32.toNatClampNeg x1) (((xh_ui (xh_ui σ 72 (Int32.toNatClampNeg k1) k2) 73 (Int32.toNatClampNeg x1) (((xh_ui σ 72 (Int32.toNatClampNeg k1) k2) 73 (Int32.toNatClampNeg (40 + x1))) - 100)) 74 (Int32.toNatClampNeg (40 + x1))) - 100)) 75 (Int32.toNatClampNeg (40 + x1))) - 300)) 76 (Int32.toNatClampNeg (40 + x1))) - 300)) τ) ⟨(xn_in g13), (xn_in g14), ?_⟩
        show xv l Ω d 0 0 187 172 [some (.ref 53), some (.int x1)] [.ref 78, .int x1, .ref 78] (hM p (xh_ui (xh_ui (xh_ui (xh_ui (xh_ui (xh_ui σ 72 (Int32.toNatClampNeg k1) k2) 73 (Int32.toNatClampNeg x1) (((xh_ui σ 72 (Int32.toNatClampNeg k1) k2) 73 (Int32.toNatClampNeg (40 + x1))) - 100)) 74 (Int32.toNatClampNeg x1) (((xh_ui (xh_ui σ 72 (Int32.toNatClampNeg k1) k2) 73 (Int32.toNatClampNeg x1) (((xh_ui σ 72 (Int32.toNatClampNeg k1) k2) 73 (Int32.toNatClampNeg (40 + x1))) - 100)) 74 (Int32.toNatClampNeg (40 + x1))) - 100)) 75 (Int32.toNatClampNeg x1) (((xh_ui (xh_ui (xh_ui σ 72 (Int32.toNatClampNeg k1) k2) 73 (Int32.toNatClampNeg x1) (((xh_ui σ 72 (Int32.toNatClampNeg k1) k2) 73 (Int32.toNatClampNeg (40 + x1))) - 100)) 74 (Int32.toNatClampNeg x1) (((xh_ui (xh_ui σ 72 (Int32.toNatClampNeg k1) k2) 73 (Int32.toNatClampNeg x1) (((xh_ui σ 72 (Int32.toNatClampNeg k1) k2) 73 (Int32.toNatClampNeg (40 + x1))) - 100)) 74 (Int32.toNatClampNeg (40 + x1))) - 100)) 75 (Int32.toNatClampNeg (40 + x1))) - 300)) 76 (Int32.toNatClampNeg x1) (((xh_ui (xh_ui (xh_ui (xh_ui σ 72 (Int32.toNatClampNeg k1) k2) 73 (Int32.toNatClampNeg x1) (((xh_ui σ 72 (Int32.toNatClampNeg k1) k2) 73 (Int32.toNatClampNeg (40 + x1))) - 100)) 74 (Int32.toNatClampNeg x1) (((xh_ui (xh_ui σ 72 (Int32.toNatClampNeg k1) k2) 73 (Int32.toNatClampNeg x1) (((xh_ui σ 72 (Int32.toNatClampNeg k1) k2) 73 (Int32.toNatClampNeg (40 + x1))) - 100)) 74 (Int32.toNatClampNeg (40 + x1))) - 100)) 75 (Int32.toNatClampNeg x1) (((xh_ui (xh_ui (xh_ui σ 72 (Int32.toNatClampNeg k1) k2) 73 (Int32.toNatClampNeg x1) (((xh_ui σ 72 (Int32.toNatClampNeg k1) k2) 73 (Int32.toNatClampNeg (40 + x1))) - 100)) 74 (Int32.toNatClampNeg x1) (((xh_ui (xh_ui σ 72 (Int32.toNatClampNeg k1) k2) 73 (Int32.toNatClampNeg x1) (((xh_ui σ 72 (Int32.toNatClampNeg k1) k2) 73 (Int32.toNatClampNeg (40 + x1))) - 100)) 74 (Int32.toNatClampNeg (40 + x1))) - 100)) 75 (Int32.toNatClampNeg (40 + x1))) - 300)) 76 (Int32.toNatClampNeg (40 + x1))) - 300)) 77 (Int32.toNatClampNeg x1) ((xh_ui (xh_ui (xh_ui (xh_ui (xh_ui σ 72 (Int32.toNatClampNeg k1) k2) 73 (Int32.toNatClampNeg x1) (((xh_ui σ 72 (Int32.toNatClampNeg k1) k2) 73 (Int32.toNatClampNeg (40 + x1))) - 100)) 74 (Int32.toNatClampNeg x1) (((xh_ui (xh_ui σ 72 (Int32.toNatClampNeg k1) k2) 73 (Int32.toNatClampNeg x1) (((xh_ui σ 72 (Int32.toNatClampNeg k1) k2) 73 (Int32.toNatClampNeg (40 + x1))) - 100)) 74 (Int32.toNatClampNeg (40 + x1))) - 100)) 75 (Int32.toNatClampNeg x1) (((xh_ui (xh_ui (xh_ui σ 72 (Int32.toNatClampNeg k1) k2) 73 (Int32.toNatClampNeg x1) (((xh_ui σ 72 (Int32.toNatClampNeg k1) k2) 73 (Int32.toNatClampNeg (40 + x1))) - 100)) 74 (Int32.toNatClampNeg x1) (((xh_ui (xh_ui σ 72 (Int32.toNatClampNeg k1) k2) 73 (Int32.toNatClampNeg x1) (((xh_ui σ 72 (Int32.toNatClampNeg k1) k2) 73 (Int32.toNatClampNeg (40 + x1))) - 100)) 74 (Int32.toNatClampNeg (40 + x1))) - 100)) 75 (Int32.toNatClampNeg (40 + x1))) - 300)) 76 (Int32.toNatClampNeg x1) (((xh_ui (xh_ui (xh_ui (xh_ui σ 72 (Int32.toNatClampNeg k1) k2) 73 (Int32.toNatClampNeg x1) (((xh_ui σ 72 (Int32.toNatClampNeg k1) k2) 73 (Int32.toNatClampNeg (40 + x1))) - 100)) 74 (Int32.toNatClampNeg x1) (((xh_ui (xh_ui σ 72 (Int32.toNatClampNeg k1) k2) 73 (Int32.toNatClampNeg x1) (((xh_ui σ 72 (Int32.toNatClampNeg k1) k2) 73 (Int32.toNatClampNeg (40 + x1))) - 100)) 74 (Int32.toNatClampNeg (40 + x1))) - 100)) 75 (Int32.toNatClampNeg x1) (((xh_ui (xh_ui (xh_ui σ 72 (Int32.toNatClampNeg k1) k2) 73 (Int32.toNatClampNeg x1) (((xh_ui σ 72 (Int32.toNatClampNeg k1) k2) 73 (Int32.toNatClampNeg (40 + x1))) - 100)) 74 (Int32.toNatClampNeg x1) (((xh_ui (xh_ui σ 72 (Int32.toNatClampNeg k1) k2) 73 (Int32.toNatClampNeg x1) (((xh_ui σ 72 (Int32.toNatClampNeg k1) k2) 73 (Int32.toNatClampNeg (40 + x1))) - 100)) 74 (Int32.toNatClampNeg (40 + x1))) - 100)) 75 (Int32.toNatClampNeg (40 + x1))) - 300)) 76 (Int32.toNatClampNeg (40 + x1))) - 300)) 77 (Int32.toNatClampNeg (40 + x1)))) τ) r
        refine xp_ok htr 7 d 0 0 [] 187 172 [some (.ref 53), some (.int x1)] [.ref 78, .int x1, .ref 78] (hM p (xh_ui (xh_ui (xh_ui (xh_ui (xh_ui (xh_ui σ 72 (Int32.toNatClampNeg k1) k2) 73 (Int32.toNatClampNeg x1) (((xh_ui σ 72 (Int32.toNatClampNeg k1) k2) 73 (Int32.toNatClampNeg (40 + x1))) - 100)) 74 (Int32.toNatClampNeg x1) (((xh_ui (xh_ui σ 72 (Int32.toNatClampNeg k1) k2) 73 (Int32.toNatClampNeg x1) (((xh_ui σ 72 (Int32.toNatClampNeg k1) k2) 73 (Int32.toNatClampNeg (40 + x1))) - 100)) 74 (Int32.toNatClampNeg (40 + x1))) - 100)) 75 (Int32.toNatClampNeg x1) (((xh_ui (xh_ui (xh_ui σ 72 (Int32.toNatClampNeg k1) k2) 73 (Int32.toNatClampNeg x1) (((xh_ui σ 72 (Int32.toNatClampNeg k1) k2) 73 (Int32.toNatClampNeg (40 + x1))) - 100)) 74 (Int32.toNatClampNeg x1) (((xh_ui (xh_ui σ 72 (Int32.toNatClampNeg k1) k2) 73 (Int32.toNatClampNeg x1) (((xh_ui σ 72 (Int32.toNatClampNeg k1) k2) 73 (Int32.toNatClampNeg (40 + x1))) - 100)) 74 (Int32.toNatClampNeg (40 + x1))) - 100)) 75 (Int32.toNatClampNeg (40 + x1))) - 300)) 76 (Int32.toNatClampNeg x1) (((xh_ui (xh_ui (xh_ui (xh_ui σ 72 (Int32.toNatClampNeg k1) k2) 73 (Int32.toNatClampNeg x1) (((xh_ui σ 72 (Int32.toNatClampNeg k1) k2) 73 (Int32.toNatClampNeg (40 + x1))) - 100)) 74 (Int32.toNatClampNeg x1) (((xh_ui (xh_ui σ 72 (Int32.toNatClampNeg k1) k2) 73 (Int32.toNatClampNeg x1) (((xh_ui σ 72 (Int32.toNatClampNeg k1) k2) 73 (Int32.toNatClampNeg (40 + x1))) - 100)) 74 (Int32.toNatClampNeg (40 + x1))) - 100)) 75 (Int32.toNatClampNeg x1) (((xh_ui (xh_ui (xh_ui σ 72 (Int32.toNatClampNeg k1) k2) 73 (Int32.toNatClampNeg x1) (((xh_ui σ 72 (Int32.toNatClampNeg k1) k2) 73 (Int32.toNatClampNeg (40 + x1))) - 100)) 74 (Int32.toNatClampNeg x1) (((xh_ui (xh_ui σ 72 (Int32.toNatClampNeg k1) k2) 73 (Int32.toNatClampNeg x1) (((xh_ui σ 72 (Int32.toNatClampNeg k1) k2) 73 (Int32.toNatClampNeg (40 + x1))) - 100)) 74 (Int32.toNatClampNeg (40 + x1))) - 100)) 75 (Int32.toNatClampNeg (40 + x1))) - 300)) 76 (Int32.toNatClampNeg (40 + x1))) - 300)) 77 (Int32.toNatClampNeg x1) ((xh_ui (xh_ui (xh_ui (xh_ui (xh_ui σ 72 (Int32.toNatClampNeg k1) k2) 73 (Int32.toNatClampNeg x1) (((xh_ui σ 72 (Int32.toNatClampNeg k1) k2) 73 (Int32.toNatClampNeg (40 + x1))) - 100)) 74 (Int32.toNatClampNeg x1) (((xh_ui (xh_ui σ 72 (Int32.toNatClampNeg k1) k2) 73 (Int32.toNatClampNeg x1) (((xh_ui σ 72 (Int32.toNatClampNeg k1) k2) 73 (Int32.toNatClampNeg (40 + x1))) - 100)) 74 (Int32.toNatClampNeg (40 + x1))) - 100)) 75 (Int32.toNatClampNeg x1) (((xh_ui (xh_ui (xh_ui σ 72 (Int32.toNatClampNeg k1) k2) 73 (Int32.toNatClampNeg x1) (((xh_ui σ 72 (Int32.toNatClampNeg k1) k2) 73 (Int32.toNatClampNeg (40 + x1))) - 100)) 74 (Int32.toNatClampNeg x1) (((xh_ui (xh_ui σ 72 (Int32.toNatClampNeg k1) k2) 73 (Int32.toNatClampNeg x1) (((xh_ui σ 72 (Int32.toNatClampNeg k1) k2) 73 (Int32.toNatClampNeg (40 + x1))) - 100)) 74 (Int32.toNatClampNeg (40 + x1))) - 100)) 75 (Int32.toNatClampNeg (40 + x1))) - 300)) 76 (Int32.toNatClampNeg x1) (((xh_ui (xh_ui (xh_ui (xh_ui σ 72 (Int32.toNatClampNeg k1) k2) 73 (Int32.toNatClampNeg x1) (((xh_ui σ 72 (Int32.toNatClampNeg k1) k2) 73 (Int32.toNatClampNeg (40 + x1))) - 100)) 74 (Int32.toNatClampNeg x1) (((xh_ui (xh_ui σ 72 (Int32.toNatClampNeg k1) k2) 73 (Int32.toNatClampNeg x1) (((xh_ui σ 72 (Int32.toNatClampNeg k1) k2) 73 (Int32.toNatClampNeg (40 + x1))) - 100)) 74 (Int32.toNatClampNeg (40 + x1))) - 100)) 75 (Int32.toNatClampNeg x1) (((xh_ui (xh_ui (xh_ui σ 72 (Int32.toNatClampNeg k1) k2) 73 (Int32.toNatClampNeg x1) (((xh_ui σ 72 (Int32.toNatClampNeg k1) k2) 73 (Int32.toNatClampNeg (40 + x1))) - 100)) 74 (Int32.toNatClampNeg x1) (((xh_ui (xh_ui σ 72 (Int32.toNatClampNeg k1) k2) 73 (Int32.toNatClampNeg x1) (((xh_ui σ 72 (Int32.toNatClampNeg k1) k2) 73 (Int32.toNatClampNeg (40 + x1))) - 100)) 74 (Int32.toNatClampNeg (40 + x1))) - 100)) 75 (Int32.toNatClampNeg (40 + x1))) - 300)) 76 (Int32.toNatClampNeg (40 + x1))) - 300)) 77 (Int32.toNatClampNeg (40 + x1)))) τ) ⟨(xn_in g13), (xn_in g14), ?_⟩
        show xv l Ω d 0 0 187 14 [some (.ref 53), some (.int (x1 + 1))] [] (hM p (xh_ui (xh_ui (xh_ui (xh_ui (xh_ui (xh_ui (xh_ui σ 72 (Int32.toNatClampNeg k1) k2) 73 (Int32.toNatClampNeg x1) (((xh_ui σ 72 (Int32.toNatClampNeg k1) k2) 73 (Int32.toNatClampNeg (40 + x1))) - 100)) 74 (Int32.toNatClampNeg x1) (((xh_ui (xh_ui σ 72 (Int32.toNatClampNeg k1) k2) 73 (Int32.toNatClampNeg x1) (((xh_ui σ 72 (Int32.toNatClampNeg k1) k2) 73 (Int32.toNatClampNeg (40 + x1))) - 100)) 74 (Int32.toNatClampNeg (40 + x1))) - 100)) 75 (Int32.toNatClampNeg x1) (((xh_ui (xh_ui (xh_ui σ 72 (Int32.toNatClampNeg k1) k2) 73 (Int32.toNatClampNeg x1) (((xh_ui σ 72 (Int32.toNatClampNeg k1) k2) 73 (Int32.toNatClampNeg (40 + x1))) - 100)) 74 (Int32.toNatClampNeg x1) (((xh_ui (xh_ui σ 72 (Int32.toNatClampNeg k1) k2) 73 (Int32.toNatClampNeg x1) (((xh_ui σ 72 (Int32.toNatClampNeg k1) k2) 73 (Int32.toNatClampNeg (40 + x1))) - 100)) 74 (Int32.toNatClampNeg (40 + x1))) - 100)) 75 (Int32.toNatClampNeg (40 + x1))) - 300)) 76 (Int32.toNatClampNeg x1) (((xh_ui (xh_ui (xh_ui (xh_ui σ 72 (Int32.toNatClampNeg k1) k2) 73 (Int32.toNatClampNeg x1) (((xh_ui σ 72 (Int32.toNatClampNeg k1) k2) 73 (Int32.toNatClampNeg (40 + x1))) - 100)) 74 (Int32.toNatClampNeg x1) (((xh_ui (xh_ui σ 72 (Int32.toNatClampNeg k1) k2) 73 (Int32.toNatClampNeg x1) (((xh_ui σ 72 (Int32.toNatClampNeg k1) k2) 73 (Int32.toNatClampNeg (40 + x1))) - 100)) 74 (Int32.toNatClampNeg (40 + x1))) - 100)) 75 (Int32.toNatClampNeg x1) (((xh_ui (xh_ui (xh_ui σ 72 (Int32.toNatClampNeg k1) k2) 73 (Int32.toNatClampNeg x1) (((xh_ui σ 72 (Int32.toNatClampNeg k1) k2) 73 (Int32.toNatClampNeg (40 + x1))) - 100)) 74 (Int32.toNatClampNeg x1) (((xh_ui (xh_ui σ 72 (Int32.toNatClampNeg k1) k2) 73 (Int32.toNatClampNeg x1) (((xh_ui σ 72 (Int32.toNatClampNeg k1) k2) 73 (Int32.toNatClampNeg (40 + x1))) - 100)) 74 (Int32.toNatClampNeg (40 + x1))) - 100)) 75 (Int32.toNatClampNeg (40 + x1))) - 300)) 76 (Int32.toNatClampNeg (40 + x1))) - 300)) 77 (Int32.toNatClampNeg x1) ((xh_ui (xh_ui (xh_ui (xh_ui (xh_ui σ 72 (Int32.toNatClampNeg k1) k2) 73 (Int32.toNatClampNeg x1) (((xh_ui σ 72 (Int32.toNatClampNeg k1) k2) 73 (Int32.toNatClampNeg (40 + x1))) - 100)) 74 (Int32.toNatClampNeg x1) (((xh_ui (xh_ui σ 72 (Int32.toNatClampNeg k1) k2) 73 (Int32.toNatClampNeg x1) (((xh_ui σ 72 (Int32.toNatClampNeg k1) k2) 73 (Int32.toNatClampNeg (40 + x1))) - 100)) 74 (Int32.toNatClampNeg (40 + x1))) - 100)) 75 (Int32.toNatClampNeg x1) (((xh_ui (xh_ui (xh_ui σ 72 (Int32.toNatClampNeg k1) k2) 73 (Int32.toNatClampNeg x1) (((xh_ui σ 72 (Int32.toNatClampNeg k1) k2) 73 (Int32.toNatClampNeg (40 + x1))) - 100)) 74 (Int32.toNatClampNeg x1) (((xh_ui (xh_ui σ 72 (Int32.toNatClampNeg k1) k2) 73 (Int32.toNatClampNeg x1) (((xh_ui σ 72 (Int32.toNatClampNeg k1) k2) 73 (Int32.toNatClampNeg (40 + x1))) - 100)) 74 (Int32.toNatClampNeg (40 + x1))) - 100)) 75 (Int32.toNatClampNeg (40 + x1))) - 300)) 76 (Int32.toNatClampNeg x1) (((xh_ui (xh_ui (xh_ui (xh_ui σ 72 (Int32.toNatClampNeg k1) k2) 73 (Int32.toNatClampNeg x1) (((xh_ui σ 72 (Int32.toNatClampNeg k1) k2) 73 (Int32.toNatClampNeg (40 + x1))) - 100)) 74 (Int32.toNatClampNeg x1) (((xh_ui (xh_ui σ 72 (Int32.toNatClampNeg k1) k2) 73 (Int32.toNatClampNeg x1) (((xh_ui σ 72 (Int32.toNatClampNeg k1) k2) 73 (Int32.toNatClampNeg (40 + x1))) - 100)) 74 (Int32.toNatClampNeg (40 + x1))) - 100)) 75 (Int32.toNatClampNeg x1) (((xh_ui (xh_ui (xh_ui σ 72 (Int32.toNatClampNeg k1) k2) 73 (Int32.toNatClampNeg x1) (((xh_ui σ 72 (Int32.toNatClampNeg k1) k2) 73 (Int32.toNatClampNeg (40 + x1))) - 100)) 74 (Int32.toNatClampNeg x1) (((xh_ui (xh_ui σ 72 (Int32.toNatClampNeg k1) k2) 73 (Int32.toNatClampNeg x1) (((xh_ui σ 72 (Int32.toNatClampNeg k1) k2) 73 (Int32.toNatClampNeg (40 + x1))) - 100)) 74 (Int32.toNatClampNeg (40 + x1))) - 100)) 75 (Int32.toNatClampNeg (40 + x1))) - 300)) 76 (Int32.toNatClampNeg (40 + x1))) - 300)) 77 (Int32.toNatClampNeg (40 + x1)))) 78 (Int32.toNatClampNeg x1) ((xh_ui (xh_ui (xh_ui (xh_ui (xh_ui (xh_ui σ 72 (Int32.toNatClampNeg k1) k2) 73 (Int32.toNatClampNeg x1) (((xh_ui σ 72 (Int32.toNatClampNeg k1) k2) 73 (Int32.toNatClampNeg (40 + x1))) - 100)) 74 (Int32.toNatClampNeg x1) (((xh_ui (xh_ui σ 72 (Int32.toNatClampNeg k1) k2) 73 (Int32.toNatClampNeg x1) (((xh_ui σ 72 (Int32.toNatClampNeg k1) k2) 73 (Int32.toNatClampNeg (40 + x1))) - 100)) 74 (Int32.toNatClampNeg (40 + x1))) - 100)) 75 (Int32.toNatClampNeg x1) (((xh_ui (xh_ui (xh_ui σ 72 (Int32.toNatClampNeg k1) k2) 73 (Int32.toNatClampNeg x1) (((xh_ui σ 72 (Int32.toNatClampNeg k1) k2) 73 (Int32.toNatClampNeg (40 + x1))) - 100)) 74 (Int32.toNatClampNeg x1) (((xh_ui (xh_ui σ 72 (Int32.toNatClampNeg k1) k2) 73 (Int32.toNatClampNeg x1) (((xh_ui σ 72 (Int32.toNatClampNeg k1) k2) 73 (Int32.toNatClampNeg (40 + x1))) - 100)) 74 (Int32.toNatClampNeg (40 + x1))) - 100)) 75 (Int32.toNatClampNeg (40 + x1))) - 300)) 76 (Int32.toNatClampNeg x1) (((xh_ui (xh_ui (xh_ui (xh_ui σ 72 (Int32.toNatClampNeg k1) k2) 73 (Int32.toNatClampNeg x1) (((xh_ui σ 72 (Int32.toNatClampNeg k1) k2) 73 (Int32.toNatClampNeg (40 + x1))) - 100)) 74 (Int32.toNatClampNeg x1) (((xh_ui (xh_ui σ 72 (Int32.toNatClampNeg k1) k2) 73 (Int32.toNatClampNeg x1) (((xh_ui σ 72 (Int32.toNatClampNeg k1) k2) 73 (Int32.toNatClampNeg (40 + x1))) - 100)) 74 (Int32.toNatClampNeg (40 + x1))) - 100)) 75 (Int32.toNatClampNeg x1) (((xh_ui (xh_ui (xh_ui σ 72 (Int32.toNatClampNeg k1) k2) 73 (Int32.toNatClampNeg x1) (((xh_ui σ 72 (Int32.toNatClampNeg k1) k2) 73 (Int32.toNatClampNeg (40 + x1))) - 100)) 74 (Int32.toNatClampNeg x1) (((xh_ui (xh_ui σ 72 (Int32.toNatClampNeg k1) k2) 73 (Int32.toNatClampNeg x1) (((xh_ui σ 72 (Int32.toNatClampNeg k1) k2) 73 (Int32.toNatClampNeg (40 + x1))) - 100)) 74 (Int32.toNatClampNeg (40 + x1))) - 100)) 75 (Int32.toNatClampNeg (40 + x1))) - 300)) 76 (Int32.toNatClampNeg (40 + x1))) - 300)) 77 (Int32.toNatClampNeg x1) ((xh_ui (xh_ui (xh_ui (xh_ui (xh_ui σ 72 (Int32.toNatClampNeg k1) k2) 73 (Int32.toNatClampNeg x1) (((xh_ui σ 72 (Int32.toNatClampNeg k1) k2) 73 (Int32.toNatClampNeg (40 + x1))) - 100)) 74 (Int32.toNatClampNeg x1) (((xh_ui (xh_ui σ 72 (Int32.toNatClampNeg k1) k2) 73 (Int32.toNatClampNeg x1) (((xh_ui σ 72 (Int32.toNatClampNeg k1) k2) 73 (Int32.toNatClampNeg (40 + x1))) - 100)) 74 (Int32.toNatClampNeg (40 + x1))) - 100)) 75 (Int32.toNatClampNeg x1) (((xh_ui (xh_ui (xh_ui σ 72 (Int32.toNatClampNeg k1) k2) 73 (Int32.toNatClampNeg x1) (((xh_ui σ 72 (Int32.toNatClampNeg k1) k2) 73 (Int32.toNatClampNeg (40 + x1))) - 100)) 74 (Int32.toNatClampNeg x1) (((xh_ui (xh_ui σ 72 (Int32.toNatClampNeg k1) k2) 73 (Int32.toNatClampNeg x1) (((xh_ui σ 72 (Int32.toNatClampNeg k1) k2) 73 (Int32.toNatClampNeg (40 + x1))) - 100)) 74 (Int32.toNatClampNeg (40 + x1))) - 100)) 75 (Int32.toNatClampNeg (40 + x1))) - 300)) 76 (Int32.toNatClampNeg x1) (((xh_ui (xh_ui (xh_ui (xh_ui σ 72 (Int32.toNatClampNeg k1) k2) 73 (Int32.toNatClampNeg x1) (((xh_ui σ 72 (Int32.toNatClampNeg k1) k2) 73 (Int32.toNatClampNeg (40 + x1))) - 100)) 74 (Int32.toNatClampNeg x1) (((xh_ui (xh_ui σ 72 (Int32.toNatClampNeg k1) k2) 73 (Int32.toNatClampNeg x1) (((xh_ui σ 72 (Int32.toNatClampNeg k1) k2) 73 (Int32.toNatClampNeg (40 + x1))) - 100)) 74 (Int32.toNatClampNeg (40 + x1))) - 100)) 75 (Int32.toNatClampNeg x1) (((xh_ui (xh_ui (xh_ui σ 72 (Int32.toNatClampNeg k1) k2) 73 (Int32.toNatClampNeg x1) (((xh_ui σ 72 (Int32.toNatClampNeg k1) k2) 73 (Int32.toNatClampNeg (40 + x1))) - 100)) 74 (Int32.toNatClampNeg x1) (((xh_ui (xh_ui σ 72 (Int32.toNatClampNeg k1) k2) 73 (Int32.toNatClampNeg x1) (((xh_ui σ 72 (Int32.toNatClampNeg k1) k2) 73 (Int32.toNatClampNeg (40 + x1))) - 100)) 74 (Int32.toNatClampNeg (40 + x1))) - 100)) 75 (Int32.toNatClampNeg (40 + x1))) - 300)) 76 (Int32.toNatClampNeg (40 + x1))) - 300)) 77 (Int32.toNatClampNeg (40 + x1)))) 78 (Int32.toNatClampNeg (40 + x1)))) τ) r
        exact xv_sub (L' := [some (.ref 53), some (.int (x1 + 1))]) ⟨rfl, ⟨rfl, trivial⟩⟩ H
theorem g187_14b_ok {l : Launch} {Ω : xo_O} (htr : xH l) (d : Nat) (p : Nat) (τ : Nat → Nat → Int64) (x1 : Int32) (σ : xS) (r : xv_R) (H : xo (xd (a187_14 l Ω d p τ r) (xB true p τ r)) (g187_14b x1 σ)) : xv l Ω d 0 0 187 14 [some (.ref 53), some (.int x1)] [] (hM p σ τ) r := by
  unfold g187_14b at H
  by_cases h1 : (σ 70 1) ≤ x1
  · rw [if_pos h1] at H
    refine xp_ok htr 6 d 0 0 [eB true] 187 14 [some (.ref 53), some (.int x1)] [] (hM p σ τ) ⟨(by unfold vp_in; decide), h1, ?_⟩
    show xv l Ω d 0 0 187 184 [some (.ref 53), some (.int x1)] [] (hM p σ τ) r
    refine xp_ok htr 2 d 0 0 [] 187 184 [some (.ref 53), some (.int x1)] [] (hM p σ τ) ?_
    show xv l Ω d 0 0 187 186 [some (.ref 53), some (.int 0)] [] (hM p σ τ) r
    exact xv_sub (L' := [some (.ref 53), some (.int 0)]) ⟨rfl, ⟨rfl, trivial⟩⟩ (g187_186_ok htr d p τ 0 σ r (xo_map H))
  · rw [if_neg h1] at H
    refine xp_ok htr 6 d 0 0 [eB false] 187 14 [some (.ref 53), some (.int x1)] [] (hM p σ τ) ⟨(by unfold vp_in; decide), h1, ?_⟩
    show xv l Ω d 0 0 187 24 [some (.ref 53), some (.int x1)] [] (hM p σ τ) r
    refine xp_ok htr 8 d 0 0 [] 187 24 [some (.ref 53), some (.int x1)] [] (hM p σ τ) ?_
    show xv l Ω d 0 0 187 37 [some (.ref 53), some (.int x1)] [.int (40 + x1), .ref 71, .int x1, .ref 71] (hM p σ τ) r
    cases g9 : xn (40 + x1) 80 with
    | false => rw [g9, cond_false] at H; exact False.elim H
    | true =>
      rw [g9, cond_true] at H
      cases g10 : xn x1 80 with
      | false => rw [g10, cond_false] at H; exact False.elim H
      | true =>
        rw [g10, cond_true] at H
        refine xp_ok htr 8 d 0 0 [] 187 37 [some (.ref 53), some (.int x1)] [.int (40 + x1), .ref 71, .int x1, .ref 71] (hM p σ τ) ⟨(xn_in g9), (xn_in g10), ?_⟩
        show xv l Ω d 0 0 187 50 [some (.ref 53), some (.int x1)] [.int 40, .ref 72, .int x1, .ref 72] (hM p (xh_ui σ 71 (Int32.toNatClampNeg x1) (σ 71 (Int32.toNatClampNeg (40 + x1)))) τ) r
        by_cases h11 : ((xh_ui σ 71 (Int32.toNatClampNeg x1) (σ 71 (Int32.toNatClampNeg (40 + x1)))) 72 (Int32.toNatClampNeg (40 + x1))) = (-1)
        · rw [if_pos h11] at H
          refine xp_ok htr 5 d 0 0 [eB false] 187 50 [some (.ref 53), some (.int x1)] [.int 40, .ref 72, .int x1, .ref 72] (hM p (xh_ui σ 71 (Int32.toNatClampNeg x1) (σ 71 (Int32.toNatClampNeg (40 + x1)))) τ) ⟨(xn_in g9), h11, ?_⟩
          show xv l Ω d 0 0 187 57 [some (.ref 53), some (.int x1)] [.int x1, .ref 72] (hM p (xh_ui σ 71 (Int32.toNatClampNeg x1) (σ 71 (Int32.toNatClampNeg (40 + x1)))) τ) r
          refine xp_ok htr 2 d 0 0 [] 187 57 [some (.ref 53), some (.int x1)] [.int x1, .ref 72] (hM p (xh_ui σ 71 (Int32.toNatClampNeg x1) (σ 71 (Int32.toNatClampNeg (40 + x1)))) τ) ?_
          show xv l Ω d 0 0 187 73 [some (.ref 53), some (.int x1)] [.int (-1), .int x1, .ref 72] (hM p (xh_ui σ 71 (Int32.toNatClampNeg x1) (σ 71 (Int32.toNatClampNeg (40 + x1)))) τ) r
          exact xv_sub (L' := [some (.ref 53), some (.int x1)]) ⟨rfl, ⟨rfl, trivial⟩⟩ (g187_73_ok htr d p τ x1 x1 (-1) (xh_ui σ 71 (Int32.toNatClampNeg x1) (σ 71 (Int32.toNatClampNeg (40 + x1)))) r H)
        · rw [if_neg h11] at H
          refine xp_ok htr 5 d 0 0 [eB true] 187 50 [some (.ref 53), some (.int x1)] [.int 40, .ref 72, .int x1, .ref 72] (hM p (xh_ui σ 71 (Int32.toNatClampNeg x1) (σ 71 (Int32.toNatClampNeg (40 + x1)))) τ) ⟨(xn_in g9), h11, ?_⟩
          show xv l Ω d 0 0 187 61 [some (.ref 53), some (.int x1)] [.int x1, .ref 72] (hM p (xh_ui σ 71 (Int32.toNatClampNeg x1) (σ 71 (Int32.toNatClampNeg (40 + x1)))) τ) r
          refine xp_ok htr 8 d 0 0 [] 187 61 [some (.ref 53), some (.int x1)] [.int x1, .ref 72] (hM p (xh_ui σ 71 (Int32.toNatClampNeg x1) (σ 71 (Int32.toNatClampNeg (40 + x1)))) τ) ⟨(xn_in g9), ?_⟩
          show xv l Ω d 0 0 187 73 [some (.ref 53), some (.int x1)] [.int (((xh_ui σ 71 (Int32.toNatClampNeg x1) (σ 71 (Int32.toNatClampNeg (40 + x1)))) 72 (Int32.toNatClampNeg (40 + x1))) - 40), .int x1, .ref 72] (hM p (xh_ui σ 71 (Int32.toNatClampNeg x1) (σ 71 (Int32.toNatClampNeg (40 + x1)))) τ) r
          exact xv_sub (L' := [some (.ref 53), some (.int x1)]) ⟨rfl, ⟨rfl, trivial⟩⟩ (g187_73_ok htr d p τ x1 x1 (((xh_ui σ 71 (Int32.toNatClampNeg x1) (σ 71 (Int32.toNatClampNeg (40 + x1)))) 72 (Int32.toNatClampNeg (40 + x1))) - 40) (xh_ui σ 71 (Int32.toNatClampNeg x1) (σ 71 (Int32.toNatClampNeg (40 + x1)))) r H)
theorem g187_14_ok {l : Launch} {Ω : xo_O} (htr : xH l) (d : Nat) (p : Nat) (τ : Nat → Nat → Int64) (x1 : Int32) (σ : xS) (r : xv_R) (H : xo (xB true p τ r) (g187_14 x1 σ)) : xv l Ω d 0 0 187 14 [some (.ref 53), some (.int x1)] [] (hM p σ τ) r :=
  xlo_ok (A := a187_14 l Ω d p τ r) (fun a H => g187_14b_ok htr d p τ a.1 a.2 r H) 1000 (x1, σ) H
theorem g187_run {l : Launch} {Ω : xo_O} (htr : xH l) (d : Nat) (p : Nat) (τ : Nat → Nat → Int64)  (σ : xS) {q : xQ} (hq : g187  σ = some q) : xv l Ω d 0 0 187 0 (xs_loc (xm_l 187) [.ref 53]) [] (hM p σ τ) (xq_R true p τ q) := by
  have H : xo (xB true p τ (xq_R true p τ q)) (g187  σ) := by rw [hq]; exact rfl
  generalize xq_R true p τ q = r at H ⊢
  show xv l Ω d 0 0 187 0 [some (.ref 53), none] [] (hM p σ τ) r
  unfold g187 at H
  refine xp_ok htr 8 d 0 0 [] 187 0 [some (.ref 53), none] [] (hM p σ τ) ⟨(by unfold vp_in; decide), (by unfold vp_in; decide), ?_⟩
  show xv l Ω d 0 0 187 12 [some (.ref 53), none] [] (hM p (xh_ui σ 70 0 (σ 70 1)) τ) r
  refine xp_ok htr 2 d 0 0 [] 187 12 [some (.ref 53), none] [] (hM p (xh_ui σ 70 0 (σ 70 1)) τ) ?_
  show xv l Ω d 0 0 187 14 [some (.ref 53), some (.int 0)] [] (hM p (xh_ui σ 70 0 (σ 70 1)) τ) r
  exact xv_sub (L' := [some (.ref 53), some (.int 0)]) ⟨rfl, ⟨rfl, trivial⟩⟩ (g187_14_ok htr d p τ 0 (xh_ui σ 70 0 (σ 70 1)) r H)
/- AccessDeskModel.policy -/
def g170_116 (k1 : Int32) (σ : xS) : Option xQ := (if ((xh_ui σ 53 21 k1) 53 21) = 0 then (match g187 (xh_ui σ 53 21 k1) with | some (Sum.inl v11, s12) => some ((Sum.inl (s12 70 0), s12)) | some (Sum.inr v11, s12) => none | none => none) else some ((Sum.inl 0, (xh_ui σ 53 21 k1))))
def g170_103  (σ : xS) : Option xQ := (match g171 σ with | some (Sum.inl v6, s7) => (if v6 = 0 then g170_116 1 s7 else g170_116 0 s7) | some (Sum.inr v6, s7) => none | none => none)
def g170_81  (σ : xS) : Option xQ := (match g171 σ with | some (Sum.inl v2, s3) => (if v2 = 0 then g170_103 s3 else (if (s3 53 18) ≤ (s3 53 19) then g170_103 s3 else (match g175 s3 with | some (Sum.inl v15, s16) => g170_103 s16 | some (Sum.inr v15, s16) => none | none => none))) | some (Sum.inr v2, s3) => none | none => none)
def g170_77 (k0 : Int32) (σ : xS) : Option ((Int32 × xS) ⊕ xQ) := some (Sum.inl (k0, σ))
def g170_72  (σ : xS) : Option ((Int32 × xS) ⊕ xQ) := g170_77 1 σ
def g170_47b (x1 : Int32) (σ : xS) : Option ((Int32 × xS) ⊕ xQ) := (if x1 = 0 then Option.map Sum.inr (g170_81 σ) else (match g171 σ with | some (Sum.inl v18, s19) => (if v18 = 0 then Option.map Sum.inr (g170_81 s19) else (match g172 s19 with | some (Sum.inl v22, s23) => (if v22 = 0 then (match g186 s23 with | some (Sum.inl v26, s27) => (if v26 = 0 then g170_77 0 s27 else g170_72 s27) | some (Sum.inr v26, s27) => none | none => none) else g170_72 s23) | some (Sum.inr v22, s23) => none | none => none)) | some (Sum.inr v18, s19) => none | none => none))
def g170_47 (x1 : Int32) (σ : xS) : Option xQ := xlo (fun a : Int32 × xS => g170_47b a.1 a.2) 1000 (x1, σ)
def g170  (σ : xS) : xO := g170_47 1 (xh_ui (xh_ui (xh_ui (xh_ui (xh_ui (xh_ui (xh_ui (xh_ui σ 53 18 (σ 53 17)) 53 17 0) 53 19 0) 53 20 (-1)) 70 1 0) 53 31 0) 53 32 0) 53 40 0)
def a170_47 (l : Launch) (Ω : xo_O) (d p : Nat) (τ : Nat → Nat → Int64) (r : xv_R) : Int32 × xS → Prop := fun a => xv l Ω (d + 6) 0 0 170 47 [some (.ref 53), some (.int a.1)] [] (hM p a.2 τ) r
theorem g170_116_ok {l : Launch} {Ω : xo_O} (htr : xH l) (d : Nat) (p : Nat) (τ : Nat → Nat → Int64) (k1 : Int32) (σ : xS) (r : xv_R) (H : xo (xB false p τ r) (g170_116 k1 σ)) : xv l Ω (d + 6) 0 0 170 116 [some (.ref 53), none] [.int k1, .ref 53] (hM p σ τ) r := by
  unfold g170_116 at H
  by_cases h10 : ((xh_ui σ 53 21 k1) 53 21) = 0
  · rw [if_pos h10] at H
    refine xp_ok htr 4 (d + 6) 0 0 [eB true] 170 116 [some (.ref 53), none] [.int k1, .ref 53] (hM p σ τ) ⟨h10, ?_⟩
    show xv l Ω (d + 6) 0 0 170 128 [some (.ref 53), none] [] (hM p (xh_ui σ 53 21 k1) τ) r
    cases q13 : g187 (xh_ui σ 53 21 k1) with
    | none => rw [q13] at H; exact False.elim H
    | some q130 =>
      obtain ⟨v11 | v11, s12⟩ := q130
      · rw [q13] at H; dsimp only at H
        have hc := g187_run (Ω := Ω) htr (d + 5) p τ  (xh_ui σ 53 21 k1) q13
        refine xp_ok htr 2 (d + 6) 0 0 [eC none (hM p s12 τ)] 170 128 [some (.ref 53), none] [] (hM p (xh_ui σ 53 21 k1) τ) ⟨hc, ?_⟩
        show xv l Ω (d + 6) 0 0 170 132 [some (.ref 53), none] [] (hM p s12 τ) r
        exact xp_ok htr 5 (d + 6) 0 0 [] 170 132 [some (.ref 53), none] [] (hM p s12 τ) ⟨(by unfold vp_in; decide), trivial, (Eq.symm H)⟩
      · rw [q13] at H; exact False.elim H
  · rw [if_neg h10] at H
    refine xp_ok htr 4 (d + 6) 0 0 [eB false] 170 116 [some (.ref 53), none] [.int k1, .ref 53] (hM p σ τ) ⟨h10, ?_⟩
    show xv l Ω (d + 6) 0 0 170 126 [some (.ref 53), none] [] (hM p (xh_ui σ 53 21 k1) τ) r
    exact xp_ok htr 2 (d + 6) 0 0 [] 170 126 [some (.ref 53), none] [] (hM p (xh_ui σ 53 21 k1) τ) ⟨trivial, (Eq.symm H)⟩
theorem g170_103_ok {l : Launch} {Ω : xo_O} (htr : xH l) (d : Nat) (p : Nat) (τ : Nat → Nat → Int64)  (σ : xS) (r : xv_R) (H : xo (xB false p τ r) (g170_103 σ)) : xv l Ω (d + 6) 0 0 170 103 [some (.ref 53), none] [] (hM p σ τ) r := by
  unfold g170_103 at H
  cases q8 : g171 σ with
  | none => rw [q8] at H; exact False.elim H
  | some q80 =>
    obtain ⟨v6 | v6, s7⟩ := q80
    · rw [q8] at H; dsimp only at H
      have hc := g171_run (Ω := Ω) htr (d + 5) p τ  σ q8
      refine xp_ok htr 3 (d + 6) 0 0 [eC (some (.int v6)) (hM p s7 τ)] 170 103 [some (.ref 53), none] [] (hM p σ τ) ⟨hc, ?_⟩
      show xv l Ω (d + 6) 0 0 170 108 [some (.ref 53), none] [.int v6, .ref 53] (hM p s7 τ) r
      by_cases h9 : v6 = 0
      · rw [if_pos h9] at H
        refine xp_ok htr 1 (d + 6) 0 0 [eB true] 170 108 [some (.ref 53), none] [.int v6, .ref 53] (hM p s7 τ) ⟨h9, ?_⟩
        show xv l Ω (d + 6) 0 0 170 115 [some (.ref 53), none] [.ref 53] (hM p s7 τ) r
        refine xp_ok htr 1 (d + 6) 0 0 [] 170 115 [some (.ref 53), none] [.ref 53] (hM p s7 τ) ?_
        show xv l Ω (d + 6) 0 0 170 116 [some (.ref 53), none] [.int 1, .ref 53] (hM p s7 τ) r
        exact xv_sub (L' := [some (.ref 53), none]) ⟨rfl, trivial⟩ (g170_116_ok htr d p τ 1 s7 r H)
      · rw [if_neg h9] at H
        refine xp_ok htr 1 (d + 6) 0 0 [eB false] 170 108 [some (.ref 53), none] [.int v6, .ref 53] (hM p s7 τ) ⟨h9, ?_⟩
        show xv l Ω (d + 6) 0 0 170 111 [some (.ref 53), none] [.ref 53] (hM p s7 τ) r
        refine xp_ok htr 2 (d + 6) 0 0 [] 170 111 [some (.ref 53), none] [.ref 53] (hM p s7 τ) ?_
        show xv l Ω (d + 6) 0 0 170 116 [some (.ref 53), none] [.int 0, .ref 53] (hM p s7 τ) r
        exact xv_sub (L' := [some (.ref 53), none]) ⟨rfl, trivial⟩ (g170_116_ok htr d p τ 0 s7 r H)
    · rw [q8] at H; exact False.elim H
theorem g170_81_ok {l : Launch} {Ω : xo_O} (htr : xH l) (d : Nat) (p : Nat) (τ : Nat → Nat → Int64)  (σ : xS) (r : xv_R) (H : xo (xB false p τ r) (g170_81 σ)) : xv l Ω (d + 6) 0 0 170 81 [some (.ref 53), none] [] (hM p σ τ) r := by
  unfold g170_81 at H
  cases q4 : g171 σ with
  | none => rw [q4] at H; exact False.elim H
  | some q40 =>
    obtain ⟨v2 | v2, s3⟩ := q40
    · rw [q4] at H; dsimp only at H
      have hc := g171_run (Ω := Ω) htr (d + 5) p τ  σ q4
      refine xp_ok htr 2 (d + 6) 0 0 [eC (some (.int v2)) (hM p s3 τ)] 170 81 [some (.ref 53), none] [] (hM p σ τ) ⟨hc, ?_⟩
      show xv l Ω (d + 6) 0 0 170 85 [some (.ref 53), none] [.int v2] (hM p s3 τ) r
      by_cases h5 : v2 = 0
      · rw [if_pos h5] at H
        refine xp_ok htr 1 (d + 6) 0 0 [eB true] 170 85 [some (.ref 53), none] [.int v2] (hM p s3 τ) ⟨h5, ?_⟩
        show xv l Ω (d + 6) 0 0 170 103 [some (.ref 53), none] [] (hM p s3 τ) r
        exact xv_sub (L' := [some (.ref 53), none]) ⟨rfl, trivial⟩ (g170_103_ok htr d p τ s3 r H)
      · rw [if_neg h5] at H
        refine xp_ok htr 1 (d + 6) 0 0 [eB false] 170 85 [some (.ref 53), none] [.int v2] (hM p s3 τ) ⟨h5, ?_⟩
        show xv l Ω (d + 6) 0 0 170 88 [some (.ref 53), none] [] (hM p s3 τ) r
        by_cases h14 : (s3 53 18) ≤ (s3 53 19)
        · rw [if_pos h14] at H
          refine xp_ok htr 5 (d + 6) 0 0 [eB true] 170 88 [some (.ref 53), none] [] (hM p s3 τ) ⟨h14, ?_⟩
          show xv l Ω (d + 6) 0 0 170 103 [some (.ref 53), none] [] (hM p s3 τ) r
          exact xv_sub (L' := [some (.ref 53), none]) ⟨rfl, trivial⟩ (g170_103_ok htr d p τ s3 r H)
        · rw [if_neg h14] at H
          refine xp_ok htr 5 (d + 6) 0 0 [eB false] 170 88 [some (.ref 53), none] [] (hM p s3 τ) ⟨h14, ?_⟩
          show xv l Ω (d + 6) 0 0 170 99 [some (.ref 53), none] [] (hM p s3 τ) r
          cases q17 : g175 s3 with
          | none => rw [q17] at H; exact False.elim H
          | some q170 =>
            obtain ⟨v15 | v15, s16⟩ := q170
            · rw [q17] at H; dsimp only at H
              have hc := g175_run (Ω := Ω) htr (d + 5) p τ  s3 q17
              refine xp_ok htr 2 (d + 6) 0 0 [eC none (hM p s16 τ)] 170 99 [some (.ref 53), none] [] (hM p s3 τ) ⟨hc, ?_⟩
              show xv l Ω (d + 6) 0 0 170 103 [some (.ref 53), none] [] (hM p s16 τ) r
              exact xv_sub (L' := [some (.ref 53), none]) ⟨rfl, trivial⟩ (g170_103_ok htr d p τ s16 r H)
            · rw [q17] at H; exact False.elim H
    · rw [q4] at H; exact False.elim H
theorem g170_77_ok {l : Launch} {Ω : xo_O} (htr : xH l) (d : Nat) (p : Nat) (τ : Nat → Nat → Int64) (k0 : Int32) (σ : xS) (r : xv_R) (H : xo (xd (a170_47 l Ω d p τ r) (xB false p τ r)) (g170_77 k0 σ)) : xv l Ω (d + 6) 0 0 170 77 [some (.ref 53), none] [.int k0] (hM p σ τ) r := by
  unfold g170_77 at H
  refine xp_ok htr 2 (d + 6) 0 0 [] 170 77 [some (.ref 53), none] [.int k0] (hM p σ τ) ?_
  show xv l Ω (d + 6) 0 0 170 47 [some (.ref 53), some (.int k0)] [] (hM p σ τ) r
  exact xv_sub (L' := [some (.ref 53), some (.int k0)]) ⟨rfl, ⟨rfl, trivial⟩⟩ H
theorem g170_72_ok {l : Launch} {Ω : xo_O} (htr : xH l) (d : Nat) (p : Nat) (τ : Nat → Nat → Int64)  (σ : xS) (r : xv_R) (H : xo (xd (a170_47 l Ω d p τ r) (xB false p τ r)) (g170_72 σ)) : xv l Ω (d + 6) 0 0 170 72 [some (.ref 53), none] [] (hM p σ τ) r := by
  unfold g170_72 at H
  refine xp_ok htr 2 (d + 6) 0 0 [] 170 72 [some (.ref 53), none] [] (hM p σ τ) ?_
  show xv l Ω (d + 6) 0 0 170 77 [some (.ref 53), none] [.int 1] (hM p σ τ) r
  exact xv_sub (L' := [some (.ref 53), none]) ⟨rfl, trivial⟩ (g170_77_ok htr d p τ 1 σ r H)
theorem g170_47b_ok {l : Launch} {Ω : xo_O} (htr : xH l) (d : Nat) (p : Nat) (τ : Nat → Nat → Int64) (x1 : Int32) (σ : xS) (r : xv_R) (H : xo (xd (a170_47 l Ω d p τ r) (xB false p τ r)) (g170_47b x1 σ)) : xv l Ω (d + 6) 0 0 170 47 [some (.ref 53), some (.int x1)] [] (hM p σ τ) r := by
  unfold g170_47b at H
  by_cases h1 : x1 = 0
  · rw [if_pos h1] at H
    refine xp_ok htr 2 (d + 6) 0 0 [eB true] 170 47 [some (.ref 53), some (.int x1)] [] (hM p σ τ) ⟨h1, ?_⟩
    show xv l Ω (d + 6) 0 0 170 81 [some (.ref 53), some (.int x1)] [] (hM p σ τ) r
    exact xv_sub (L' := [some (.ref 53), none]) ⟨rfl, trivial⟩ (g170_81_ok htr d p τ σ r (xo_map H))
  · rw [if_neg h1] at H
    refine xp_ok htr 2 (d + 6) 0 0 [eB false] 170 47 [some (.ref 53), some (.int x1)] [] (hM p σ τ) ⟨h1, ?_⟩
    show xv l Ω (d + 6) 0 0 170 51 [some (.ref 53), some (.int x1)] [] (hM p σ τ) r
    cases q20 : g171 σ with
    | none => rw [q20] at H; exact False.elim H
    | some q200 =>
      obtain ⟨v18 | v18, s19⟩ := q200
      · rw [q20] at H; dsimp only at H
        have hc := g171_run (Ω := Ω) htr (d + 5) p τ  σ q20
        refine xp_ok htr 2 (d + 6) 0 0 [eC (some (.int v18)) (hM p s19 τ)] 170 51 [some (.ref 53), some (.int x1)] [] (hM p σ τ) ⟨hc, ?_⟩
        show xv l Ω (d + 6) 0 0 170 55 [some (.ref 53), some (.int x1)] [.int v18] (hM p s19 τ) r
        by_cases h21 : v18 = 0
        · rw [if_pos h21] at H
          refine xp_ok htr 1 (d + 6) 0 0 [eB true] 170 55 [some (.ref 53), some (.int x1)] [.int v18] (hM p s19 τ) ⟨h21, ?_⟩
          show xv l Ω (d + 6) 0 0 170 81 [some (.ref 53), some (.int x1)] [] (hM p s19 τ) r
          exact xv_sub (L' := [some (.ref 53), none]) ⟨rfl, trivial⟩ (g170_81_ok htr d p τ s19 r (xo_map H))
        · rw [if_neg h21] at H
          refine xp_ok htr 1 (d + 6) 0 0 [eB false] 170 55 [some (.ref 53), some (.int x1)] [.int v18] (hM p s19 τ) ⟨h21, ?_⟩
          show xv l Ω (d + 6) 0 0 170 58 [some (.ref 53), some (.int x1)] [] (hM p s19 τ) r
          cases q24 : g172 s19 with
          | none => rw [q24] at H; exact False.elim H
          | some q240 =>
            obtain ⟨v22 | v22, s23⟩ := q240
            · rw [q24] at H; dsimp only at H
              have hc := g172_run (Ω := Ω) htr d p τ  s19 q24
              refine xp_ok htr 2 (d + 6) 0 0 [eC (some (.int v22)) (hM p s23 τ)] 170 58 [some (.ref 53), some (.int x1)] [] (hM p s19 τ) ⟨hc, ?_⟩
              show xv l Ω (d + 6) 0 0 170 62 [some (.ref 53), some (.int x1)] [.int v22] (hM p s23 τ) r
              by_cases h25 : v22 = 0
              · rw [if_pos h25] at H
                refine xp_ok htr 1 (d + 6) 0 0 [eB false] 170 62 [some (.ref 53), some (.int x1)] [.int v22] (hM p s23 τ) ⟨h25, ?_⟩
                show xv l Ω (d + 6) 0 0 170 65 [some (.ref 53), some (.int x1)] [] (hM p s23 τ) r
                cases q28 : g186 s23 with
                | none => rw [q28] at H; exact False.elim H
                | some q280 =>
                  obtain ⟨v26 | v26, s27⟩ := q280
                  · rw [q28] at H; dsimp only at H
                    have hc := g186_run (Ω := Ω) htr (d + 3) p τ  s23 q28
                    refine xp_ok htr 2 (d + 6) 0 0 [eC (some (.int v26)) (hM p s27 τ)] 170 65 [some (.ref 53), some (.int x1)] [] (hM p s23 τ) ⟨hc, ?_⟩
                    show xv l Ω (d + 6) 0 0 170 69 [some (.ref 53), some (.int x1)] [.int v26] (hM p s27 τ) r
                    by_cases h29 : v26 = 0
                    · rw [if_pos h29] at H
                      refine xp_ok htr 1 (d + 6) 0 0 [eB true] 170 69 [some (.ref 53), some (.int x1)] [.int v26] (hM p s27 τ) ⟨h29, ?_⟩
                      show xv l Ω (d + 6) 0 0 170 76 [some (.ref 53), some (.int x1)] [] (hM p s27 τ) r
                      refine xp_ok htr 1 (d + 6) 0 0 [] 170 76 [some (.ref 53), some (.int x1)] [] (hM p s27 τ) ?_
                      show xv l Ω (d + 6) 0 0 170 77 [some (.ref 53), some (.int x1)] [.int 0] (hM p s27 τ) r
                      exact xv_sub (L' := [some (.ref 53), none]) ⟨rfl, trivial⟩ (g170_77_ok htr d p τ 0 s27 r H)
                    · rw [if_neg h29] at H
                      refine xp_ok htr 1 (d + 6) 0 0 [eB false] 170 69 [some (.ref 53), some (.int x1)] [.int v26] (hM p s27 τ) ⟨h29, ?_⟩
                      show xv l Ω (d + 6) 0 0 170 72 [some (.ref 53), some (.int x1)] [] (hM p s27 τ) r
                      exact xv_sub (L' := [some (.ref 53), none]) ⟨rfl, trivial⟩ (g170_72_ok htr d p τ s27 r H)
                  · rw [q28] at H; exact False.elim H
              · rw [if_neg h25] at H
                refine xp_ok htr 1 (d + 6) 0 0 [eB true] 170 62 [some (.ref 53), some (.int x1)] [.int v22] (hM p s23 τ) ⟨h25, ?_⟩
                show xv l Ω (d + 6) 0 0 170 72 [some (.ref 53), some (.int x1)] [] (hM p s23 τ) r
                exact xv_sub (L' := [some (.ref 53), none]) ⟨rfl, trivial⟩ (g170_72_ok htr d p τ s23 r H)
            · rw [q24] at H; exact False.elim H
      · rw [q20] at H; exact False.elim H
theorem g170_47_ok {l : Launch} {Ω : xo_O} (htr : xH l) (d : Nat) (p : Nat) (τ : Nat → Nat → Int64) (x1 : Int32) (σ : xS) (r : xv_R) (H : xo (xB false p τ r) (g170_47 x1 σ)) : xv l Ω (d + 6) 0 0 170 47 [some (.ref 53), some (.int x1)] [] (hM p σ τ) r :=
  xlo_ok (A := a170_47 l Ω d p τ r) (fun a H => g170_47b_ok htr d p τ a.1 a.2 r H) 1000 (x1, σ) H
theorem g170_run {l : Launch} {Ω : xo_O} (htr : xH l) (d : Nat) (p : Nat) (τ : Nat → Nat → Int64)  (σ : xS) {q : xQ} (hq : g170  σ = some q) : xv l Ω (d + 6) 0 0 170 0 (xs_loc (xm_l 170) [.ref 53]) [] (hM p σ τ) (xq_R false p τ q) := by
  have H : xo (xB false p τ (xq_R false p τ q)) (g170  σ) := by rw [hq]; exact rfl
  generalize xq_R false p τ q = r at H ⊢
  show xv l Ω (d + 6) 0 0 170 0 [some (.ref 53), none] [] (hM p σ τ) r
  unfold g170 at H
  refine xp_ok htr 8 (d + 6) 0 0 [] 170 0 [some (.ref 53), none] [] (hM p σ τ) ?_
  show xv l Ω (d + 6) 0 0 170 14 [some (.ref 53), none] [.ref 53] (hM p (xh_ui (xh_ui σ 53 18 (σ 53 17)) 53 17 0) τ) r
  refine xp_ok htr 8 (d + 6) 0 0 [] 170 14 [some (.ref 53), none] [.ref 53] (hM p (xh_ui (xh_ui σ 53 18 (σ 53 17)) 53 17 0) τ) ?_
  show xv l Ω (d + 6) 0 0 170 28 [some (.ref 53), none] [.int 1, .ref 70] (hM p (xh_ui (xh_ui (xh_ui (xh_ui σ 53 18 (σ 53 17)) 53 17 0) 53 19 0) 53 20 (-1)) τ) r
  refine xp_ok htr 8 (d + 6) 0 0 [] 170 28 [some (.ref 53), none] [.int 1, .ref 70] (hM p (xh_ui (xh_ui (xh_ui (xh_ui σ 53 18 (σ 53 17)) 53 17 0) 53 19 0) 53 20 (-1)) τ) ⟨(by unfold vp_in; decide), ?_⟩
  show xv l Ω (d + 6) 0 0 170 40 [some (.ref 53), none] [] (hM p (xh_ui (xh_ui (xh_ui (xh_ui (xh_ui (xh_ui (xh_ui σ 53 18 (σ 53 17)) 53 17 0) 53 19 0) 53 20 (-1)) 70 1 0) 53 31 0) 53 32 0) τ) r
  refine xp_ok htr 5 (d + 6) 0 0 [] 170 40 [some (.ref 53), none] [] (hM p (xh_ui (xh_ui (xh_ui (xh_ui (xh_ui (xh_ui (xh_ui σ 53 18 (σ 53 17)) 53 17 0) 53 19 0) 53 20 (-1)) 70 1 0) 53 31 0) 53 32 0) τ) ?_
  show xv l Ω (d + 6) 0 0 170 47 [some (.ref 53), some (.int 1)] [] (hM p (xh_ui (xh_ui (xh_ui (xh_ui (xh_ui (xh_ui (xh_ui (xh_ui σ 53 18 (σ 53 17)) 53 17 0) 53 19 0) 53 20 (-1)) 70 1 0) 53 31 0) 53 32 0) 53 40 0) τ) r
  exact xv_sub (L' := [some (.ref 53), some (.int 1)]) ⟨rfl, ⟨rfl, trivial⟩⟩ (g170_47_ok htr d p τ 1 (xh_ui (xh_ui (xh_ui (xh_ui (xh_ui (xh_ui (xh_ui (xh_ui σ 53 18 (σ 53 17)) 53 17 0) 53 19 0) 53 20 (-1)) 70 1 0) 53 31 0) 53 32 0) 53 40 0) r H)
/- AccessDeskModel.place -/
def g188  (σ : xS) : xO := some ((Sum.inl ((xh_ui σ 53 21 0) 53 20), (xh_ui σ 53 21 0)))
theorem g188_run {l : Launch} {Ω : xo_O} (htr : xH l) (d : Nat) (p : Nat) (τ : Nat → Nat → Int64)  (σ : xS) {q : xQ} (hq : g188  σ = some q) : xv l Ω d 0 0 188 0 (xs_loc (xm_l 188) [.ref 53]) [] (hM p σ τ) (xq_R false p τ q) := by
  have H : xo (xB false p τ (xq_R false p τ q)) (g188  σ) := by rw [hq]; exact rfl
  generalize xq_R false p τ q = r at H ⊢
  show xv l Ω d 0 0 188 0 [some (.ref 53)] [] (hM p σ τ) r
  unfold g188 at H
  exact xp_ok htr 6 d 0 0 [] 188 0 [some (.ref 53)] [] (hM p σ τ) ⟨trivial, (Eq.symm H)⟩
/- AccessDeskModel.refusal -/
def g190_42 (x1 : Int32) (k0 : Int32) (σ : xS) : Option xQ := (if k0 = 0 then some ((Sum.inl 1, σ)) else (bif xn x1 6 then (if (σ 58 (Int32.toNatClampNeg x1)) = 0 then some ((Sum.inl 2, σ)) else some ((Sum.inl 0, σ))) else none))
def g190_41 (x1 : Int32) (σ : xS) : Option xQ := g190_42 x1 0 σ
def g190 (a1 : Int32) (a2 : Int32) (a3 : Int32) (a4 : Int32) (σ : xS) : xO := (match g152 a1 6 σ with | some (Sum.inl v1, s2) => (if v1 = 0 then g190_41 a1 s2 else (match g152 a2 10 s2 with | some (Sum.inl v8, s9) => (if v8 = 0 then g190_41 a1 s9 else (match g152 a3 16 s9 with | some (Sum.inl v12, s13) => (if v12 = 0 then g190_41 a1 s13 else (match g152 a4 24 s13 with | some (Sum.inl v16, s17) => (if v16 = 0 then g190_41 a1 s17 else g190_42 a1 1 s17) | some (Sum.inr v16, s17) => none | none => none)) | some (Sum.inr v12, s13) => none | none => none)) | some (Sum.inr v8, s9) => none | none => none)) | some (Sum.inr v1, s2) => none | none => none)
theorem g190_42_ok {l : Launch} {Ω : xo_O} (htr : xH l) (d : Nat) (p : Nat) (τ : Nat → Nat → Int64) (x1 : Int32) (k0 : Int32) (σ : xS) (r : xv_R) (H : xo (xB false p τ r) (g190_42 x1 k0 σ)) : xv l Ω (d + 1) 0 0 190 42 [some (.ref 53), some (.int x1), none, none, none, none] [.int k0] (hM p σ τ) r := by
  unfold g190_42 at H
  by_cases h5 : k0 = 0
  · rw [if_pos h5] at H
    refine xp_ok htr 3 (d + 1) 0 0 [eB false] 190 42 [some (.ref 53), some (.int x1), none, none, none, none] [.int k0] (hM p σ τ) ⟨h5, ?_⟩
    show xv l Ω (d + 1) 0 0 190 49 [some (.ref 53), some (.int x1), none, none, none, some (.int k0)] [] (hM p σ τ) r
    exact xp_ok htr 3 (d + 1) 0 0 [] 190 49 [some (.ref 53), some (.int x1), none, none, none, some (.int k0)] [] (hM p σ τ) ⟨trivial, (Eq.symm H)⟩
  · rw [if_neg h5] at H
    refine xp_ok htr 3 (d + 1) 0 0 [eB true] 190 42 [some (.ref 53), some (.int x1), none, none, none, none] [.int k0] (hM p σ τ) ⟨h5, ?_⟩
    show xv l Ω (d + 1) 0 0 190 53 [some (.ref 53), some (.int x1), none, none, none, some (.int k0)] [] (hM p σ τ) r
    cases g6 : xn x1 6 with
    | false => rw [g6, cond_false] at H; exact False.elim H
    | true =>
      rw [g6, cond_true] at H
      by_cases h7 : (σ 58 (Int32.toNatClampNeg x1)) = 0
      · rw [if_pos h7] at H
        refine xp_ok htr 5 (d + 1) 0 0 [eB false] 190 53 [some (.ref 53), some (.int x1), none, none, none, some (.int k0)] [] (hM p σ τ) ⟨(xn_in g6), h7, ?_⟩
        show xv l Ω (d + 1) 0 0 190 62 [some (.ref 53), some (.int x1), none, none, none, some (.int k0)] [] (hM p σ τ) r
        exact xp_ok htr 3 (d + 1) 0 0 [] 190 62 [some (.ref 53), some (.int x1), none, none, none, some (.int k0)] [] (hM p σ τ) ⟨trivial, (Eq.symm H)⟩
      · rw [if_neg h7] at H
        refine xp_ok htr 5 (d + 1) 0 0 [eB true] 190 53 [some (.ref 53), some (.int x1), none, none, none, some (.int k0)] [] (hM p σ τ) ⟨(xn_in g6), h7, ?_⟩
        show xv l Ω (d + 1) 0 0 190 66 [some (.ref 53), some (.int x1), none, none, none, some (.int k0)] [] (hM p σ τ) r
        exact xp_ok htr 2 (d + 1) 0 0 [] 190 66 [some (.ref 53), some (.int x1), none, none, none, some (.int k0)] [] (hM p σ τ) ⟨trivial, (Eq.symm H)⟩
theorem g190_41_ok {l : Launch} {Ω : xo_O} (htr : xH l) (d : Nat) (p : Nat) (τ : Nat → Nat → Int64) (x1 : Int32) (σ : xS) (r : xv_R) (H : xo (xB false p τ r) (g190_41 x1 σ)) : xv l Ω (d + 1) 0 0 190 41 [some (.ref 53), some (.int x1), none, none, none, none] [] (hM p σ τ) r := by
  unfold g190_41 at H
  refine xp_ok htr 1 (d + 1) 0 0 [] 190 41 [some (.ref 53), some (.int x1), none, none, none, none] [] (hM p σ τ) ?_
  show xv l Ω (d + 1) 0 0 190 42 [some (.ref 53), some (.int x1), none, none, none, none] [.int 0] (hM p σ τ) r
  exact xv_sub (L' := [some (.ref 53), some (.int x1), none, none, none, none]) ⟨rfl, ⟨rfl, trivial⟩⟩ (g190_42_ok htr d p τ x1 0 σ r H)
theorem g190_run {l : Launch} {Ω : xo_O} (htr : xH l) (d : Nat) (p : Nat) (τ : Nat → Nat → Int64) (a1 : Int32) (a2 : Int32) (a3 : Int32) (a4 : Int32) (σ : xS) {q : xQ} (hq : g190 a1 a2 a3 a4 σ = some q) : xv l Ω (d + 1) 0 0 190 0 (xs_loc (xm_l 190) [.ref 53, .int a1, .int a2, .int a3, .int a4]) [] (hM p σ τ) (xq_R false p τ q) := by
  have H : xo (xB false p τ (xq_R false p τ q)) (g190 a1 a2 a3 a4 σ) := by rw [hq]; exact rfl
  generalize xq_R false p τ q = r at H ⊢
  show xv l Ω (d + 1) 0 0 190 0 [some (.ref 53), some (.int a1), some (.int a2), some (.int a3), some (.int a4), none] [] (hM p σ τ) r
  unfold g190 at H
  cases q3 : g152 a1 6 σ with
  | none => rw [q3] at H; exact False.elim H
  | some q30 =>
    obtain ⟨v1 | v1, s2⟩ := q30
    · rw [q3] at H; dsimp only at H
      have hc := g152_run (Ω := Ω) htr d p τ a1 6 σ q3
      refine xp_ok htr 3 (d + 1) 0 0 [eC (some (.int v1)) (hM p s2 τ)] 190 0 [some (.ref 53), some (.int a1), some (.int a2), some (.int a3), some (.int a4), none] [] (hM p σ τ) ⟨hc, ?_⟩
      show xv l Ω (d + 1) 0 0 190 6 [some (.ref 53), some (.int a1), some (.int a2), some (.int a3), some (.int a4), none] [.int v1] (hM p s2 τ) r
      by_cases h4 : v1 = 0
      · rw [if_pos h4] at H
        refine xp_ok htr 1 (d + 1) 0 0 [eB true] 190 6 [some (.ref 53), some (.int a1), some (.int a2), some (.int a3), some (.int a4), none] [.int v1] (hM p s2 τ) ⟨h4, ?_⟩
        show xv l Ω (d + 1) 0 0 190 41 [some (.ref 53), some (.int a1), some (.int a2), some (.int a3), some (.int a4), none] [] (hM p s2 τ) r
        exact xv_sub (L' := [some (.ref 53), some (.int a1), none, none, none, none]) ⟨rfl, ⟨rfl, trivial⟩⟩ (g190_41_ok htr d p τ a1 s2 r H)
      · rw [if_neg h4] at H
        refine xp_ok htr 1 (d + 1) 0 0 [eB false] 190 6 [some (.ref 53), some (.int a1), some (.int a2), some (.int a3), some (.int a4), none] [.int v1] (hM p s2 τ) ⟨h4, ?_⟩
        show xv l Ω (d + 1) 0 0 190 9 [some (.ref 53), some (.int a1), some (.int a2), some (.int a3), some (.int a4), none] [] (hM p s2 τ) r
        cases q10 : g152 a2 10 s2 with
        | none => rw [q10] at H; exact False.elim H
        | some q100 =>
          obtain ⟨v8 | v8, s9⟩ := q100
          · rw [q10] at H; dsimp only at H
            have hc := g152_run (Ω := Ω) htr d p τ a2 10 s2 q10
            refine xp_ok htr 3 (d + 1) 0 0 [eC (some (.int v8)) (hM p s9 τ)] 190 9 [some (.ref 53), some (.int a1), some (.int a2), some (.int a3), some (.int a4), none] [] (hM p s2 τ) ⟨hc, ?_⟩
            show xv l Ω (d + 1) 0 0 190 15 [some (.ref 53), some (.int a1), some (.int a2), some (.int a3), some (.int a4), none] [.int v8] (hM p s9 τ) r
            by_cases h11 : v8 = 0
            · rw [if_pos h11] at H
              refine xp_ok htr 1 (d + 1) 0 0 [eB true] 190 15 [some (.ref 53), some (.int a1), some (.int a2), some (.int a3), some (.int a4), none] [.int v8] (hM p s9 τ) ⟨h11, ?_⟩
              show xv l Ω (d + 1) 0 0 190 41 [some (.ref 53), some (.int a1), some (.int a2), some (.int a3), some (.int a4), none] [] (hM p s9 τ) r
              exact xv_sub (L' := [some (.ref 53), some (.int a1), none, none, none, none]) ⟨rfl, ⟨rfl, trivial⟩⟩ (g190_41_ok htr d p τ a1 s9 r H)
            · rw [if_neg h11] at H
              refine xp_ok htr 1 (d + 1) 0 0 [eB false] 190 15 [some (.ref 53), some (.int a1), some (.int a2), some (.int a3), some (.int a4), none] [.int v8] (hM p s9 τ) ⟨h11, ?_⟩
              show xv l Ω (d + 1) 0 0 190 18 [some (.ref 53), some (.int a1), some (.int a2), some (.int a3), some (.int a4), none] [] (hM p s9 τ) r
              cases q14 : g152 a3 16 s9 with
              | none => rw [q14] at H; exact False.elim H
              | some q140 =>
                obtain ⟨v12 | v12, s13⟩ := q140
                · rw [q14] at H; dsimp only at H
                  have hc := g152_run (Ω := Ω) htr d p τ a3 16 s9 q14
                  refine xp_ok htr 3 (d + 1) 0 0 [eC (some (.int v12)) (hM p s13 τ)] 190 18 [some (.ref 53), some (.int a1), some (.int a2), some (.int a3), some (.int a4), none] [] (hM p s9 τ) ⟨hc, ?_⟩
                  show xv l Ω (d + 1) 0 0 190 24 [some (.ref 53), some (.int a1), some (.int a2), some (.int a3), some (.int a4), none] [.int v12] (hM p s13 τ) r
                  by_cases h15 : v12 = 0
                  · rw [if_pos h15] at H
                    refine xp_ok htr 1 (d + 1) 0 0 [eB true] 190 24 [some (.ref 53), some (.int a1), some (.int a2), some (.int a3), some (.int a4), none] [.int v12] (hM p s13 τ) ⟨h15, ?_⟩
                    show xv l Ω (d + 1) 0 0 190 41 [some (.ref 53), some (.int a1), some (.int a2), some (.int a3), some (.int a4), none] [] (hM p s13 τ) r
                    exact xv_sub (L' := [some (.ref 53), some (.int a1), none, none, none, none]) ⟨rfl, ⟨rfl, trivial⟩⟩ (g190_41_ok htr d p τ a1 s13 r H)
                  · rw [if_neg h15] at H
                    refine xp_ok htr 1 (d + 1) 0 0 [eB false] 190 24 [some (.ref 53), some (.int a1), some (.int a2), some (.int a3), some (.int a4), none] [.int v12] (hM p s13 τ) ⟨h15, ?_⟩
                    show xv l Ω (d + 1) 0 0 190 27 [some (.ref 53), some (.int a1), some (.int a2), some (.int a3), some (.int a4), none] [] (hM p s13 τ) r
                    cases q18 : g152 a4 24 s13 with
                    | none => rw [q18] at H; exact False.elim H
                    | some q180 =>
                      obtain ⟨v16 | v16, s17⟩ := q180
                      · rw [q18] at H; dsimp only at H
                        have hc := g152_run (Ω := Ω) htr d p τ a4 24 s13 q18
                        refine xp_ok htr 3 (d + 1) 0 0 [eC (some (.int v16)) (hM p s17 τ)] 190 27 [some (.ref 53), some (.int a1), some (.int a2), some (.int a3), some (.int a4), none] [] (hM p s13 τ) ⟨hc, ?_⟩
                        show xv l Ω (d + 1) 0 0 190 34 [some (.ref 53), some (.int a1), some (.int a2), some (.int a3), some (.int a4), none] [.int v16] (hM p s17 τ) r
                        by_cases h19 : v16 = 0
                        · rw [if_pos h19] at H
                          refine xp_ok htr 1 (d + 1) 0 0 [eB true] 190 34 [some (.ref 53), some (.int a1), some (.int a2), some (.int a3), some (.int a4), none] [.int v16] (hM p s17 τ) ⟨h19, ?_⟩
                          show xv l Ω (d + 1) 0 0 190 41 [some (.ref 53), some (.int a1), some (.int a2), some (.int a3), some (.int a4), none] [] (hM p s17 τ) r
                          exact xv_sub (L' := [some (.ref 53), some (.int a1), none, none, none, none]) ⟨rfl, ⟨rfl, trivial⟩⟩ (g190_41_ok htr d p τ a1 s17 r H)
                        · rw [if_neg h19] at H
                          refine xp_ok htr 1 (d + 1) 0 0 [eB false] 190 34 [some (.ref 53), some (.int a1), some (.int a2), some (.int a3), some (.int a4), none] [.int v16] (hM p s17 τ) ⟨h19, ?_⟩
                          show xv l Ω (d + 1) 0 0 190 37 [some (.ref 53), some (.int a1), some (.int a2), some (.int a3), some (.int a4), none] [] (hM p s17 τ) r
                          refine xp_ok htr 2 (d + 1) 0 0 [] 190 37 [some (.ref 53), some (.int a1), some (.int a2), some (.int a3), some (.int a4), none] [] (hM p s17 τ) ?_
                          show xv l Ω (d + 1) 0 0 190 42 [some (.ref 53), some (.int a1), some (.int a2), some (.int a3), some (.int a4), none] [.int 1] (hM p s17 τ) r
                          exact xv_sub (L' := [some (.ref 53), some (.int a1), none, none, none, none]) ⟨rfl, ⟨rfl, trivial⟩⟩ (g190_42_ok htr d p τ a1 1 s17 r H)
                      · rw [q18] at H; exact False.elim H
                · rw [q14] at H; exact False.elim H
          · rw [q10] at H; exact False.elim H
    · rw [q3] at H; exact False.elim H
/- AccessDeskModel.either -/
def g194 (a0 : Int32) (a1 : Int32) (σ : xS) : xO := (if a0 = 1 then some ((Sum.inl 1, σ)) else (if a1 = 1 then some ((Sum.inl 1, σ)) else (if a0 = 2 then some ((Sum.inl 2, σ)) else (if a1 = 2 then some ((Sum.inl 2, σ)) else some ((Sum.inl 0, σ))))))
theorem g194_run {l : Launch} {Ω : xo_O} (htr : xH l) (d : Nat) (p : Nat) (τ : Nat → Nat → Int64) (a0 : Int32) (a1 : Int32) (σ : xS) {q : xQ} (hq : g194 a0 a1 σ = some q) : xv l Ω d 0 0 194 0 (xs_loc (xm_l 194) [.int a0, .int a1]) [] (hM p σ τ) (xq_R false p τ q) := by
  have H : xo (xB false p τ (xq_R false p τ q)) (g194 a0 a1 σ) := by rw [hq]; exact rfl
  generalize xq_R false p τ q = r at H ⊢
  show xv l Ω d 0 0 194 0 [some (.int a0), some (.int a1)] [] (hM p σ τ) r
  unfold g194 at H
  by_cases h1 : a0 = 1
  · rw [if_pos h1] at H
    refine xp_ok htr 3 d 0 0 [eB true] 194 0 [some (.int a0), some (.int a1)] [] (hM p σ τ) ⟨h1, ?_⟩
    show xv l Ω d 0 0 194 10 [some (.int a0), some (.int a1)] [] (hM p σ τ) r
    exact xp_ok htr 3 d 0 0 [] 194 10 [some (.int a0), some (.int a1)] [] (hM p σ τ) ⟨trivial, (Eq.symm H)⟩
  · rw [if_neg h1] at H
    refine xp_ok htr 3 d 0 0 [eB false] 194 0 [some (.int a0), some (.int a1)] [] (hM p σ τ) ⟨h1, ?_⟩
    show xv l Ω d 0 0 194 5 [some (.int a0), some (.int a1)] [] (hM p σ τ) r
    by_cases h2 : a1 = 1
    · rw [if_pos h2] at H
      refine xp_ok htr 3 d 0 0 [eB false] 194 5 [some (.int a0), some (.int a1)] [] (hM p σ τ) ⟨h2, ?_⟩
      show xv l Ω d 0 0 194 10 [some (.int a0), some (.int a1)] [] (hM p σ τ) r
      exact xp_ok htr 3 d 0 0 [] 194 10 [some (.int a0), some (.int a1)] [] (hM p σ τ) ⟨trivial, (Eq.symm H)⟩
    · rw [if_neg h2] at H
      refine xp_ok htr 3 d 0 0 [eB true] 194 5 [some (.int a0), some (.int a1)] [] (hM p σ τ) ⟨h2, ?_⟩
      show xv l Ω d 0 0 194 14 [some (.int a0), some (.int a1)] [] (hM p σ τ) r
      by_cases h3 : a0 = 2
      · rw [if_pos h3] at H
        refine xp_ok htr 3 d 0 0 [eB true] 194 14 [some (.int a0), some (.int a1)] [] (hM p σ τ) ⟨h3, ?_⟩
        show xv l Ω d 0 0 194 24 [some (.int a0), some (.int a1)] [] (hM p σ τ) r
        exact xp_ok htr 3 d 0 0 [] 194 24 [some (.int a0), some (.int a1)] [] (hM p σ τ) ⟨trivial, (Eq.symm H)⟩
      · rw [if_neg h3] at H
        refine xp_ok htr 3 d 0 0 [eB false] 194 14 [some (.int a0), some (.int a1)] [] (hM p σ τ) ⟨h3, ?_⟩
        show xv l Ω d 0 0 194 19 [some (.int a0), some (.int a1)] [] (hM p σ τ) r
        by_cases h4 : a1 = 2
        · rw [if_pos h4] at H
          refine xp_ok htr 3 d 0 0 [eB false] 194 19 [some (.int a0), some (.int a1)] [] (hM p σ τ) ⟨h4, ?_⟩
          show xv l Ω d 0 0 194 24 [some (.int a0), some (.int a1)] [] (hM p σ τ) r
          exact xp_ok htr 3 d 0 0 [] 194 24 [some (.int a0), some (.int a1)] [] (hM p σ τ) ⟨trivial, (Eq.symm H)⟩
        · rw [if_neg h4] at H
          refine xp_ok htr 3 d 0 0 [eB true] 194 19 [some (.int a0), some (.int a1)] [] (hM p σ τ) ⟨h4, ?_⟩
          show xv l Ω d 0 0 194 28 [some (.int a0), some (.int a1)] [] (hM p σ τ) r
          exact xp_ok htr 2 d 0 0 [] 194 28 [some (.int a0), some (.int a1)] [] (hM p σ τ) ⟨trivial, (Eq.symm H)⟩
/- AccessDeskModel.both -/
def g195 (a0 : Int32) (a1 : Int32) (σ : xS) : xO := (if a0 = 0 then some ((Sum.inl 0, σ)) else (if a1 = 0 then some ((Sum.inl 0, σ)) else (if a0 = 2 then some ((Sum.inl 2, σ)) else (if a1 = 2 then some ((Sum.inl 2, σ)) else some ((Sum.inl 1, σ))))))
theorem g195_run {l : Launch} {Ω : xo_O} (htr : xH l) (d : Nat) (p : Nat) (τ : Nat → Nat → Int64) (a0 : Int32) (a1 : Int32) (σ : xS) {q : xQ} (hq : g195 a0 a1 σ = some q) : xv l Ω d 0 0 195 0 (xs_loc (xm_l 195) [.int a0, .int a1]) [] (hM p σ τ) (xq_R false p τ q) := by
  have H : xo (xB false p τ (xq_R false p τ q)) (g195 a0 a1 σ) := by rw [hq]; exact rfl
  generalize xq_R false p τ q = r at H ⊢
  show xv l Ω d 0 0 195 0 [some (.int a0), some (.int a1)] [] (hM p σ τ) r
  unfold g195 at H
  by_cases h1 : a0 = 0
  · rw [if_pos h1] at H
    refine xp_ok htr 2 d 0 0 [eB true] 195 0 [some (.int a0), some (.int a1)] [] (hM p σ τ) ⟨h1, ?_⟩
    show xv l Ω d 0 0 195 8 [some (.int a0), some (.int a1)] [] (hM p σ τ) r
    exact xp_ok htr 3 d 0 0 [] 195 8 [some (.int a0), some (.int a1)] [] (hM p σ τ) ⟨trivial, (Eq.symm H)⟩
  · rw [if_neg h1] at H
    refine xp_ok htr 2 d 0 0 [eB false] 195 0 [some (.int a0), some (.int a1)] [] (hM p σ τ) ⟨h1, ?_⟩
    show xv l Ω d 0 0 195 4 [some (.int a0), some (.int a1)] [] (hM p σ τ) r
    by_cases h2 : a1 = 0
    · rw [if_pos h2] at H
      refine xp_ok htr 2 d 0 0 [eB false] 195 4 [some (.int a0), some (.int a1)] [] (hM p σ τ) ⟨h2, ?_⟩
      show xv l Ω d 0 0 195 8 [some (.int a0), some (.int a1)] [] (hM p σ τ) r
      exact xp_ok htr 3 d 0 0 [] 195 8 [some (.int a0), some (.int a1)] [] (hM p σ τ) ⟨trivial, (Eq.symm H)⟩
    · rw [if_neg h2] at H
      refine xp_ok htr 2 d 0 0 [eB true] 195 4 [some (.int a0), some (.int a1)] [] (hM p σ τ) ⟨h2, ?_⟩
      show xv l Ω d 0 0 195 12 [some (.int a0), some (.int a1)] [] (hM p σ τ) r
      by_cases h3 : a0 = 2
      · rw [if_pos h3] at H
        refine xp_ok htr 3 d 0 0 [eB true] 195 12 [some (.int a0), some (.int a1)] [] (hM p σ τ) ⟨h3, ?_⟩
        show xv l Ω d 0 0 195 22 [some (.int a0), some (.int a1)] [] (hM p σ τ) r
        exact xp_ok htr 3 d 0 0 [] 195 22 [some (.int a0), some (.int a1)] [] (hM p σ τ) ⟨trivial, (Eq.symm H)⟩
      · rw [if_neg h3] at H
        refine xp_ok htr 3 d 0 0 [eB false] 195 12 [some (.int a0), some (.int a1)] [] (hM p σ τ) ⟨h3, ?_⟩
        show xv l Ω d 0 0 195 17 [some (.int a0), some (.int a1)] [] (hM p σ τ) r
        by_cases h4 : a1 = 2
        · rw [if_pos h4] at H
          refine xp_ok htr 3 d 0 0 [eB false] 195 17 [some (.int a0), some (.int a1)] [] (hM p σ τ) ⟨h4, ?_⟩
          show xv l Ω d 0 0 195 22 [some (.int a0), some (.int a1)] [] (hM p σ τ) r
          exact xp_ok htr 3 d 0 0 [] 195 22 [some (.int a0), some (.int a1)] [] (hM p σ τ) ⟨trivial, (Eq.symm H)⟩
        · rw [if_neg h4] at H
          refine xp_ok htr 3 d 0 0 [eB true] 195 17 [some (.int a0), some (.int a1)] [] (hM p σ τ) ⟨h4, ?_⟩
          show xv l Ω d 0 0 195 26 [some (.int a0), some (.int a1)] [] (hM p σ τ) r
          exact xp_ok htr 2 d 0 0 [] 195 26 [some (.int a0), some (.int a1)] [] (hM p σ τ) ⟨trivial, (Eq.symm H)⟩
/- AccessDeskModel.missing -/
def g197_12  (σ : xS) : Option xQ := (bif xn (σ 53 44) 16 then (if (σ 67 (Int32.toNatClampNeg (σ 53 44))) = 0 then some ((Sum.inl 1, σ)) else some ((Sum.inl 0, σ))) else none)
def g197_42  (σ : xS) : Option xQ := (bif xn (σ 53 42) 6 then (bif xn (σ 59 (Int32.toNatClampNeg (σ 53 42))) 8 then (if (σ 57 (Int32.toNatClampNeg (σ 59 (Int32.toNatClampNeg (σ 53 42))))) = 0 then some ((Sum.inl 1, σ)) else some ((Sum.inl 0, σ))) else none) else none)
def g197 (a1 : Int32) (σ : xS) : xO := (if a1 = 108 then g197_12 σ else (if a1 = 76 then g197_12 σ else (if a1 = 115 then g197_42 σ else (if a1 = 83 then g197_42 σ else some ((Sum.inl 0, σ))))))
theorem g197_12_ok {l : Launch} {Ω : xo_O} (htr : xH l) (d : Nat) (p : Nat) (τ : Nat → Nat → Int64)  (σ : xS) (r : xv_R) (H : xo (xB false p τ r) (g197_12 σ)) : xv l Ω d 0 0 197 12 [some (.ref 53), none] [] (hM p σ τ) r := by
  unfold g197_12 at H
  cases g2 : xn (σ 53 44) 16 with
  | false => rw [g2, cond_false] at H; exact False.elim H
  | true =>
    rw [g2, cond_true] at H
    by_cases h3 : (σ 67 (Int32.toNatClampNeg (σ 53 44))) = 0
    · rw [if_pos h3] at H
      refine xp_ok htr 6 d 0 0 [eB false] 197 12 [some (.ref 53), none] [] (hM p σ τ) ⟨(xn_in g2), h3, ?_⟩
      show xv l Ω d 0 0 197 24 [some (.ref 53), none] [] (hM p σ τ) r
      exact xp_ok htr 3 d 0 0 [] 197 24 [some (.ref 53), none] [] (hM p σ τ) ⟨Or.inr rfl, (Eq.symm H)⟩
    · rw [if_neg h3] at H
      refine xp_ok htr 6 d 0 0 [eB true] 197 12 [some (.ref 53), none] [] (hM p σ τ) ⟨(xn_in g2), h3, ?_⟩
      show xv l Ω d 0 0 197 28 [some (.ref 53), none] [] (hM p σ τ) r
      exact xp_ok htr 2 d 0 0 [] 197 28 [some (.ref 53), none] [] (hM p σ τ) ⟨Or.inl rfl, (Eq.symm H)⟩
theorem g197_42_ok {l : Launch} {Ω : xo_O} (htr : xH l) (d : Nat) (p : Nat) (τ : Nat → Nat → Int64)  (σ : xS) (r : xv_R) (H : xo (xB false p τ r) (g197_42 σ)) : xv l Ω d 0 0 197 42 [some (.ref 53), none] [] (hM p σ τ) r := by
  unfold g197_42 at H
  cases g6 : xn (σ 53 42) 6 with
  | false => rw [g6, cond_false] at H; exact False.elim H
  | true =>
    rw [g6, cond_true] at H
    cases g7 : xn (σ 59 (Int32.toNatClampNeg (σ 53 42))) 8 with
    | false => rw [g7, cond_false] at H; exact False.elim H
    | true =>
      rw [g7, cond_true] at H
      refine xp_ok htr 8 d 0 0 [] 197 42 [some (.ref 53), none] [] (hM p σ τ) ⟨(xn_in g6), (xn_in g7), ?_⟩
      show xv l Ω d 0 0 197 56 [some (.ref 53), none] [.int (σ 57 (Int32.toNatClampNeg (σ 59 (Int32.toNatClampNeg (σ 53 42)))))] (hM p σ τ) r
      by_cases h8 : (σ 57 (Int32.toNatClampNeg (σ 59 (Int32.toNatClampNeg (σ 53 42))))) = 0
      · rw [if_pos h8] at H
        refine xp_ok htr 1 d 0 0 [eB false] 197 56 [some (.ref 53), none] [.int (σ 57 (Int32.toNatClampNeg (σ 59 (Int32.toNatClampNeg (σ 53 42)))))] (hM p σ τ) ⟨h8, ?_⟩
        show xv l Ω d 0 0 197 59 [some (.ref 53), none] [] (hM p σ τ) r
        exact xp_ok htr 3 d 0 0 [] 197 59 [some (.ref 53), none] [] (hM p σ τ) ⟨Or.inr rfl, (Eq.symm H)⟩
      · rw [if_neg h8] at H
        refine xp_ok htr 1 d 0 0 [eB true] 197 56 [some (.ref 53), none] [.int (σ 57 (Int32.toNatClampNeg (σ 59 (Int32.toNatClampNeg (σ 53 42)))))] (hM p σ τ) ⟨h8, ?_⟩
        show xv l Ω d 0 0 197 63 [some (.ref 53), none] [] (hM p σ τ) r
        exact xp_ok htr 2 d 0 0 [] 197 63 [some (.ref 53), none] [] (hM p σ τ) ⟨Or.inl rfl, (Eq.symm H)⟩
theorem g197_run {l : Launch} {Ω : xo_O} (htr : xH l) (d : Nat) (p : Nat) (τ : Nat → Nat → Int64) (a1 : Int32) (σ : xS) {q : xQ} (hq : g197 a1 σ = some q) : xv l Ω d 0 0 197 0 (xs_loc (xm_l 197) [.ref 53, .int a1]) [] (hM p σ τ) (xq_R false p τ q) := by
  have H : xo (xB false p τ (xq_R false p τ q)) (g197 a1 σ) := by rw [hq]; exact rfl
  generalize xq_R false p τ q = r at H ⊢
  show xv l Ω d 0 0 197 0 [some (.ref 53), some (.int a1)] [] (hM p σ τ) r
  unfold g197 at H
  by_cases h1 : a1 = 108
  · rw [if_pos h1] at H
    refine xp_ok htr 3 d 0 0 [eB true] 197 0 [some (.ref 53), some (.int a1)] [] (hM p σ τ) ⟨h1, ?_⟩
    show xv l Ω d 0 0 197 12 [some (.ref 53), some (.int a1)] [] (hM p σ τ) r
    exact xv_sub (L' := [some (.ref 53), none]) ⟨rfl, trivial⟩ (g197_12_ok htr d p τ σ r H)
  · rw [if_neg h1] at H
    refine xp_ok htr 3 d 0 0 [eB false] 197 0 [some (.ref 53), some (.int a1)] [] (hM p σ τ) ⟨h1, ?_⟩
    show xv l Ω d 0 0 197 6 [some (.ref 53), some (.int a1)] [] (hM p σ τ) r
    by_cases h4 : a1 = 76
    · rw [if_pos h4] at H
      refine xp_ok htr 3 d 0 0 [eB false] 197 6 [some (.ref 53), some (.int a1)] [] (hM p σ τ) ⟨h4, ?_⟩
      show xv l Ω d 0 0 197 12 [some (.ref 53), some (.int a1)] [] (hM p σ τ) r
      exact xv_sub (L' := [some (.ref 53), none]) ⟨rfl, trivial⟩ (g197_12_ok htr d p τ σ r H)
    · rw [if_neg h4] at H
      refine xp_ok htr 3 d 0 0 [eB true] 197 6 [some (.ref 53), some (.int a1)] [] (hM p σ τ) ⟨h4, ?_⟩
      show xv l Ω d 0 0 197 30 [some (.ref 53), some (.int a1)] [] (hM p σ τ) r
      by_cases h5 : a1 = 115
      · rw [if_pos h5] at H
        refine xp_ok htr 3 d 0 0 [eB true] 197 30 [some (.ref 53), some (.int a1)] [] (hM p σ τ) ⟨h5, ?_⟩
        show xv l Ω d 0 0 197 42 [some (.ref 53), some (.int a1)] [] (hM p σ τ) r
        exact xv_sub (L' := [some (.ref 53), none]) ⟨rfl, trivial⟩ (g197_42_ok htr d p τ σ r H)
      · rw [if_neg h5] at H
        refine xp_ok htr 3 d 0 0 [eB false] 197 30 [some (.ref 53), some (.int a1)] [] (hM p σ τ) ⟨h5, ?_⟩
        show xv l Ω d 0 0 197 36 [some (.ref 53), some (.int a1)] [] (hM p σ τ) r
        by_cases h9 : a1 = 83
        · rw [if_pos h9] at H
          refine xp_ok htr 3 d 0 0 [eB false] 197 36 [some (.ref 53), some (.int a1)] [] (hM p σ τ) ⟨h9, ?_⟩
          show xv l Ω d 0 0 197 42 [some (.ref 53), some (.int a1)] [] (hM p σ τ) r
          exact xv_sub (L' := [some (.ref 53), none]) ⟨rfl, trivial⟩ (g197_42_ok htr d p τ σ r H)
        · rw [if_neg h9] at H
          refine xp_ok htr 3 d 0 0 [eB true] 197 36 [some (.ref 53), some (.int a1)] [] (hM p σ τ) ⟨h9, ?_⟩
          show xv l Ω d 0 0 197 63 [some (.ref 53), some (.int a1)] [] (hM p σ τ) r
          exact xp_ok htr 2 d 0 0 [] 197 63 [some (.ref 53), some (.int a1)] [] (hM p σ τ) ⟨Or.inl rfl, (Eq.symm H)⟩
/- AccessDeskModel.attribute -/
def g198 (a1 : Int32) (σ : xS) : xO := (if a1 = 76 then (bif xn (σ 53 44) 16 then some ((Sum.inl (σ 66 (Int32.toNatClampNeg (σ 53 44))), σ)) else none) else (if a1 = 97 then some ((Sum.inl (σ 53 43), σ)) else (if a1 = 99 then (bif xn (σ 53 44) 16 then some ((Sum.inl (σ 65 (Int32.toNatClampNeg (σ 53 44))), σ)) else none) else (if a1 = 104 then some ((Sum.inl (σ 53 45), σ)) else (if a1 = 108 then (bif xn (σ 53 44) 16 then some ((Sum.inl (σ 66 (Int32.toNatClampNeg (σ 53 44))), σ)) else none) else (if a1 = 117 then (bif xn (σ 53 42) 6 then some ((Sum.inl (σ 59 (Int32.toNatClampNeg (σ 53 42))), σ)) else none) else (bif xn (σ 53 42) 6 then (bif xn (σ 59 (Int32.toNatClampNeg (σ 53 42))) 8 then some ((Sum.inl (σ 56 (Int32.toNatClampNeg (σ 59 (Int32.toNatClampNeg (σ 53 42))))), σ)) else none) else none)))))))
theorem g198_run {l : Launch} {Ω : xo_O} (htr : xH l) (d : Nat) (p : Nat) (τ : Nat → Nat → Int64) (a1 : Int32) (σ : xS) {q : xQ} (hq : g198 a1 σ = some q) : xv l Ω d 0 0 198 0 (xs_loc (xm_l 198) [.ref 53, .int a1]) [] (hM p σ τ) (xq_R false p τ q) := by
  have H : xo (xB false p τ (xq_R false p τ q)) (g198 a1 σ) := by rw [hq]; exact rfl
  generalize xq_R false p τ q = r at H ⊢
  show xv l Ω d 0 0 198 0 [some (.ref 53), some (.int a1)] [] (hM p σ τ) r
  unfold g198 at H
  by_cases h1_0 : a1 = 76
  · rw [if_pos h1_0] at H
    refine xp_ok htr 2 d 0 0 [eS (some 76)] 198 0 [some (.ref 53), some (.int a1)] [] (hM p σ τ) ⟨h1_0, ?_⟩
    show xv l Ω d 0 0 198 75 [some (.ref 53), some (.int a1)] [] (hM p σ τ) r
    cases g2 : xn (σ 53 44) 16 with
    | false => rw [g2, cond_false] at H; exact False.elim H
    | true =>
      rw [g2, cond_true] at H
      exact xp_ok htr 6 d 0 0 [] 198 75 [some (.ref 53), some (.int a1)] [] (hM p σ τ) ⟨(xn_in g2), trivial, (Eq.symm H)⟩
  rw [if_neg h1_0] at H
  by_cases h1_1 : a1 = 97
  · rw [if_pos h1_1] at H
    refine xp_ok htr 2 d 0 0 [eS (some 97)] 198 0 [some (.ref 53), some (.int a1)] [] (hM p σ τ) ⟨h1_1, ?_⟩
    show xv l Ω d 0 0 198 60 [some (.ref 53), some (.int a1)] [] (hM p σ τ) r
    exact xp_ok htr 3 d 0 0 [] 198 60 [some (.ref 53), some (.int a1)] [] (hM p σ τ) ⟨trivial, (Eq.symm H)⟩
  rw [if_neg h1_1] at H
  by_cases h1_2 : a1 = 99
  · rw [if_pos h1_2] at H
    refine xp_ok htr 2 d 0 0 [eS (some 99)] 198 0 [some (.ref 53), some (.int a1)] [] (hM p σ τ) ⟨h1_2, ?_⟩
    show xv l Ω d 0 0 198 65 [some (.ref 53), some (.int a1)] [] (hM p σ τ) r
    cases g3 : xn (σ 53 44) 16 with
    | false => rw [g3, cond_false] at H; exact False.elim H
    | true =>
      rw [g3, cond_true] at H
      exact xp_ok htr 6 d 0 0 [] 198 65 [some (.ref 53), some (.int a1)] [] (hM p σ τ) ⟨(xn_in g3), trivial, (Eq.symm H)⟩
  rw [if_neg h1_2] at H
  by_cases h1_3 : a1 = 104
  · rw [if_pos h1_3] at H
    refine xp_ok htr 2 d 0 0 [eS (some 104)] 198 0 [some (.ref 53), some (.int a1)] [] (hM p σ τ) ⟨h1_3, ?_⟩
    show xv l Ω d 0 0 198 85 [some (.ref 53), some (.int a1)] [] (hM p σ τ) r
    exact xp_ok htr 3 d 0 0 [] 198 85 [some (.ref 53), some (.int a1)] [] (hM p σ τ) ⟨trivial, (Eq.symm H)⟩
  rw [if_neg h1_3] at H
  by_cases h1_4 : a1 = 108
  · rw [if_pos h1_4] at H
    refine xp_ok htr 2 d 0 0 [eS (some 108)] 198 0 [some (.ref 53), some (.int a1)] [] (hM p σ τ) ⟨h1_4, ?_⟩
    show xv l Ω d 0 0 198 75 [some (.ref 53), some (.int a1)] [] (hM p σ τ) r
    cases g4 : xn (σ 53 44) 16 with
    | false => rw [g4, cond_false] at H; exact False.elim H
    | true =>
      rw [g4, cond_true] at H
      exact xp_ok htr 6 d 0 0 [] 198 75 [some (.ref 53), some (.int a1)] [] (hM p σ τ) ⟨(xn_in g4), trivial, (Eq.symm H)⟩
  rw [if_neg h1_4] at H
  by_cases h1_5 : a1 = 117
  · rw [if_pos h1_5] at H
    refine xp_ok htr 2 d 0 0 [eS (some 117)] 198 0 [some (.ref 53), some (.int a1)] [] (hM p σ τ) ⟨h1_5, ?_⟩
    show xv l Ω d 0 0 198 90 [some (.ref 53), some (.int a1)] [] (hM p σ τ) r
    cases g5 : xn (σ 53 42) 6 with
    | false => rw [g5, cond_false] at H; exact False.elim H
    | true =>
      rw [g5, cond_true] at H
      exact xp_ok htr 6 d 0 0 [] 198 90 [some (.ref 53), some (.int a1)] [] (hM p σ τ) ⟨(xn_in g5), trivial, (Eq.symm H)⟩
  rw [if_neg h1_5] at H
  refine xp_ok htr 2 d 0 0 [eS none] 198 0 [some (.ref 53), some (.int a1)] [] (hM p σ τ) ⟨⟨h1_0, h1_1, h1_2, h1_3, h1_4, h1_5, trivial⟩, ?_⟩
  show xv l Ω d 0 0 198 100 [some (.ref 53), some (.int a1)] [] (hM p σ τ) r
  cases g6 : xn (σ 53 42) 6 with
  | false => rw [g6, cond_false] at H; exact False.elim H
  | true =>
    rw [g6, cond_true] at H
    cases g7 : xn (σ 59 (Int32.toNatClampNeg (σ 53 42))) 8 with
    | false => rw [g7, cond_false] at H; exact False.elim H
    | true =>
      rw [g7, cond_true] at H
      refine xp_ok htr 8 d 0 0 [] 198 100 [some (.ref 53), some (.int a1)] [] (hM p σ τ) ⟨(xn_in g6), (xn_in g7), ?_⟩
      show xv l Ω d 0 0 198 114 [some (.ref 53), some (.int a1)] [.int (σ 56 (Int32.toNatClampNeg (σ 59 (Int32.toNatClampNeg (σ 53 42)))))] (hM p σ τ) r
      exact xp_ok htr 1 d 0 0 [] 198 114 [some (.ref 53), some (.int a1)] [.int (σ 56 (Int32.toNatClampNeg (σ 59 (Int32.toNatClampNeg (σ 53 42)))))] (hM p σ τ) ⟨trivial, (Eq.symm H)⟩
/- AccessDeskModel.matched -/
def g196_161 (k0 : Int32) (σ : xS) : Option xQ := (if k0 = 0 then some ((Sum.inl 0, σ)) else some ((Sum.inl 1, σ)))
def g196 (a1 : Int32) (σ : xS) : xO := (bif xn a1 200 then (match g197 (σ 79 (Int32.toNatClampNeg a1)) σ with | some (Sum.inl v2, s3) => (if v2 = 0 then (if (σ 79 (Int32.toNatClampNeg a1)) = 114 then (if 12 ≤ (s3 81 (Int32.toNatClampNeg a1)) then some ((Sum.inl 0, s3)) else (bif xn (s3 53 42) 6 then (match g153 (s3 60 (Int32.toNatClampNeg (s3 53 42))) s3 with | some (Sum.inl v9, s10) => (if ((v9 >>> ((s10 81 (Int32.toNatClampNeg a1)) &&& 31)) &&& 1) = 1 then some ((Sum.inl 1, s10)) else some ((Sum.inl 0, s10))) | some (Sum.inr v9, s10) => none | none => none) else none)) else (match g198 (σ 79 (Int32.toNatClampNeg a1)) s3 with | some (Sum.inl v13, s14) => (if (s14 80 (Int32.toNatClampNeg a1)) = 61 then (if v13 = (s14 81 (Int32.toNatClampNeg a1)) then g196_161 1 s14 else g196_161 0 s14) else (if (s14 80 (Int32.toNatClampNeg a1)) = 60 then (if (s14 81 (Int32.toNatClampNeg a1)) ≤ v13 then g196_161 0 s14 else g196_161 1 s14) else (if v13 ≤ (s14 81 (Int32.toNatClampNeg a1)) then g196_161 0 s14 else g196_161 1 s14))) | some (Sum.inr v13, s14) => none | none => none)) else (if (σ 79 (Int32.toNatClampNeg a1)) = 76 then some ((Sum.inl 2, s3)) else (if (σ 79 (Int32.toNatClampNeg a1)) = 83 then some ((Sum.inl 2, s3)) else some ((Sum.inl 0, s3))))) | some (Sum.inr v2, s3) => none | none => none) else none)
theorem g196_161_ok {l : Launch} {Ω : xo_O} (htr : xH l) (d : Nat) (p : Nat) (τ : Nat → Nat → Int64) (k0 : Int32) (σ : xS) (r : xv_R) (H : xo (xB false p τ r) (g196_161 k0 σ)) : xv l Ω (d + 1) 0 0 196 161 [none, none, none, none, none] [.int k0] (hM p σ τ) r := by
  unfold g196_161 at H
  by_cases h18 : k0 = 0
  · rw [if_pos h18] at H
    refine xp_ok htr 3 (d + 1) 0 0 [eB true] 196 161 [none, none, none, none, none] [.int k0] (hM p σ τ) ⟨h18, ?_⟩
    show xv l Ω (d + 1) 0 0 196 172 [none, none, none, none, some (.int k0)] [] (hM p σ τ) r
    exact xp_ok htr 2 (d + 1) 0 0 [] 196 172 [none, none, none, none, some (.int k0)] [] (hM p σ τ) ⟨trivial, (Eq.symm H)⟩
  · rw [if_neg h18] at H
    refine xp_ok htr 3 (d + 1) 0 0 [eB false] 196 161 [none, none, none, none, none] [.int k0] (hM p σ τ) ⟨h18, ?_⟩
    show xv l Ω (d + 1) 0 0 196 168 [none, none, none, none, some (.int k0)] [] (hM p σ τ) r
    exact xp_ok htr 3 (d + 1) 0 0 [] 196 168 [none, none, none, none, some (.int k0)] [] (hM p σ τ) ⟨trivial, (Eq.symm H)⟩
theorem g196_run {l : Launch} {Ω : xo_O} (htr : xH l) (d : Nat) (p : Nat) (τ : Nat → Nat → Int64) (a1 : Int32) (σ : xS) {q : xQ} (hq : g196 a1 σ = some q) : xv l Ω (d + 1) 0 0 196 0 (xs_loc (xm_l 196) [.ref 53, .int a1]) [] (hM p σ τ) (xq_R false p τ q) := by
  have H : xo (xB false p τ (xq_R false p τ q)) (g196 a1 σ) := by rw [hq]; exact rfl
  generalize xq_R false p τ q = r at H ⊢
  show xv l Ω (d + 1) 0 0 196 0 [some (.ref 53), some (.int a1), none, none, none] [] (hM p σ τ) r
  unfold g196 at H
  cases g1 : xn a1 200 with
  | false => rw [g1, cond_false] at H; exact False.elim H
  | true =>
    rw [g1, cond_true] at H
    cases q4 : g197 (σ 79 (Int32.toNatClampNeg a1)) σ with
    | none => rw [q4] at H; exact False.elim H
    | some q40 =>
      obtain ⟨v2 | v2, s3⟩ := q40
      · rw [q4] at H; dsimp only at H
        have hc := g197_run (Ω := Ω) htr d p τ (σ 79 (Int32.toNatClampNeg a1)) σ q4
        refine xp_ok htr 8 (d + 1) 0 0 [eC (some (.int v2)) (hM p s3 τ)] 196 0 [some (.ref 53), some (.int a1), none, none, none] [] (hM p σ τ) ⟨(xn_in g1), hc, ?_⟩
        show xv l Ω (d + 1) 0 0 196 12 [some (.ref 53), some (.int a1), some (.int (σ 79 (Int32.toNatClampNeg a1))), none, none] [.int v2] (hM p s3 τ) r
        by_cases h5 : v2 = 0
        · rw [if_pos h5] at H
          refine xp_ok htr 1 (d + 1) 0 0 [eB true] 196 12 [some (.ref 53), some (.int a1), some (.int (σ 79 (Int32.toNatClampNeg a1))), none, none] [.int v2] (hM p s3 τ) ⟨h5, ?_⟩
          show xv l Ω (d + 1) 0 0 196 33 [some (.ref 53), some (.int a1), some (.int (σ 79 (Int32.toNatClampNeg a1))), none, none] [] (hM p s3 τ) r
          by_cases h6 : (σ 79 (Int32.toNatClampNeg a1)) = 114
          · rw [if_pos h6] at H
            refine xp_ok htr 3 (d + 1) 0 0 [eB false] 196 33 [some (.ref 53), some (.int a1), some (.int (σ 79 (Int32.toNatClampNeg a1))), none, none] [] (hM p s3 τ) ⟨h6, ?_⟩
            show xv l Ω (d + 1) 0 0 196 39 [some (.ref 53), some (.int a1), some (.int (σ 79 (Int32.toNatClampNeg a1))), none, none] [] (hM p s3 τ) r
            by_cases h7 : 12 ≤ (s3 81 (Int32.toNatClampNeg a1))
            · rw [if_pos h7] at H
              refine xp_ok htr 6 (d + 1) 0 0 [eB true] 196 39 [some (.ref 53), some (.int a1), some (.int (σ 79 (Int32.toNatClampNeg a1))), none, none] [] (hM p s3 τ) ⟨(xn_in g1), h7, ?_⟩
              show xv l Ω (d + 1) 0 0 196 80 [some (.ref 53), some (.int a1), some (.int (σ 79 (Int32.toNatClampNeg a1))), none, none] [] (hM p s3 τ) r
              exact xp_ok htr 2 (d + 1) 0 0 [] 196 80 [some (.ref 53), some (.int a1), some (.int (σ 79 (Int32.toNatClampNeg a1))), none, none] [] (hM p s3 τ) ⟨trivial, (Eq.symm H)⟩
            · rw [if_neg h7] at H
              refine xp_ok htr 6 (d + 1) 0 0 [eB false] 196 39 [some (.ref 53), some (.int a1), some (.int (σ 79 (Int32.toNatClampNeg a1))), none, none] [] (hM p s3 τ) ⟨(xn_in g1), h7, ?_⟩
              show xv l Ω (d + 1) 0 0 196 50 [some (.ref 53), some (.int a1), some (.int (σ 79 (Int32.toNatClampNeg a1))), none, none] [] (hM p s3 τ) r
              cases g8 : xn (s3 53 42) 6 with
              | false => rw [g8, cond_false] at H; exact False.elim H
              | true =>
                rw [g8, cond_true] at H
                cases q11 : g153 (s3 60 (Int32.toNatClampNeg (s3 53 42))) s3 with
                | none => rw [q11] at H; exact False.elim H
                | some q110 =>
                  obtain ⟨v9 | v9, s10⟩ := q110
                  · rw [q11] at H; dsimp only at H
                    have hc := g153_run (Ω := Ω) htr d p τ (s3 60 (Int32.toNatClampNeg (s3 53 42))) s3 q11
                    refine xp_ok htr 7 (d + 1) 0 0 [eC (some (.int v9)) (hM p s10 τ)] 196 50 [some (.ref 53), some (.int a1), some (.int (σ 79 (Int32.toNatClampNeg a1))), none, none] [] (hM p s3 τ) ⟨(xn_in g8), hc, ?_⟩
                    show xv l Ω (d + 1) 0 0 196 63 [some (.ref 53), some (.int a1), some (.int (σ 79 (Int32.toNatClampNeg a1))), none, none] [.int v9] (hM p s10 τ) r
                    refine xp_ok htr 8 (d + 1) 0 0 [] 196 63 [some (.ref 53), some (.int a1), some (.int (σ 79 (Int32.toNatClampNeg a1))), none, none] [.int v9] (hM p s10 τ) ⟨(xn_in g1), ?_⟩
                    show xv l Ω (d + 1) 0 0 196 73 [some (.ref 53), some (.int a1), some (.int (σ 79 (Int32.toNatClampNeg a1))), none, none] [.int 1, .int ((v9 >>> ((s10 81 (Int32.toNatClampNeg a1)) &&& 31)) &&& 1)] (hM p s10 τ) r
                    by_cases h12 : ((v9 >>> ((s10 81 (Int32.toNatClampNeg a1)) &&& 31)) &&& 1) = 1
                    · rw [if_pos h12] at H
                      refine xp_ok htr 1 (d + 1) 0 0 [eB false] 196 73 [some (.ref 53), some (.int a1), some (.int (σ 79 (Int32.toNatClampNeg a1))), none, none] [.int 1, .int ((v9 >>> ((s10 81 (Int32.toNatClampNeg a1)) &&& 31)) &&& 1)] (hM p s10 τ) ⟨h12, ?_⟩
                      show xv l Ω (d + 1) 0 0 196 76 [some (.ref 53), some (.int a1), some (.int (σ 79 (Int32.toNatClampNeg a1))), none, none] [] (hM p s10 τ) r
                      exact xp_ok htr 3 (d + 1) 0 0 [] 196 76 [some (.ref 53), some (.int a1), some (.int (σ 79 (Int32.toNatClampNeg a1))), none, none] [] (hM p s10 τ) ⟨trivial, (Eq.symm H)⟩
                    · rw [if_neg h12] at H
                      refine xp_ok htr 1 (d + 1) 0 0 [eB true] 196 73 [some (.ref 53), some (.int a1), some (.int (σ 79 (Int32.toNatClampNeg a1))), none, none] [.int 1, .int ((v9 >>> ((s10 81 (Int32.toNatClampNeg a1)) &&& 31)) &&& 1)] (hM p s10 τ) ⟨h12, ?_⟩
                      show xv l Ω (d + 1) 0 0 196 80 [some (.ref 53), some (.int a1), some (.int (σ 79 (Int32.toNatClampNeg a1))), none, none] [] (hM p s10 τ) r
                      exact xp_ok htr 2 (d + 1) 0 0 [] 196 80 [some (.ref 53), some (.int a1), some (.int (σ 79 (Int32.toNatClampNeg a1))), none, none] [] (hM p s10 τ) ⟨trivial, (Eq.symm H)⟩
                  · rw [q11] at H; exact False.elim H
          · rw [if_neg h6] at H
            refine xp_ok htr 3 (d + 1) 0 0 [eB true] 196 33 [some (.ref 53), some (.int a1), some (.int (σ 79 (Int32.toNatClampNeg a1))), none, none] [] (hM p s3 τ) ⟨h6, ?_⟩
            show xv l Ω (d + 1) 0 0 196 82 [some (.ref 53), some (.int a1), some (.int (σ 79 (Int32.toNatClampNeg a1))), none, none] [] (hM p s3 τ) r
            cases q15 : g198 (σ 79 (Int32.toNatClampNeg a1)) s3 with
            | none => rw [q15] at H; exact False.elim H
            | some q150 =>
              obtain ⟨v13 | v13, s14⟩ := q150
              · rw [q15] at H; dsimp only at H
                have hc := g198_run (Ω := Ω) htr d p τ (σ 79 (Int32.toNatClampNeg a1)) s3 q15
                refine xp_ok htr 3 (d + 1) 0 0 [eC (some (.int v13)) (hM p s14 τ)] 196 82 [some (.ref 53), some (.int a1), some (.int (σ 79 (Int32.toNatClampNeg a1))), none, none] [] (hM p s3 τ) ⟨hc, ?_⟩
                show xv l Ω (d + 1) 0 0 196 87 [some (.ref 53), some (.int a1), some (.int (σ 79 (Int32.toNatClampNeg a1))), none, none] [.int v13] (hM p s14 τ) r
                by_cases h16 : (s14 80 (Int32.toNatClampNeg a1)) = 61
                · rw [if_pos h16] at H
                  refine xp_ok htr 7 (d + 1) 0 0 [eB false] 196 87 [some (.ref 53), some (.int a1), some (.int (σ 79 (Int32.toNatClampNeg a1))), none, none] [.int v13] (hM p s14 τ) ⟨(xn_in g1), h16, ?_⟩
                  show xv l Ω (d + 1) 0 0 196 99 [some (.ref 53), some (.int a1), some (.int (σ 79 (Int32.toNatClampNeg a1))), some (.int v13), none] [] (hM p s14 τ) r
                  by_cases h17 : v13 = (s14 81 (Int32.toNatClampNeg a1))
                  · rw [if_pos h17] at H
                    refine xp_ok htr 6 (d + 1) 0 0 [eB false] 196 99 [some (.ref 53), some (.int a1), some (.int (σ 79 (Int32.toNatClampNeg a1))), some (.int v13), none] [] (hM p s14 τ) ⟨(xn_in g1), h17, ?_⟩
                    show xv l Ω (d + 1) 0 0 196 109 [some (.ref 53), some (.int a1), some (.int (σ 79 (Int32.toNatClampNeg a1))), some (.int v13), none] [] (hM p s14 τ) r
                    refine xp_ok htr 2 (d + 1) 0 0 [] 196 109 [some (.ref 53), some (.int a1), some (.int (σ 79 (Int32.toNatClampNeg a1))), some (.int v13), none] [] (hM p s14 τ) ?_
                    show xv l Ω (d + 1) 0 0 196 161 [some (.ref 53), some (.int a1), some (.int (σ 79 (Int32.toNatClampNeg a1))), some (.int v13), none] [.int 1] (hM p s14 τ) r
                    exact xv_sub (L' := [none, none, none, none, none]) trivial (g196_161_ok htr d p τ 1 s14 r H)
                  · rw [if_neg h17] at H
                    refine xp_ok htr 6 (d + 1) 0 0 [eB true] 196 99 [some (.ref 53), some (.int a1), some (.int (σ 79 (Int32.toNatClampNeg a1))), some (.int v13), none] [] (hM p s14 τ) ⟨(xn_in g1), h17, ?_⟩
                    show xv l Ω (d + 1) 0 0 196 113 [some (.ref 53), some (.int a1), some (.int (σ 79 (Int32.toNatClampNeg a1))), some (.int v13), none] [] (hM p s14 τ) r
                    refine xp_ok htr 2 (d + 1) 0 0 [] 196 113 [some (.ref 53), some (.int a1), some (.int (σ 79 (Int32.toNatClampNeg a1))), some (.int v13), none] [] (hM p s14 τ) ?_
                    show xv l Ω (d + 1) 0 0 196 161 [some (.ref 53), some (.int a1), some (.int (σ 79 (Int32.toNatClampNeg a1))), some (.int v13), none] [.int 0] (hM p s14 τ) r
                    exact xv_sub (L' := [none, none, none, none, none]) trivial (g196_161_ok htr d p τ 0 s14 r H)
                · rw [if_neg h16] at H
                  refine xp_ok htr 7 (d + 1) 0 0 [eB true] 196 87 [some (.ref 53), some (.int a1), some (.int (σ 79 (Int32.toNatClampNeg a1))), none, none] [.int v13] (hM p s14 τ) ⟨(xn_in g1), h16, ?_⟩
                  show xv l Ω (d + 1) 0 0 196 117 [some (.ref 53), some (.int a1), some (.int (σ 79 (Int32.toNatClampNeg a1))), some (.int v13), none] [] (hM p s14 τ) r
                  by_cases h19 : (s14 80 (Int32.toNatClampNeg a1)) = 60
                  · rw [if_pos h19] at H
                    refine xp_ok htr 6 (d + 1) 0 0 [eB false] 196 117 [some (.ref 53), some (.int a1), some (.int (σ 79 (Int32.toNatClampNeg a1))), some (.int v13), none] [] (hM p s14 τ) ⟨(xn_in g1), h19, ?_⟩
                    show xv l Ω (d + 1) 0 0 196 128 [some (.ref 53), some (.int a1), some (.int (σ 79 (Int32.toNatClampNeg a1))), some (.int v13), none] [] (hM p s14 τ) r
                    by_cases h20 : (s14 81 (Int32.toNatClampNeg a1)) ≤ v13
                    · rw [if_pos h20] at H
                      refine xp_ok htr 6 (d + 1) 0 0 [eB true] 196 128 [some (.ref 53), some (.int a1), some (.int (σ 79 (Int32.toNatClampNeg a1))), some (.int v13), none] [] (hM p s14 τ) ⟨(xn_in g1), h20, ?_⟩
                      show xv l Ω (d + 1) 0 0 196 142 [some (.ref 53), some (.int a1), some (.int (σ 79 (Int32.toNatClampNeg a1))), some (.int v13), none] [] (hM p s14 τ) r
                      refine xp_ok htr 2 (d + 1) 0 0 [] 196 142 [some (.ref 53), some (.int a1), some (.int (σ 79 (Int32.toNatClampNeg a1))), some (.int v13), none] [] (hM p s14 τ) ?_
                      show xv l Ω (d + 1) 0 0 196 161 [some (.ref 53), some (.int a1), some (.int (σ 79 (Int32.toNatClampNeg a1))), some (.int v13), none] [.int 0] (hM p s14 τ) r
                      exact xv_sub (L' := [none, none, none, none, none]) trivial (g196_161_ok htr d p τ 0 s14 r H)
                    · rw [if_neg h20] at H
                      refine xp_ok htr 6 (d + 1) 0 0 [eB false] 196 128 [some (.ref 53), some (.int a1), some (.int (σ 79 (Int32.toNatClampNeg a1))), some (.int v13), none] [] (hM p s14 τ) ⟨(xn_in g1), h20, ?_⟩
                      show xv l Ω (d + 1) 0 0 196 138 [some (.ref 53), some (.int a1), some (.int (σ 79 (Int32.toNatClampNeg a1))), some (.int v13), none] [] (hM p s14 τ) r
                      refine xp_ok htr 2 (d + 1) 0 0 [] 196 138 [some (.ref 53), some (.int a1), some (.int (σ 79 (Int32.toNatClampNeg a1))), some (.int v13), none] [] (hM p s14 τ) ?_
                      show xv l Ω (d + 1) 0 0 196 161 [some (.ref 53), some (.int a1), some (.int (σ 79 (Int32.toNatClampNeg a1))), some (.int v13), none] [.int 1] (hM p s14 τ) r
                      exact xv_sub (L' := [none, none, none, none, none]) trivial (g196_161_ok htr d p τ 1 s14 r H)
                  · rw [if_neg h19] at H
                    refine xp_ok htr 6 (d + 1) 0 0 [eB true] 196 117 [some (.ref 53), some (.int a1), some (.int (σ 79 (Int32.toNatClampNeg a1))), some (.int v13), none] [] (hM p s14 τ) ⟨(xn_in g1), h19, ?_⟩
                    show xv l Ω (d + 1) 0 0 196 146 [some (.ref 53), some (.int a1), some (.int (σ 79 (Int32.toNatClampNeg a1))), some (.int v13), none] [] (hM p s14 τ) r
                    by_cases h21 : v13 ≤ (s14 81 (Int32.toNatClampNeg a1))
                    · rw [if_pos h21] at H
                      refine xp_ok htr 6 (d + 1) 0 0 [eB true] 196 146 [some (.ref 53), some (.int a1), some (.int (σ 79 (Int32.toNatClampNeg a1))), some (.int v13), none] [] (hM p s14 τ) ⟨(xn_in g1), h21, ?_⟩
                      show xv l Ω (d + 1) 0 0 196 160 [some (.ref 53), some (.int a1), some (.int (σ 79 (Int32.toNatClampNeg a1))), some (.int v13), none] [] (hM p s14 τ) r
                      refine xp_ok htr 1 (d + 1) 0 0 [] 196 160 [some (.ref 53), some (.int a1), some (.int (σ 79 (Int32.toNatClampNeg a1))), some (.int v13), none] [] (hM p s14 τ) ?_
                      show xv l Ω (d + 1) 0 0 196 161 [some (.ref 53), some (.int a1), some (.int (σ 79 (Int32.toNatClampNeg a1))), some (.int v13), none] [.int 0] (hM p s14 τ) r
                      exact xv_sub (L' := [none, none, none, none, none]) trivial (g196_161_ok htr d p τ 0 s14 r H)
                    · rw [if_neg h21] at H
                      refine xp_ok htr 6 (d + 1) 0 0 [eB false] 196 146 [some (.ref 53), some (.int a1), some (.int (σ 79 (Int32.toNatClampNeg a1))), some (.int v13), none] [] (hM p s14 τ) ⟨(xn_in g1), h21, ?_⟩
                      show xv l Ω (d + 1) 0 0 196 156 [some (.ref 53), some (.int a1), some (.int (σ 79 (Int32.toNatClampNeg a1))), some (.int v13), none] [] (hM p s14 τ) r
                      refine xp_ok htr 2 (d + 1) 0 0 [] 196 156 [some (.ref 53), some (.int a1), some (.int (σ 79 (Int32.toNatClampNeg a1))), some (.int v13), none] [] (hM p s14 τ) ?_
                      show xv l Ω (d + 1) 0 0 196 161 [some (.ref 53), some (.int a1), some (.int (σ 79 (Int32.toNatClampNeg a1))), some (.int v13), none] [.int 1] (hM p s14 τ) r
                      exact xv_sub (L' := [none, none, none, none, none]) trivial (g196_161_ok htr d p τ 1 s14 r H)
              · rw [q15] at H; exact False.elim H
        · rw [if_neg h5] at H
          refine xp_ok htr 1 (d + 1) 0 0 [eB false] 196 12 [some (.ref 53), some (.int a1), some (.int (σ 79 (Int32.toNatClampNeg a1))), none, none] [.int v2] (hM p s3 τ) ⟨h5, ?_⟩
          show xv l Ω (d + 1) 0 0 196 15 [some (.ref 53), some (.int a1), some (.int (σ 79 (Int32.toNatClampNeg a1))), none, none] [] (hM p s3 τ) r
          by_cases h22 : (σ 79 (Int32.toNatClampNeg a1)) = 76
          · rw [if_pos h22] at H
            refine xp_ok htr 3 (d + 1) 0 0 [eB true] 196 15 [some (.ref 53), some (.int a1), some (.int (σ 79 (Int32.toNatClampNeg a1))), none, none] [] (hM p s3 τ) ⟨h22, ?_⟩
            show xv l Ω (d + 1) 0 0 196 27 [some (.ref 53), some (.int a1), some (.int (σ 79 (Int32.toNatClampNeg a1))), none, none] [] (hM p s3 τ) r
            exact xp_ok htr 3 (d + 1) 0 0 [] 196 27 [some (.ref 53), some (.int a1), some (.int (σ 79 (Int32.toNatClampNeg a1))), none, none] [] (hM p s3 τ) ⟨trivial, (Eq.symm H)⟩
          · rw [if_neg h22] at H
            refine xp_ok htr 3 (d + 1) 0 0 [eB false] 196 15 [some (.ref 53), some (.int a1), some (.int (σ 79 (Int32.toNatClampNeg a1))), none, none] [] (hM p s3 τ) ⟨h22, ?_⟩
            show xv l Ω (d + 1) 0 0 196 21 [some (.ref 53), some (.int a1), some (.int (σ 79 (Int32.toNatClampNeg a1))), none, none] [] (hM p s3 τ) r
            by_cases h23 : (σ 79 (Int32.toNatClampNeg a1)) = 83
            · rw [if_pos h23] at H
              refine xp_ok htr 3 (d + 1) 0 0 [eB false] 196 21 [some (.ref 53), some (.int a1), some (.int (σ 79 (Int32.toNatClampNeg a1))), none, none] [] (hM p s3 τ) ⟨h23, ?_⟩
              show xv l Ω (d + 1) 0 0 196 27 [some (.ref 53), some (.int a1), some (.int (σ 79 (Int32.toNatClampNeg a1))), none, none] [] (hM p s3 τ) r
              exact xp_ok htr 3 (d + 1) 0 0 [] 196 27 [some (.ref 53), some (.int a1), some (.int (σ 79 (Int32.toNatClampNeg a1))), none, none] [] (hM p s3 τ) ⟨trivial, (Eq.symm H)⟩
            · rw [if_neg h23] at H
              refine xp_ok htr 3 (d + 1) 0 0 [eB true] 196 21 [some (.ref 53), some (.int a1), some (.int (σ 79 (Int32.toNatClampNeg a1))), none, none] [] (hM p s3 τ) ⟨h23, ?_⟩
              show xv l Ω (d + 1) 0 0 196 31 [some (.ref 53), some (.int a1), some (.int (σ 79 (Int32.toNatClampNeg a1))), none, none] [] (hM p s3 τ) r
              exact xp_ok htr 2 (d + 1) 0 0 [] 196 31 [some (.ref 53), some (.int a1), some (.int (σ 79 (Int32.toNatClampNeg a1))), none, none] [] (hM p s3 τ) ⟨trivial, (Eq.symm H)⟩
      · rw [q4] at H; exact False.elim H
/- AccessDeskModel.targeted -/
def g193_113 (x1 : Int32) (x2 : Int32) (x3 : Int32) (x5 : Int32) (k0 : Int32) (σ : xS) : Option ((Int32 × Int32 × Int32 × Int32 × Int32 × xS) ⊕ xQ) := some (Sum.inl (x1, x2, x3, k0, (x5 + 1), σ))
def g193_83 (x1 : Int32) (x2 : Int32) (x3 : Int32) (x4 : Int32) (x5 : Int32) (σ : xS) : Option ((Int32 × Int32 × Int32 × Int32 × Int32 × xS) ⊕ xQ) := (bif xn x5 200 then (if (σ 82 (Int32.toNatClampNeg x5)) = 0 then (match g196 x5 σ with | some (Sum.inl v17, s18) => (match g195 x4 v17 s18 with | some (Sum.inl v20, s21) => g193_113 x1 x2 x3 x5 v20 s21 | some (Sum.inr v20, s21) => none | none => none) | some (Sum.inr v17, s18) => none | none => none) else (match g196 x5 σ with | some (Sum.inl v23, s24) => g193_113 x1 x2 x3 x5 v23 s24 | some (Sum.inr v23, s24) => none | none => none)) else none)
def g193_54 (x1 : Int32) (x2 : Int32) (x3 : Int32) (x4 : Int32) (x5 : Int32) (σ : xS) : Option ((Int32 × Int32 × Int32 × Int32 × Int32 × xS) ⊕ xQ) := (bif xn x5 200 then (if (σ 83 (Int32.toNatClampNeg x5)) = 0 then g193_83 x1 x2 x3 x4 x5 σ else (bif xn x1 80 then (if x5 ≤ (σ 73 (Int32.toNatClampNeg x1)) then g193_83 x1 x2 x3 x4 x5 σ else (match g195 x2 x3 σ with | some (Sum.inl v28, s29) => g193_83 x1 v28 0 x4 x5 s29 | some (Sum.inr v28, s29) => none | none => none)) else none)) else none)
def g193_15b (x1 : Int32) (x2 : Int32) (x3 : Int32) (x4 : Int32) (x5 : Int32) (σ : xS) : Option ((Int32 × Int32 × Int32 × Int32 × Int32 × xS) ⊕ xQ) := (bif xn x1 80 then (if (σ 74 (Int32.toNatClampNeg x1)) ≤ x5 then (if (σ 73 (Int32.toNatClampNeg x1)) = (σ 74 (Int32.toNatClampNeg x1)) then some (Sum.inr ((Sum.inl 1, σ))) else (match g194 x3 x4 σ with | some (Sum.inl v5, s6) => (match g195 x2 v5 s6 with | some (Sum.inl v8, s9) => some (Sum.inr ((Sum.inl v8, s9))) | some (Sum.inr v8, s9) => none | none => none) | some (Sum.inr v5, s6) => none | none => none)) else (bif xn x5 200 then (if (σ 82 (Int32.toNatClampNeg x5)) = 0 then g193_54 x1 x2 x3 x4 x5 σ else (if x5 ≤ (σ 73 (Int32.toNatClampNeg x1)) then g193_54 x1 x2 x3 x4 x5 σ else (match g194 x3 x4 σ with | some (Sum.inl v32, s33) => g193_54 x1 x2 v32 x4 x5 s33 | some (Sum.inr v32, s33) => none | none => none))) else none)) else none)
def g193_15 (x1 : Int32) (x2 : Int32) (x3 : Int32) (x4 : Int32) (x5 : Int32) (σ : xS) : Option xQ := xlo (fun a : Int32 × Int32 × Int32 × Int32 × Int32 × xS => g193_15b a.1 a.2.1 a.2.2.1 a.2.2.2.1 a.2.2.2.2.1 a.2.2.2.2.2) 1000 (x1, x2, x3, x4, x5, σ)
def g193 (a1 : Int32) (σ : xS) : xO := (bif xn a1 80 then g193_15 a1 1 0 1 (σ 73 (Int32.toNatClampNeg a1)) σ else none)
def a193_15 (l : Launch) (Ω : xo_O) (d p : Nat) (τ : Nat → Nat → Int64) (r : xv_R) : Int32 × Int32 × Int32 × Int32 × Int32 × xS → Prop := fun a => xv l Ω (d + 2) 0 0 193 15 [some (.ref 53), some (.int a.1), some (.int a.2.1), some (.int a.2.2.1), some (.int a.2.2.2.1), some (.int a.2.2.2.2.1)] [] (hM p a.2.2.2.2.2 τ) r
theorem g193_113_ok {l : Launch} {Ω : xo_O} (htr : xH l) (d : Nat) (p : Nat) (τ : Nat → Nat → Int64) (x1 : Int32) (x2 : Int32) (x3 : Int32) (x5 : Int32) (k0 : Int32) (σ : xS) (r : xv_R) (H : xo (xd (a193_15 l Ω d p τ r) (xB false p τ r)) (g193_113 x1 x2 x3 x5 k0 σ)) : xv l Ω (d + 2) 0 0 193 113 [some (.ref 53), some (.int x1), some (.int x2), some (.int x3), none, some (.int x5)] [.int k0] (hM p σ τ) r := by
  unfold g193_113 at H
  refine xp_ok htr 3 (d + 2) 0 0 [] 193 113 [some (.ref 53), some (.int x1), some (.int x2), some (.int x3), none, some (.int x5)] [.int k0] (hM p σ τ) ?_
  show xv l Ω (d + 2) 0 0 193 15 [some (.ref 53), some (.int x1), some (.int x2), some (.int x3), some (.int k0), some (.int (x5 + 1))] [] (hM p σ τ) r
  exact xv_sub (L' := [some (.ref 53), some (.int x1), some (.int x2), some (.int x3), some (.int k0), some (.int (x5 + 1))]) ⟨rfl, ⟨rfl, ⟨rfl, ⟨rfl, ⟨rfl, ⟨rfl, trivial⟩⟩⟩⟩⟩⟩ H
theorem g193_83_ok {l : Launch} {Ω : xo_O} (htr : xH l) (d : Nat) (p : Nat) (τ : Nat → Nat → Int64) (x1 : Int32) (x2 : Int32) (x3 : Int32) (x4 : Int32) (x5 : Int32) (σ : xS) (r : xv_R) (H : xo (xd (a193_15 l Ω d p τ r) (xB false p τ r)) (g193_83 x1 x2 x3 x4 x5 σ)) : xv l Ω (d + 2) 0 0 193 83 [some (.ref 53), some (.int x1), some (.int x2), some (.int x3), some (.int x4), some (.int x5)] [] (hM p σ τ) r := by
  unfold g193_83 at H
  cases g15 : xn x5 200 with
  | false => rw [g15, cond_false] at H; exact False.elim H
  | true =>
    rw [g15, cond_true] at H
    by_cases h16 : (σ 82 (Int32.toNatClampNeg x5)) = 0
    · rw [if_pos h16] at H
      refine xp_ok htr 5 (d + 2) 0 0 [eB true] 193 83 [some (.ref 53), some (.int x1), some (.int x2), some (.int x3), some (.int x4), some (.int x5)] [] (hM p σ τ) ⟨(xn_in g15), h16, ?_⟩
      show xv l Ω (d + 2) 0 0 193 102 [some (.ref 53), some (.int x1), some (.int x2), some (.int x3), some (.int x4), some (.int x5)] [] (hM p σ τ) r
      cases q19 : g196 x5 σ with
      | none => rw [q19] at H; exact False.elim H
      | some q190 =>
        obtain ⟨v17 | v17, s18⟩ := q190
        · rw [q19] at H; dsimp only at H
          have hc := g196_run (Ω := Ω) htr d p τ x5 σ q19
          refine xp_ok htr 4 (d + 2) 0 0 [eC (some (.int v17)) (hM p s18 τ)] 193 102 [some (.ref 53), some (.int x1), some (.int x2), some (.int x3), some (.int x4), some (.int x5)] [] (hM p σ τ) ⟨hc, ?_⟩
          show xv l Ω (d + 2) 0 0 193 110 [some (.ref 53), some (.int x1), some (.int x2), some (.int x3), some (.int x4), some (.int x5)] [.int v17, .int x4] (hM p s18 τ) r
          cases q22 : g195 x4 v17 s18 with
          | none => rw [q22] at H; exact False.elim H
          | some q220 =>
            obtain ⟨v20 | v20, s21⟩ := q220
            · rw [q22] at H; dsimp only at H
              have hc := g195_run (Ω := Ω) htr (d + 1) p τ x4 v17 s18 q22
              refine xp_ok htr 1 (d + 2) 0 0 [eC (some (.int v20)) (hM p s21 τ)] 193 110 [some (.ref 53), some (.int x1), some (.int x2), some (.int x3), some (.int x4), some (.int x5)] [.int v17, .int x4] (hM p s18 τ) ⟨hc, ?_⟩
              show xv l Ω (d + 2) 0 0 193 113 [some (.ref 53), some (.int x1), some (.int x2), some (.int x3), some (.int x4), some (.int x5)] [.int v20] (hM p s21 τ) r
              exact xv_sub (L' := [some (.ref 53), some (.int x1), some (.int x2), some (.int x3), none, some (.int x5)]) ⟨rfl, ⟨rfl, ⟨rfl, ⟨rfl, ⟨rfl, trivial⟩⟩⟩⟩⟩ (g193_113_ok htr d p τ x1 x2 x3 x5 v20 s21 r H)
            · rw [q22] at H; exact False.elim H
        · rw [q19] at H; exact False.elim H
    · rw [if_neg h16] at H
      refine xp_ok htr 5 (d + 2) 0 0 [eB false] 193 83 [some (.ref 53), some (.int x1), some (.int x2), some (.int x3), some (.int x4), some (.int x5)] [] (hM p σ τ) ⟨(xn_in g15), h16, ?_⟩
      show xv l Ω (d + 2) 0 0 193 93 [some (.ref 53), some (.int x1), some (.int x2), some (.int x3), some (.int x4), some (.int x5)] [] (hM p σ τ) r
      cases q25 : g196 x5 σ with
      | none => rw [q25] at H; exact False.elim H
      | some q250 =>
        obtain ⟨v23 | v23, s24⟩ := q250
        · rw [q25] at H; dsimp only at H
          have hc := g196_run (Ω := Ω) htr d p τ x5 σ q25
          refine xp_ok htr 3 (d + 2) 0 0 [eC (some (.int v23)) (hM p s24 τ)] 193 93 [some (.ref 53), some (.int x1), some (.int x2), some (.int x3), some (.int x4), some (.int x5)] [] (hM p σ τ) ⟨hc, ?_⟩
          show xv l Ω (d + 2) 0 0 193 99 [some (.ref 53), some (.int x1), some (.int x2), some (.int x3), some (.int x4), some (.int x5)] [.int v23] (hM p s24 τ) r
          refine xp_ok htr 1 (d + 2) 0 0 [] 193 99 [some (.ref 53), some (.int x1), some (.int x2), some (.int x3), some (.int x4), some (.int x5)] [.int v23] (hM p s24 τ) ?_
          show xv l Ω (d + 2) 0 0 193 113 [some (.ref 53), some (.int x1), some (.int x2), some (.int x3), some (.int x4), some (.int x5)] [.int v23] (hM p s24 τ) r
          exact xv_sub (L' := [some (.ref 53), some (.int x1), some (.int x2), some (.int x3), none, some (.int x5)]) ⟨rfl, ⟨rfl, ⟨rfl, ⟨rfl, ⟨rfl, trivial⟩⟩⟩⟩⟩ (g193_113_ok htr d p τ x1 x2 x3 x5 v23 s24 r H)
        · rw [q25] at H; exact False.elim H
theorem g193_54_ok {l : Launch} {Ω : xo_O} (htr : xH l) (d : Nat) (p : Nat) (τ : Nat → Nat → Int64) (x1 : Int32) (x2 : Int32) (x3 : Int32) (x4 : Int32) (x5 : Int32) (σ : xS) (r : xv_R) (H : xo (xd (a193_15 l Ω d p τ r) (xB false p τ r)) (g193_54 x1 x2 x3 x4 x5 σ)) : xv l Ω (d + 2) 0 0 193 54 [some (.ref 53), some (.int x1), some (.int x2), some (.int x3), some (.int x4), some (.int x5)] [] (hM p σ τ) r := by
  unfold g193_54 at H
  cases g13 : xn x5 200 with
  | false => rw [g13, cond_false] at H; exact False.elim H
  | true =>
    rw [g13, cond_true] at H
    by_cases h14 : (σ 83 (Int32.toNatClampNeg x5)) = 0
    · rw [if_pos h14] at H
      refine xp_ok htr 5 (d + 2) 0 0 [eB true] 193 54 [some (.ref 53), some (.int x1), some (.int x2), some (.int x3), some (.int x4), some (.int x5)] [] (hM p σ τ) ⟨(xn_in g13), h14, ?_⟩
      show xv l Ω (d + 2) 0 0 193 83 [some (.ref 53), some (.int x1), some (.int x2), some (.int x3), some (.int x4), some (.int x5)] [] (hM p σ τ) r
      exact xv_sub (L' := [some (.ref 53), some (.int x1), some (.int x2), some (.int x3), some (.int x4), some (.int x5)]) ⟨rfl, ⟨rfl, ⟨rfl, ⟨rfl, ⟨rfl, ⟨rfl, trivial⟩⟩⟩⟩⟩⟩ (g193_83_ok htr d p τ x1 x2 x3 x4 x5 σ r H)
    · rw [if_neg h14] at H
      refine xp_ok htr 5 (d + 2) 0 0 [eB false] 193 54 [some (.ref 53), some (.int x1), some (.int x2), some (.int x3), some (.int x4), some (.int x5)] [] (hM p σ τ) ⟨(xn_in g13), h14, ?_⟩
      show xv l Ω (d + 2) 0 0 193 64 [some (.ref 53), some (.int x1), some (.int x2), some (.int x3), some (.int x4), some (.int x5)] [] (hM p σ τ) r
      cases g26 : xn x1 80 with
      | false => rw [g26, cond_false] at H; exact False.elim H
      | true =>
        rw [g26, cond_true] at H
        by_cases h27 : x5 ≤ (σ 73 (Int32.toNatClampNeg x1))
        · rw [if_pos h27] at H
          refine xp_ok htr 6 (d + 2) 0 0 [eB true] 193 64 [some (.ref 53), some (.int x1), some (.int x2), some (.int x3), some (.int x4), some (.int x5)] [] (hM p σ τ) ⟨(xn_in g26), h27, ?_⟩
          show xv l Ω (d + 2) 0 0 193 83 [some (.ref 53), some (.int x1), some (.int x2), some (.int x3), some (.int x4), some (.int x5)] [] (hM p σ τ) r
          exact xv_sub (L' := [some (.ref 53), some (.int x1), some (.int x2), some (.int x3), some (.int x4), some (.int x5)]) ⟨rfl, ⟨rfl, ⟨rfl, ⟨rfl, ⟨rfl, ⟨rfl, trivial⟩⟩⟩⟩⟩⟩ (g193_83_ok htr d p τ x1 x2 x3 x4 x5 σ r H)
        · rw [if_neg h27] at H
          refine xp_ok htr 6 (d + 2) 0 0 [eB false] 193 64 [some (.ref 53), some (.int x1), some (.int x2), some (.int x3), some (.int x4), some (.int x5)] [] (hM p σ τ) ⟨(xn_in g26), h27, ?_⟩
          show xv l Ω (d + 2) 0 0 193 75 [some (.ref 53), some (.int x1), some (.int x2), some (.int x3), some (.int x4), some (.int x5)] [] (hM p σ τ) r
          cases q30 : g195 x2 x3 σ with
          | none => rw [q30] at H; exact False.elim H
          | some q300 =>
            obtain ⟨v28 | v28, s29⟩ := q300
            · rw [q30] at H; dsimp only at H
              have hc := g195_run (Ω := Ω) htr (d + 1) p τ x2 x3 σ q30
              refine xp_ok htr 3 (d + 2) 0 0 [eC (some (.int v28)) (hM p s29 τ)] 193 75 [some (.ref 53), some (.int x1), some (.int x2), some (.int x3), some (.int x4), some (.int x5)] [] (hM p σ τ) ⟨hc, ?_⟩
              show xv l Ω (d + 2) 0 0 193 80 [some (.ref 53), some (.int x1), some (.int x2), some (.int x3), some (.int x4), some (.int x5)] [.int v28] (hM p s29 τ) r
              refine xp_ok htr 3 (d + 2) 0 0 [] 193 80 [some (.ref 53), some (.int x1), some (.int x2), some (.int x3), some (.int x4), some (.int x5)] [.int v28] (hM p s29 τ) ?_
              show xv l Ω (d + 2) 0 0 193 83 [some (.ref 53), some (.int x1), some (.int v28), some (.int 0), some (.int x4), some (.int x5)] [] (hM p s29 τ) r
              exact xv_sub (L' := [some (.ref 53), some (.int x1), some (.int v28), some (.int 0), some (.int x4), some (.int x5)]) ⟨rfl, ⟨rfl, ⟨rfl, ⟨rfl, ⟨rfl, ⟨rfl, trivial⟩⟩⟩⟩⟩⟩ (g193_83_ok htr d p τ x1 v28 0 x4 x5 s29 r H)
            · rw [q30] at H; exact False.elim H
theorem g193_15b_ok {l : Launch} {Ω : xo_O} (htr : xH l) (d : Nat) (p : Nat) (τ : Nat → Nat → Int64) (x1 : Int32) (x2 : Int32) (x3 : Int32) (x4 : Int32) (x5 : Int32) (σ : xS) (r : xv_R) (H : xo (xd (a193_15 l Ω d p τ r) (xB false p τ r)) (g193_15b x1 x2 x3 x4 x5 σ)) : xv l Ω (d + 2) 0 0 193 15 [some (.ref 53), some (.int x1), some (.int x2), some (.int x3), some (.int x4), some (.int x5)] [] (hM p σ τ) r := by
  unfold g193_15b at H
  cases g2 : xn x1 80 with
  | false => rw [g2, cond_false] at H; exact False.elim H
  | true =>
    rw [g2, cond_true] at H
    by_cases h3 : (σ 74 (Int32.toNatClampNeg x1)) ≤ x5
    · rw [if_pos h3] at H
      refine xp_ok htr 6 (d + 2) 0 0 [eB true] 193 15 [some (.ref 53), some (.int x1), some (.int x2), some (.int x3), some (.int x4), some (.int x5)] [] (hM p σ τ) ⟨(xn_in g2), h3, ?_⟩
      show xv l Ω (d + 2) 0 0 193 121 [some (.ref 53), some (.int x1), some (.int x2), some (.int x3), some (.int x4), some (.int x5)] [] (hM p σ τ) r
      refine xp_ok htr 8 (d + 2) 0 0 [] 193 121 [some (.ref 53), some (.int x1), some (.int x2), some (.int x3), some (.int x4), some (.int x5)] [] (hM p σ τ) ⟨(xn_in g2), (xn_in g2), ?_⟩
      show xv l Ω (d + 2) 0 0 193 133 [some (.ref 53), some (.int x1), some (.int x2), some (.int x3), some (.int x4), some (.int x5)] [.int (σ 74 (Int32.toNatClampNeg x1)), .int (σ 73 (Int32.toNatClampNeg x1))] (hM p σ τ) r
      by_cases h4 : (σ 73 (Int32.toNatClampNeg x1)) = (σ 74 (Int32.toNatClampNeg x1))
      · rw [if_pos h4] at H
        refine xp_ok htr 1 (d + 2) 0 0 [eB false] 193 133 [some (.ref 53), some (.int x1), some (.int x2), some (.int x3), some (.int x4), some (.int x5)] [.int (σ 74 (Int32.toNatClampNeg x1)), .int (σ 73 (Int32.toNatClampNeg x1))] (hM p σ τ) ⟨h4, ?_⟩
        show xv l Ω (d + 2) 0 0 193 136 [some (.ref 53), some (.int x1), some (.int x2), some (.int x3), some (.int x4), some (.int x5)] [] (hM p σ τ) r
        exact xp_ok htr 3 (d + 2) 0 0 [] 193 136 [some (.ref 53), some (.int x1), some (.int x2), some (.int x3), some (.int x4), some (.int x5)] [] (hM p σ τ) ⟨trivial, (Eq.symm H)⟩
      · rw [if_neg h4] at H
        refine xp_ok htr 1 (d + 2) 0 0 [eB true] 193 133 [some (.ref 53), some (.int x1), some (.int x2), some (.int x3), some (.int x4), some (.int x5)] [.int (σ 74 (Int32.toNatClampNeg x1)), .int (σ 73 (Int32.toNatClampNeg x1))] (hM p σ τ) ⟨h4, ?_⟩
        show xv l Ω (d + 2) 0 0 193 140 [some (.ref 53), some (.int x1), some (.int x2), some (.int x3), some (.int x4), some (.int x5)] [] (hM p σ τ) r
        cases q7 : g194 x3 x4 σ with
        | none => rw [q7] at H; exact False.elim H
        | some q70 =>
          obtain ⟨v5 | v5, s6⟩ := q70
          · rw [q7] at H; dsimp only at H
            have hc := g194_run (Ω := Ω) htr (d + 1) p τ x3 x4 σ q7
            refine xp_ok htr 4 (d + 2) 0 0 [eC (some (.int v5)) (hM p s6 τ)] 193 140 [some (.ref 53), some (.int x1), some (.int x2), some (.int x3), some (.int x4), some (.int x5)] [] (hM p σ τ) ⟨hc, ?_⟩
            show xv l Ω (d + 2) 0 0 193 147 [some (.ref 53), some (.int x1), some (.int x2), some (.int x3), some (.int x4), some (.int x5)] [.int v5, .int x2] (hM p s6 τ) r
            cases q10 : g195 x2 v5 s6 with
            | none => rw [q10] at H; exact False.elim H
            | some q100 =>
              obtain ⟨v8 | v8, s9⟩ := q100
              · rw [q10] at H; dsimp only at H
                have hc := g195_run (Ω := Ω) htr (d + 1) p τ x2 v5 s6 q10
                refine xp_ok htr 1 (d + 2) 0 0 [eC (some (.int v8)) (hM p s9 τ)] 193 147 [some (.ref 53), some (.int x1), some (.int x2), some (.int x3), some (.int x4), some (.int x5)] [.int v5, .int x2] (hM p s6 τ) ⟨hc, ?_⟩
                show xv l Ω (d + 2) 0 0 193 150 [some (.ref 53), some (.int x1), some (.int x2), some (.int x3), some (.int x4), some (.int x5)] [.int v8] (hM p s9 τ) r
                exact xp_ok htr 1 (d + 2) 0 0 [] 193 150 [some (.ref 53), some (.int x1), some (.int x2), some (.int x3), some (.int x4), some (.int x5)] [.int v8] (hM p s9 τ) ⟨trivial, (Eq.symm H)⟩
              · rw [q10] at H; exact False.elim H
          · rw [q7] at H; exact False.elim H
    · rw [if_neg h3] at H
      refine xp_ok htr 6 (d + 2) 0 0 [eB false] 193 15 [some (.ref 53), some (.int x1), some (.int x2), some (.int x3), some (.int x4), some (.int x5)] [] (hM p σ τ) ⟨(xn_in g2), h3, ?_⟩
      show xv l Ω (d + 2) 0 0 193 26 [some (.ref 53), some (.int x1), some (.int x2), some (.int x3), some (.int x4), some (.int x5)] [] (hM p σ τ) r
      cases g11 : xn x5 200 with
      | false => rw [g11, cond_false] at H; exact False.elim H
      | true =>
        rw [g11, cond_true] at H
        by_cases h12 : (σ 82 (Int32.toNatClampNeg x5)) = 0
        · rw [if_pos h12] at H
          refine xp_ok htr 5 (d + 2) 0 0 [eB true] 193 26 [some (.ref 53), some (.int x1), some (.int x2), some (.int x3), some (.int x4), some (.int x5)] [] (hM p σ τ) ⟨(xn_in g11), h12, ?_⟩
          show xv l Ω (d + 2) 0 0 193 54 [some (.ref 53), some (.int x1), some (.int x2), some (.int x3), some (.int x4), some (.int x5)] [] (hM p σ τ) r
          exact xv_sub (L' := [some (.ref 53), some (.int x1), some (.int x2), some (.int x3), some (.int x4), some (.int x5)]) ⟨rfl, ⟨rfl, ⟨rfl, ⟨rfl, ⟨rfl, ⟨rfl, trivial⟩⟩⟩⟩⟩⟩ (g193_54_ok htr d p τ x1 x2 x3 x4 x5 σ r H)
        · rw [if_neg h12] at H
          refine xp_ok htr 5 (d + 2) 0 0 [eB false] 193 26 [some (.ref 53), some (.int x1), some (.int x2), some (.int x3), some (.int x4), some (.int x5)] [] (hM p σ τ) ⟨(xn_in g11), h12, ?_⟩
          show xv l Ω (d + 2) 0 0 193 36 [some (.ref 53), some (.int x1), some (.int x2), some (.int x3), some (.int x4), some (.int x5)] [] (hM p σ τ) r
          by_cases h31 : x5 ≤ (σ 73 (Int32.toNatClampNeg x1))
          · rw [if_pos h31] at H
            refine xp_ok htr 6 (d + 2) 0 0 [eB true] 193 36 [some (.ref 53), some (.int x1), some (.int x2), some (.int x3), some (.int x4), some (.int x5)] [] (hM p σ τ) ⟨(xn_in g2), h31, ?_⟩
            show xv l Ω (d + 2) 0 0 193 54 [some (.ref 53), some (.int x1), some (.int x2), some (.int x3), some (.int x4), some (.int x5)] [] (hM p σ τ) r
            exact xv_sub (L' := [some (.ref 53), some (.int x1), some (.int x2), some (.int x3), some (.int x4), some (.int x5)]) ⟨rfl, ⟨rfl, ⟨rfl, ⟨rfl, ⟨rfl, ⟨rfl, trivial⟩⟩⟩⟩⟩⟩ (g193_54_ok htr d p τ x1 x2 x3 x4 x5 σ r H)
          · rw [if_neg h31] at H
            refine xp_ok htr 6 (d + 2) 0 0 [eB false] 193 36 [some (.ref 53), some (.int x1), some (.int x2), some (.int x3), some (.int x4), some (.int x5)] [] (hM p σ τ) ⟨(xn_in g2), h31, ?_⟩
            show xv l Ω (d + 2) 0 0 193 47 [some (.ref 53), some (.int x1), some (.int x2), some (.int x3), some (.int x4), some (.int x5)] [] (hM p σ τ) r
            cases q34 : g194 x3 x4 σ with
            | none => rw [q34] at H; exact False.elim H
            | some q340 =>
              obtain ⟨v32 | v32, s33⟩ := q340
              · rw [q34] at H; dsimp only at H
                have hc := g194_run (Ω := Ω) htr (d + 1) p τ x3 x4 σ q34
                refine xp_ok htr 3 (d + 2) 0 0 [eC (some (.int v32)) (hM p s33 τ)] 193 47 [some (.ref 53), some (.int x1), some (.int x2), some (.int x3), some (.int x4), some (.int x5)] [] (hM p σ τ) ⟨hc, ?_⟩
                show xv l Ω (d + 2) 0 0 193 53 [some (.ref 53), some (.int x1), some (.int x2), some (.int x3), some (.int x4), some (.int x5)] [.int v32] (hM p s33 τ) r
                refine xp_ok htr 1 (d + 2) 0 0 [] 193 53 [some (.ref 53), some (.int x1), some (.int x2), some (.int x3), some (.int x4), some (.int x5)] [.int v32] (hM p s33 τ) ?_
                show xv l Ω (d + 2) 0 0 193 54 [some (.ref 53), some (.int x1), some (.int x2), some (.int v32), some (.int x4), some (.int x5)] [] (hM p s33 τ) r
                exact xv_sub (L' := [some (.ref 53), some (.int x1), some (.int x2), some (.int v32), some (.int x4), some (.int x5)]) ⟨rfl, ⟨rfl, ⟨rfl, ⟨rfl, ⟨rfl, ⟨rfl, trivial⟩⟩⟩⟩⟩⟩ (g193_54_ok htr d p τ x1 x2 v32 x4 x5 s33 r H)
              · rw [q34] at H; exact False.elim H
theorem g193_15_ok {l : Launch} {Ω : xo_O} (htr : xH l) (d : Nat) (p : Nat) (τ : Nat → Nat → Int64) (x1 : Int32) (x2 : Int32) (x3 : Int32) (x4 : Int32) (x5 : Int32) (σ : xS) (r : xv_R) (H : xo (xB false p τ r) (g193_15 x1 x2 x3 x4 x5 σ)) : xv l Ω (d + 2) 0 0 193 15 [some (.ref 53), some (.int x1), some (.int x2), some (.int x3), some (.int x4), some (.int x5)] [] (hM p σ τ) r :=
  xlo_ok (A := a193_15 l Ω d p τ r) (fun a H => g193_15b_ok htr d p τ a.1 a.2.1 a.2.2.1 a.2.2.2.1 a.2.2.2.2.1 a.2.2.2.2.2 r H) 1000 (x1, x2, x3, x4, x5, σ) H
theorem g193_run {l : Launch} {Ω : xo_O} (htr : xH l) (d : Nat) (p : Nat) (τ : Nat → Nat → Int64) (a1 : Int32) (σ : xS) {q : xQ} (hq : g193 a1 σ = some q) : xv l Ω (d + 2) 0 0 193 0 (xs_loc (xm_l 193) [.ref 53, .int a1]) [] (hM p σ τ) (xq_R false p τ q) := by
  have H : xo (xB false p τ (xq_R false p τ q)) (g193 a1 σ) := by rw [hq]; exact rfl
  generalize xq_R false p τ q = r at H ⊢
  show xv l Ω (d + 2) 0 0 193 0 [some (.ref 53), some (.int a1), none, none, none, none] [] (hM p σ τ) r
  unfold g193 at H
  refine xp_ok htr 8 (d + 2) 0 0 [] 193 0 [some (.ref 53), some (.int a1), none, none, none, none] [] (hM p σ τ) ?_
  show xv l Ω (d + 2) 0 0 193 11 [some (.ref 53), some (.int a1), some (.int 1), some (.int 0), some (.int 1), none] [.ref 73] (hM p σ τ) r
  cases g1 : xn a1 80 with
  | false => rw [g1, cond_false] at H; exact False.elim H
  | true =>
    rw [g1, cond_true] at H
    refine xp_ok htr 3 (d + 2) 0 0 [] 193 11 [some (.ref 53), some (.int a1), some (.int 1), some (.int 0), some (.int 1), none] [.ref 73] (hM p σ τ) ⟨(xn_in g1), ?_⟩
    show xv l Ω (d + 2) 0 0 193 15 [some (.ref 53), some (.int a1), some (.int 1), some (.int 0), some (.int 1), some (.int (σ 73 (Int32.toNatClampNeg a1)))] [] (hM p σ τ) r
    exact xv_sub (L' := [some (.ref 53), some (.int a1), some (.int 1), some (.int 0), some (.int 1), some (.int (σ 73 (Int32.toNatClampNeg a1)))]) ⟨rfl, ⟨rfl, ⟨rfl, ⟨rfl, ⟨rfl, ⟨rfl, trivial⟩⟩⟩⟩⟩⟩ (g193_15_ok htr d p τ a1 1 0 1 (σ 73 (Int32.toNatClampNeg a1)) σ r H)
/- AccessDeskModel.some -/
def g203_36 (x1 : Int32) (x2 : Int32) (x3 : Int32) (σ : xS) : Option ((Int32 × Int32 × Int32 × xS) ⊕ xQ) := some (Sum.inl (x1, x2, (x3 + 1), σ))
def g203_4b (x1 : Int32) (x2 : Int32) (x3 : Int32) (σ : xS) : Option ((Int32 × Int32 × Int32 × xS) ⊕ xQ) := (if (σ 70 0) ≤ x3 then some (Sum.inr ((Sum.inl 0, σ))) else (bif xn x3 80 then (if (σ 72 (Int32.toNatClampNeg x3)) = x1 then (bif xn x3 40 then (if (σ 88 (Int32.toNatClampNeg x3)) = x2 then some (Sum.inr ((Sum.inl 1, σ))) else g203_36 x1 x2 x3 σ) else none) else g203_36 x1 x2 x3 σ) else none))
def g203_4 (x1 : Int32) (x2 : Int32) (x3 : Int32) (σ : xS) : Option xQ := xlo (fun a : Int32 × Int32 × Int32 × xS => g203_4b a.1 a.2.1 a.2.2.1 a.2.2.2) 1000 (x1, x2, x3, σ)
def g203 (a1 : Int32) (a2 : Int32) (σ : xS) : xO := g203_4 a1 a2 (a1 + 1) σ
def a203_4 (l : Launch) (Ω : xo_O) (d p : Nat) (τ : Nat → Nat → Int64) (r : xv_R) : Int32 × Int32 × Int32 × xS → Prop := fun a => xv l Ω d 0 0 203 4 [some (.ref 53), some (.int a.1), some (.int a.2.1), some (.int a.2.2.1)] [] (hM p a.2.2.2 τ) r
theorem g203_36_ok {l : Launch} {Ω : xo_O} (htr : xH l) (d : Nat) (p : Nat) (τ : Nat → Nat → Int64) (x1 : Int32) (x2 : Int32) (x3 : Int32) (σ : xS) (r : xv_R) (H : xo (xd (a203_4 l Ω d p τ r) (xB false p τ r)) (g203_36 x1 x2 x3 σ)) : xv l Ω d 0 0 203 36 [some (.ref 53), some (.int x1), some (.int x2), some (.int x3)] [] (hM p σ τ) r := by
  unfold g203_36 at H
  refine xp_ok htr 2 d 0 0 [] 203 36 [some (.ref 53), some (.int x1), some (.int x2), some (.int x3)] [] (hM p σ τ) ?_
  show xv l Ω d 0 0 203 4 [some (.ref 53), some (.int x1), some (.int x2), some (.int (x3 + 1))] [] (hM p σ τ) r
  exact xv_sub (L' := [some (.ref 53), some (.int x1), some (.int x2), some (.int (x3 + 1))]) ⟨rfl, ⟨rfl, ⟨rfl, ⟨rfl, trivial⟩⟩⟩⟩ H
theorem g203_4b_ok {l : Launch} {Ω : xo_O} (htr : xH l) (d : Nat) (p : Nat) (τ : Nat → Nat → Int64) (x1 : Int32) (x2 : Int32) (x3 : Int32) (σ : xS) (r : xv_R) (H : xo (xd (a203_4 l Ω d p τ r) (xB false p τ r)) (g203_4b x1 x2 x3 σ)) : xv l Ω d 0 0 203 4 [some (.ref 53), some (.int x1), some (.int x2), some (.int x3)] [] (hM p σ τ) r := by
  unfold g203_4b at H
  by_cases h1 : (σ 70 0) ≤ x3
  · rw [if_pos h1] at H
    refine xp_ok htr 6 d 0 0 [eB true] 203 4 [some (.ref 53), some (.int x1), some (.int x2), some (.int x3)] [] (hM p σ τ) ⟨(by unfold vp_in; decide), h1, ?_⟩
    show xv l Ω d 0 0 203 42 [some (.ref 53), some (.int x1), some (.int x2), some (.int x3)] [] (hM p σ τ) r
    exact xp_ok htr 2 d 0 0 [] 203 42 [some (.ref 53), some (.int x1), some (.int x2), some (.int x3)] [] (hM p σ τ) ⟨Or.inl rfl, (Eq.symm H)⟩
  · rw [if_neg h1] at H
    refine xp_ok htr 6 d 0 0 [eB false] 203 4 [some (.ref 53), some (.int x1), some (.int x2), some (.int x3)] [] (hM p σ τ) ⟨(by unfold vp_in; decide), h1, ?_⟩
    show xv l Ω d 0 0 203 14 [some (.ref 53), some (.int x1), some (.int x2), some (.int x3)] [] (hM p σ τ) r
    cases g2 : xn x3 80 with
    | false => rw [g2, cond_false] at H; exact False.elim H
    | true =>
      rw [g2, cond_true] at H
      by_cases h3 : (σ 72 (Int32.toNatClampNeg x3)) = x1
      · rw [if_pos h3] at H
        refine xp_ok htr 6 d 0 0 [eB false] 203 14 [some (.ref 53), some (.int x1), some (.int x2), some (.int x3)] [] (hM p σ τ) ⟨(xn_in g2), h3, ?_⟩
        show xv l Ω d 0 0 203 24 [some (.ref 53), some (.int x1), some (.int x2), some (.int x3)] [] (hM p σ τ) r
        cases g4 : xn x3 40 with
        | false => rw [g4, cond_false] at H; exact False.elim H
        | true =>
          rw [g4, cond_true] at H
          by_cases h5 : (σ 88 (Int32.toNatClampNeg x3)) = x2
          · rw [if_pos h5] at H
            refine xp_ok htr 6 d 0 0 [eB false] 203 24 [some (.ref 53), some (.int x1), some (.int x2), some (.int x3)] [] (hM p σ τ) ⟨(xn_in g4), h5, ?_⟩
            show xv l Ω d 0 0 203 34 [some (.ref 53), some (.int x1), some (.int x2), some (.int x3)] [] (hM p σ τ) r
            exact xp_ok htr 2 d 0 0 [] 203 34 [some (.ref 53), some (.int x1), some (.int x2), some (.int x3)] [] (hM p σ τ) ⟨Or.inr rfl, (Eq.symm H)⟩
          · rw [if_neg h5] at H
            refine xp_ok htr 6 d 0 0 [eB true] 203 24 [some (.ref 53), some (.int x1), some (.int x2), some (.int x3)] [] (hM p σ τ) ⟨(xn_in g4), h5, ?_⟩
            show xv l Ω d 0 0 203 36 [some (.ref 53), some (.int x1), some (.int x2), some (.int x3)] [] (hM p σ τ) r
            exact xv_sub (L' := [some (.ref 53), some (.int x1), some (.int x2), some (.int x3)]) ⟨rfl, ⟨rfl, ⟨rfl, ⟨rfl, trivial⟩⟩⟩⟩ (g203_36_ok htr d p τ x1 x2 x3 σ r H)
      · rw [if_neg h3] at H
        refine xp_ok htr 6 d 0 0 [eB true] 203 14 [some (.ref 53), some (.int x1), some (.int x2), some (.int x3)] [] (hM p σ τ) ⟨(xn_in g2), h3, ?_⟩
        show xv l Ω d 0 0 203 36 [some (.ref 53), some (.int x1), some (.int x2), some (.int x3)] [] (hM p σ τ) r
        exact xv_sub (L' := [some (.ref 53), some (.int x1), some (.int x2), some (.int x3)]) ⟨rfl, ⟨rfl, ⟨rfl, ⟨rfl, trivial⟩⟩⟩⟩ (g203_36_ok htr d p τ x1 x2 x3 σ r H)
theorem g203_4_ok {l : Launch} {Ω : xo_O} (htr : xH l) (d : Nat) (p : Nat) (τ : Nat → Nat → Int64) (x1 : Int32) (x2 : Int32) (x3 : Int32) (σ : xS) (r : xv_R) (H : xo (xB false p τ r) (g203_4 x1 x2 x3 σ)) : xv l Ω d 0 0 203 4 [some (.ref 53), some (.int x1), some (.int x2), some (.int x3)] [] (hM p σ τ) r :=
  xlo_ok (A := a203_4 l Ω d p τ r) (fun a H => g203_4b_ok htr d p τ a.1 a.2.1 a.2.2.1 a.2.2.2 r H) 1000 (x1, x2, x3, σ) H
theorem g203_run {l : Launch} {Ω : xo_O} (htr : xH l) (d : Nat) (p : Nat) (τ : Nat → Nat → Int64) (a1 : Int32) (a2 : Int32) (σ : xS) {q : xQ} (hq : g203 a1 a2 σ = some q) : xv l Ω d 0 0 203 0 (xs_loc (xm_l 203) [.ref 53, .int a1, .int a2]) [] (hM p σ τ) (xq_R false p τ q) := by
  have H : xo (xB false p τ (xq_R false p τ q)) (g203 a1 a2 σ) := by rw [hq]; exact rfl
  generalize xq_R false p τ q = r at H ⊢
  show xv l Ω d 0 0 203 0 [some (.ref 53), some (.int a1), some (.int a2), none] [] (hM p σ τ) r
  unfold g203 at H
  refine xp_ok htr 4 d 0 0 [] 203 0 [some (.ref 53), some (.int a1), some (.int a2), none] [] (hM p σ τ) ?_
  show xv l Ω d 0 0 203 4 [some (.ref 53), some (.int a1), some (.int a2), some (.int (a1 + 1))] [] (hM p σ τ) r
  exact xv_sub (L' := [some (.ref 53), some (.int a1), some (.int a2), some (.int (a1 + 1))]) ⟨rfl, ⟨rfl, ⟨rfl, ⟨rfl, trivial⟩⟩⟩⟩ (g203_4_ok htr d p τ a1 a2 (a1 + 1) σ r H)
/- AccessDeskModel.overrides -/
def g202_53 (x1 : Int32) (x2 : Int32) (x3 : Int32) (σ : xS) : Option xQ := (match g203 x1 (x2 + 2) σ with | some (Sum.inl v13, s14) => (if v13 = 0 then (match g203 x1 x3 s14 with | some (Sum.inl v17, s18) => (if v17 = 0 then (match g203 x1 (x3 + 2) s18 with | some (Sum.inl v21, s22) => (if v21 = 0 then some ((Sum.inl 0, s22)) else some ((Sum.inl (x3 + 2), s22))) | some (Sum.inr v21, s22) => none | none => none) else some ((Sum.inl x3, s18))) | some (Sum.inr v17, s18) => none | none => none) else some ((Sum.inl (x2 + 2), s14))) | some (Sum.inr v13, s14) => none | none => none)
def g202 (a1 : Int32) (a2 : Int32) (a3 : Int32) (σ : xS) : xO := (match g203 a1 a2 σ with | some (Sum.inl v1, s2) => (if v1 = 0 then (match g203 a1 5 s2 with | some (Sum.inl v5, s6) => (if v5 = 0 then (match g203 a1 (a2 + 2) s6 with | some (Sum.inl v9, s10) => (if v9 = 0 then g202_53 a1 a2 a3 s10 else (match g203 a1 (a3 + 2) s10 with | some (Sum.inl v25, s26) => (if v25 = 0 then (match g203 a1 a3 s26 with | some (Sum.inl v29, s30) => (if v29 = 0 then g202_53 a1 a2 a3 s30 else some ((Sum.inl 5, s30))) | some (Sum.inr v29, s30) => none | none => none) else some ((Sum.inl 5, s26))) | some (Sum.inr v25, s26) => none | none => none)) | some (Sum.inr v9, s10) => none | none => none) else some ((Sum.inl 5, s6))) | some (Sum.inr v5, s6) => none | none => none) else some ((Sum.inl a2, s2))) | some (Sum.inr v1, s2) => none | none => none)
theorem g202_53_ok {l : Launch} {Ω : xo_O} (htr : xH l) (d : Nat) (p : Nat) (τ : Nat → Nat → Int64) (x1 : Int32) (x2 : Int32) (x3 : Int32) (σ : xS) (r : xv_R) (H : xo (xB false p τ r) (g202_53 x1 x2 x3 σ)) : xv l Ω (d + 1) 0 0 202 53 [some (.ref 53), some (.int x1), some (.int x2), some (.int x3)] [] (hM p σ τ) r := by
  unfold g202_53 at H
  cases q15 : g203 x1 (x2 + 2) σ with
  | none => rw [q15] at H; exact False.elim H
  | some q150 =>
    obtain ⟨v13 | v13, s14⟩ := q150
    · rw [q15] at H; dsimp only at H
      have hc := g203_run (Ω := Ω) htr d p τ x1 (x2 + 2) σ q15
      refine xp_ok htr 6 (d + 1) 0 0 [eC (some (.int v13)) (hM p s14 τ)] 202 53 [some (.ref 53), some (.int x1), some (.int x2), some (.int x3)] [] (hM p σ τ) ⟨hc, ?_⟩
      show xv l Ω (d + 1) 0 0 202 61 [some (.ref 53), some (.int x1), some (.int x2), some (.int x3)] [.int v13] (hM p s14 τ) r
      by_cases h16 : v13 = 0
      · rw [if_pos h16] at H
        refine xp_ok htr 1 (d + 1) 0 0 [eB true] 202 61 [some (.ref 53), some (.int x1), some (.int x2), some (.int x3)] [.int v13] (hM p s14 τ) ⟨h16, ?_⟩
        show xv l Ω (d + 1) 0 0 202 68 [some (.ref 53), some (.int x1), some (.int x2), some (.int x3)] [] (hM p s14 τ) r
        cases q19 : g203 x1 x3 s14 with
        | none => rw [q19] at H; exact False.elim H
        | some q190 =>
          obtain ⟨v17 | v17, s18⟩ := q190
          · rw [q19] at H; dsimp only at H
            have hc := g203_run (Ω := Ω) htr d p τ x1 x3 s14 q19
            refine xp_ok htr 4 (d + 1) 0 0 [eC (some (.int v17)) (hM p s18 τ)] 202 68 [some (.ref 53), some (.int x1), some (.int x2), some (.int x3)] [] (hM p s14 τ) ⟨hc, ?_⟩
            show xv l Ω (d + 1) 0 0 202 74 [some (.ref 53), some (.int x1), some (.int x2), some (.int x3)] [.int v17] (hM p s18 τ) r
            by_cases h20 : v17 = 0
            · rw [if_pos h20] at H
              refine xp_ok htr 1 (d + 1) 0 0 [eB true] 202 74 [some (.ref 53), some (.int x1), some (.int x2), some (.int x3)] [.int v17] (hM p s18 τ) ⟨h20, ?_⟩
              show xv l Ω (d + 1) 0 0 202 81 [some (.ref 53), some (.int x1), some (.int x2), some (.int x3)] [] (hM p s18 τ) r
              cases q23 : g203 x1 (x3 + 2) s18 with
              | none => rw [q23] at H; exact False.elim H
              | some q230 =>
                obtain ⟨v21 | v21, s22⟩ := q230
                · rw [q23] at H; dsimp only at H
                  have hc := g203_run (Ω := Ω) htr d p τ x1 (x3 + 2) s18 q23
                  refine xp_ok htr 6 (d + 1) 0 0 [eC (some (.int v21)) (hM p s22 τ)] 202 81 [some (.ref 53), some (.int x1), some (.int x2), some (.int x3)] [] (hM p s18 τ) ⟨hc, ?_⟩
                  show xv l Ω (d + 1) 0 0 202 89 [some (.ref 53), some (.int x1), some (.int x2), some (.int x3)] [.int v21] (hM p s22 τ) r
                  by_cases h24 : v21 = 0
                  · rw [if_pos h24] at H
                    refine xp_ok htr 1 (d + 1) 0 0 [eB true] 202 89 [some (.ref 53), some (.int x1), some (.int x2), some (.int x3)] [.int v21] (hM p s22 τ) ⟨h24, ?_⟩
                    show xv l Ω (d + 1) 0 0 202 98 [some (.ref 53), some (.int x1), some (.int x2), some (.int x3)] [] (hM p s22 τ) r
                    exact xp_ok htr 2 (d + 1) 0 0 [] 202 98 [some (.ref 53), some (.int x1), some (.int x2), some (.int x3)] [] (hM p s22 τ) ⟨trivial, (Eq.symm H)⟩
                  · rw [if_neg h24] at H
                    refine xp_ok htr 1 (d + 1) 0 0 [eB false] 202 89 [some (.ref 53), some (.int x1), some (.int x2), some (.int x3)] [.int v21] (hM p s22 τ) ⟨h24, ?_⟩
                    show xv l Ω (d + 1) 0 0 202 92 [some (.ref 53), some (.int x1), some (.int x2), some (.int x3)] [] (hM p s22 τ) r
                    exact xp_ok htr 5 (d + 1) 0 0 [] 202 92 [some (.ref 53), some (.int x1), some (.int x2), some (.int x3)] [] (hM p s22 τ) ⟨trivial, (Eq.symm H)⟩
                · rw [q23] at H; exact False.elim H
            · rw [if_neg h20] at H
              refine xp_ok htr 1 (d + 1) 0 0 [eB false] 202 74 [some (.ref 53), some (.int x1), some (.int x2), some (.int x3)] [.int v17] (hM p s18 τ) ⟨h20, ?_⟩
              show xv l Ω (d + 1) 0 0 202 77 [some (.ref 53), some (.int x1), some (.int x2), some (.int x3)] [] (hM p s18 τ) r
              exact xp_ok htr 3 (d + 1) 0 0 [] 202 77 [some (.ref 53), some (.int x1), some (.int x2), some (.int x3)] [] (hM p s18 τ) ⟨trivial, (Eq.symm H)⟩
          · rw [q19] at H; exact False.elim H
      · rw [if_neg h16] at H
        refine xp_ok htr 1 (d + 1) 0 0 [eB false] 202 61 [some (.ref 53), some (.int x1), some (.int x2), some (.int x3)] [.int v13] (hM p s14 τ) ⟨h16, ?_⟩
        show xv l Ω (d + 1) 0 0 202 64 [some (.ref 53), some (.int x1), some (.int x2), some (.int x3)] [] (hM p s14 τ) r
        exact xp_ok htr 4 (d + 1) 0 0 [] 202 64 [some (.ref 53), some (.int x1), some (.int x2), some (.int x3)] [] (hM p s14 τ) ⟨trivial, (Eq.symm H)⟩
    · rw [q15] at H; exact False.elim H
theorem g202_run {l : Launch} {Ω : xo_O} (htr : xH l) (d : Nat) (p : Nat) (τ : Nat → Nat → Int64) (a1 : Int32) (a2 : Int32) (a3 : Int32) (σ : xS) {q : xQ} (hq : g202 a1 a2 a3 σ = some q) : xv l Ω (d + 1) 0 0 202 0 (xs_loc (xm_l 202) [.ref 53, .int a1, .int a2, .int a3]) [] (hM p σ τ) (xq_R false p τ q) := by
  have H : xo (xB false p τ (xq_R false p τ q)) (g202 a1 a2 a3 σ) := by rw [hq]; exact rfl
  generalize xq_R false p τ q = r at H ⊢
  show xv l Ω (d + 1) 0 0 202 0 [some (.ref 53), some (.int a1), some (.int a2), some (.int a3)] [] (hM p σ τ) r
  unfold g202 at H
  cases q3 : g203 a1 a2 σ with
  | none => rw [q3] at H; exact False.elim H
  | some q30 =>
    obtain ⟨v1 | v1, s2⟩ := q30
    · rw [q3] at H; dsimp only at H
      have hc := g203_run (Ω := Ω) htr d p τ a1 a2 σ q3
      refine xp_ok htr 4 (d + 1) 0 0 [eC (some (.int v1)) (hM p s2 τ)] 202 0 [some (.ref 53), some (.int a1), some (.int a2), some (.int a3)] [] (hM p σ τ) ⟨hc, ?_⟩
      show xv l Ω (d + 1) 0 0 202 6 [some (.ref 53), some (.int a1), some (.int a2), some (.int a3)] [.int v1] (hM p s2 τ) r
      by_cases h4 : v1 = 0
      · rw [if_pos h4] at H
        refine xp_ok htr 1 (d + 1) 0 0 [eB true] 202 6 [some (.ref 53), some (.int a1), some (.int a2), some (.int a3)] [.int v1] (hM p s2 τ) ⟨h4, ?_⟩
        show xv l Ω (d + 1) 0 0 202 11 [some (.ref 53), some (.int a1), some (.int a2), some (.int a3)] [] (hM p s2 τ) r
        cases q7 : g203 a1 5 s2 with
        | none => rw [q7] at H; exact False.elim H
        | some q70 =>
          obtain ⟨v5 | v5, s6⟩ := q70
          · rw [q7] at H; dsimp only at H
            have hc := g203_run (Ω := Ω) htr d p τ a1 5 s2 q7
            refine xp_ok htr 4 (d + 1) 0 0 [eC (some (.int v5)) (hM p s6 τ)] 202 11 [some (.ref 53), some (.int a1), some (.int a2), some (.int a3)] [] (hM p s2 τ) ⟨hc, ?_⟩
            show xv l Ω (d + 1) 0 0 202 17 [some (.ref 53), some (.int a1), some (.int a2), some (.int a3)] [.int v5] (hM p s6 τ) r
            by_cases h8 : v5 = 0
            · rw [if_pos h8] at H
              refine xp_ok htr 1 (d + 1) 0 0 [eB false] 202 17 [some (.ref 53), some (.int a1), some (.int a2), some (.int a3)] [.int v5] (hM p s6 τ) ⟨h8, ?_⟩
              show xv l Ω (d + 1) 0 0 202 20 [some (.ref 53), some (.int a1), some (.int a2), some (.int a3)] [] (hM p s6 τ) r
              cases q11 : g203 a1 (a2 + 2) s6 with
              | none => rw [q11] at H; exact False.elim H
              | some q110 =>
                obtain ⟨v9 | v9, s10⟩ := q110
                · rw [q11] at H; dsimp only at H
                  have hc := g203_run (Ω := Ω) htr d p τ a1 (a2 + 2) s6 q11
                  refine xp_ok htr 6 (d + 1) 0 0 [eC (some (.int v9)) (hM p s10 τ)] 202 20 [some (.ref 53), some (.int a1), some (.int a2), some (.int a3)] [] (hM p s6 τ) ⟨hc, ?_⟩
                  show xv l Ω (d + 1) 0 0 202 28 [some (.ref 53), some (.int a1), some (.int a2), some (.int a3)] [.int v9] (hM p s10 τ) r
                  by_cases h12 : v9 = 0
                  · rw [if_pos h12] at H
                    refine xp_ok htr 1 (d + 1) 0 0 [eB true] 202 28 [some (.ref 53), some (.int a1), some (.int a2), some (.int a3)] [.int v9] (hM p s10 τ) ⟨h12, ?_⟩
                    show xv l Ω (d + 1) 0 0 202 53 [some (.ref 53), some (.int a1), some (.int a2), some (.int a3)] [] (hM p s10 τ) r
                    exact xv_sub (L' := [some (.ref 53), some (.int a1), some (.int a2), some (.int a3)]) ⟨rfl, ⟨rfl, ⟨rfl, ⟨rfl, trivial⟩⟩⟩⟩ (g202_53_ok htr d p τ a1 a2 a3 s10 r H)
                  · rw [if_neg h12] at H
                    refine xp_ok htr 1 (d + 1) 0 0 [eB false] 202 28 [some (.ref 53), some (.int a1), some (.int a2), some (.int a3)] [.int v9] (hM p s10 τ) ⟨h12, ?_⟩
                    show xv l Ω (d + 1) 0 0 202 31 [some (.ref 53), some (.int a1), some (.int a2), some (.int a3)] [] (hM p s10 τ) r
                    cases q27 : g203 a1 (a3 + 2) s10 with
                    | none => rw [q27] at H; exact False.elim H
                    | some q270 =>
                      obtain ⟨v25 | v25, s26⟩ := q270
                      · rw [q27] at H; dsimp only at H
                        have hc := g203_run (Ω := Ω) htr d p τ a1 (a3 + 2) s10 q27
                        refine xp_ok htr 6 (d + 1) 0 0 [eC (some (.int v25)) (hM p s26 τ)] 202 31 [some (.ref 53), some (.int a1), some (.int a2), some (.int a3)] [] (hM p s10 τ) ⟨hc, ?_⟩
                        show xv l Ω (d + 1) 0 0 202 39 [some (.ref 53), some (.int a1), some (.int a2), some (.int a3)] [.int v25] (hM p s26 τ) r
                        by_cases h28 : v25 = 0
                        · rw [if_pos h28] at H
                          refine xp_ok htr 1 (d + 1) 0 0 [eB false] 202 39 [some (.ref 53), some (.int a1), some (.int a2), some (.int a3)] [.int v25] (hM p s26 τ) ⟨h28, ?_⟩
                          show xv l Ω (d + 1) 0 0 202 42 [some (.ref 53), some (.int a1), some (.int a2), some (.int a3)] [] (hM p s26 τ) r
                          cases q31 : g203 a1 a3 s26 with
                          | none => rw [q31] at H; exact False.elim H
                          | some q310 =>
                            obtain ⟨v29 | v29, s30⟩ := q310
                            · rw [q31] at H; dsimp only at H
                              have hc := g203_run (Ω := Ω) htr d p τ a1 a3 s26 q31
                              refine xp_ok htr 4 (d + 1) 0 0 [eC (some (.int v29)) (hM p s30 τ)] 202 42 [some (.ref 53), some (.int a1), some (.int a2), some (.int a3)] [] (hM p s26 τ) ⟨hc, ?_⟩
                              show xv l Ω (d + 1) 0 0 202 48 [some (.ref 53), some (.int a1), some (.int a2), some (.int a3)] [.int v29] (hM p s30 τ) r
                              by_cases h32 : v29 = 0
                              · rw [if_pos h32] at H
                                refine xp_ok htr 1 (d + 1) 0 0 [eB true] 202 48 [some (.ref 53), some (.int a1), some (.int a2), some (.int a3)] [.int v29] (hM p s30 τ) ⟨h32, ?_⟩
                                show xv l Ω (d + 1) 0 0 202 53 [some (.ref 53), some (.int a1), some (.int a2), some (.int a3)] [] (hM p s30 τ) r
                                exact xv_sub (L' := [some (.ref 53), some (.int a1), some (.int a2), some (.int a3)]) ⟨rfl, ⟨rfl, ⟨rfl, ⟨rfl, trivial⟩⟩⟩⟩ (g202_53_ok htr d p τ a1 a2 a3 s30 r H)
                              · rw [if_neg h32] at H
                                refine xp_ok htr 1 (d + 1) 0 0 [eB false] 202 48 [some (.ref 53), some (.int a1), some (.int a2), some (.int a3)] [.int v29] (hM p s30 τ) ⟨h32, ?_⟩
                                show xv l Ω (d + 1) 0 0 202 51 [some (.ref 53), some (.int a1), some (.int a2), some (.int a3)] [] (hM p s30 τ) r
                                exact xp_ok htr 2 (d + 1) 0 0 [] 202 51 [some (.ref 53), some (.int a1), some (.int a2), some (.int a3)] [] (hM p s30 τ) ⟨trivial, (Eq.symm H)⟩
                            · rw [q31] at H; exact False.elim H
                        · rw [if_neg h28] at H
                          refine xp_ok htr 1 (d + 1) 0 0 [eB true] 202 39 [some (.ref 53), some (.int a1), some (.int a2), some (.int a3)] [.int v25] (hM p s26 τ) ⟨h28, ?_⟩
                          show xv l Ω (d + 1) 0 0 202 51 [some (.ref 53), some (.int a1), some (.int a2), some (.int a3)] [] (hM p s26 τ) r
                          exact xp_ok htr 2 (d + 1) 0 0 [] 202 51 [some (.ref 53), some (.int a1), some (.int a2), some (.int a3)] [] (hM p s26 τ) ⟨trivial, (Eq.symm H)⟩
                      · rw [q27] at H; exact False.elim H
                · rw [q11] at H; exact False.elim H
            · rw [if_neg h8] at H
              refine xp_ok htr 1 (d + 1) 0 0 [eB true] 202 17 [some (.ref 53), some (.int a1), some (.int a2), some (.int a3)] [.int v5] (hM p s6 τ) ⟨h8, ?_⟩
              show xv l Ω (d + 1) 0 0 202 51 [some (.ref 53), some (.int a1), some (.int a2), some (.int a3)] [] (hM p s6 τ) r
              exact xp_ok htr 2 (d + 1) 0 0 [] 202 51 [some (.ref 53), some (.int a1), some (.int a2), some (.int a3)] [] (hM p s6 τ) ⟨trivial, (Eq.symm H)⟩
          · rw [q7] at H; exact False.elim H
      · rw [if_neg h4] at H
        refine xp_ok htr 1 (d + 1) 0 0 [eB false] 202 6 [some (.ref 53), some (.int a1), some (.int a2), some (.int a3)] [.int v1] (hM p s2 τ) ⟨h4, ?_⟩
        show xv l Ω (d + 1) 0 0 202 9 [some (.ref 53), some (.int a1), some (.int a2), some (.int a3)] [] (hM p s2 τ) r
        exact xp_ok htr 2 (d + 1) 0 0 [] 202 9 [some (.ref 53), some (.int a1), some (.int a2), some (.int a3)] [] (hM p s2 τ) ⟨trivial, (Eq.symm H)⟩
    · rw [q3] at H; exact False.elim H
/- AccessDeskModel.alone -/
def g205_59 (x1 : Int32) (x2 : Int32) (σ : xS) : Option ((Int32 × Int32 × xS) ⊕ xQ) := some (Sum.inl (x1, (x2 + 1), σ))
def g205_4b (x1 : Int32) (x2 : Int32) (σ : xS) : Option ((Int32 × Int32 × xS) ⊕ xQ) := (if (σ 70 0) ≤ x2 then some (Sum.inr ((Sum.inl (-1), σ))) else (bif xn x2 80 then (if (σ 72 (Int32.toNatClampNeg x2)) = x1 then (bif xn x1 80 then (if (σ 71 (Int32.toNatClampNeg x1)) = 70 then (bif xn x2 40 then (if (σ 88 (Int32.toNatClampNeg x2)) = 0 then g205_59 x1 x2 σ else some (Sum.inr ((Sum.inl x2, σ)))) else none) else (bif xn x2 40 then (if (σ 87 (Int32.toNatClampNeg x2)) = 1 then some (Sum.inr ((Sum.inl x2, σ))) else g205_59 x1 x2 σ) else none)) else none) else g205_59 x1 x2 σ) else none))
def g205_4 (x1 : Int32) (x2 : Int32) (σ : xS) : Option xQ := xlo (fun a : Int32 × Int32 × xS => g205_4b a.1 a.2.1 a.2.2) 1000 (x1, x2, σ)
def g205 (a1 : Int32) (σ : xS) : xO := g205_4 a1 (a1 + 1) σ
def a205_4 (l : Launch) (Ω : xo_O) (d p : Nat) (τ : Nat → Nat → Int64) (r : xv_R) : Int32 × Int32 × xS → Prop := fun a => xv l Ω d 0 0 205 4 [some (.ref 53), some (.int a.1), some (.int a.2.1)] [] (hM p a.2.2 τ) r
theorem g205_59_ok {l : Launch} {Ω : xo_O} (htr : xH l) (d : Nat) (p : Nat) (τ : Nat → Nat → Int64) (x1 : Int32) (x2 : Int32) (σ : xS) (r : xv_R) (H : xo (xd (a205_4 l Ω d p τ r) (xB false p τ r)) (g205_59 x1 x2 σ)) : xv l Ω d 0 0 205 59 [some (.ref 53), some (.int x1), some (.int x2)] [] (hM p σ τ) r := by
  unfold g205_59 at H
  refine xp_ok htr 2 d 0 0 [] 205 59 [some (.ref 53), some (.int x1), some (.int x2)] [] (hM p σ τ) ?_
  show xv l Ω d 0 0 205 4 [some (.ref 53), some (.int x1), some (.int (x2 + 1))] [] (hM p σ τ) r
  exact xv_sub (L' := [some (.ref 53), some (.int x1), some (.int (x2 + 1))]) ⟨rfl, ⟨rfl, ⟨rfl, trivial⟩⟩⟩ H
theorem g205_4b_ok {l : Launch} {Ω : xo_O} (htr : xH l) (d : Nat) (p : Nat) (τ : Nat → Nat → Int64) (x1 : Int32) (x2 : Int32) (σ : xS) (r : xv_R) (H : xo (xd (a205_4 l Ω d p τ r) (xB false p τ r)) (g205_4b x1 x2 σ)) : xv l Ω d 0 0 205 4 [some (.ref 53), some (.int x1), some (.int x2)] [] (hM p σ τ) r := by
  unfold g205_4b at H
  by_cases h1 : (σ 70 0) ≤ x2
  · rw [if_pos h1] at H
    refine xp_ok htr 6 d 0 0 [eB true] 205 4 [some (.ref 53), some (.int x1), some (.int x2)] [] (hM p σ τ) ⟨(by unfold vp_in; decide), h1, ?_⟩
    show xv l Ω d 0 0 205 65 [some (.ref 53), some (.int x1), some (.int x2)] [] (hM p σ τ) r
    exact xp_ok htr 2 d 0 0 [] 205 65 [some (.ref 53), some (.int x1), some (.int x2)] [] (hM p σ τ) ⟨trivial, (Eq.symm H)⟩
  · rw [if_neg h1] at H
    refine xp_ok htr 6 d 0 0 [eB false] 205 4 [some (.ref 53), some (.int x1), some (.int x2)] [] (hM p σ τ) ⟨(by unfold vp_in; decide), h1, ?_⟩
    show xv l Ω d 0 0 205 14 [some (.ref 53), some (.int x1), some (.int x2)] [] (hM p σ τ) r
    cases g2 : xn x2 80 with
    | false => rw [g2, cond_false] at H; exact False.elim H
    | true =>
      rw [g2, cond_true] at H
      by_cases h3 : (σ 72 (Int32.toNatClampNeg x2)) = x1
      · rw [if_pos h3] at H
        refine xp_ok htr 6 d 0 0 [eB false] 205 14 [some (.ref 53), some (.int x1), some (.int x2)] [] (hM p σ τ) ⟨(xn_in g2), h3, ?_⟩
        show xv l Ω d 0 0 205 24 [some (.ref 53), some (.int x1), some (.int x2)] [] (hM p σ τ) r
        cases g4 : xn x1 80 with
        | false => rw [g4, cond_false] at H; exact False.elim H
        | true =>
          rw [g4, cond_true] at H
          by_cases h5 : (σ 71 (Int32.toNatClampNeg x1)) = 70
          · rw [if_pos h5] at H
            refine xp_ok htr 6 d 0 0 [eB false] 205 24 [some (.ref 53), some (.int x1), some (.int x2)] [] (hM p σ τ) ⟨(xn_in g4), h5, ?_⟩
            show xv l Ω d 0 0 205 35 [some (.ref 53), some (.int x1), some (.int x2)] [] (hM p σ τ) r
            cases g6 : xn x2 40 with
            | false => rw [g6, cond_false] at H; exact False.elim H
            | true =>
              rw [g6, cond_true] at H
              by_cases h7 : (σ 88 (Int32.toNatClampNeg x2)) = 0
              · rw [if_pos h7] at H
                refine xp_ok htr 5 d 0 0 [eB true] 205 35 [some (.ref 53), some (.int x1), some (.int x2)] [] (hM p σ τ) ⟨(xn_in g6), h7, ?_⟩
                show xv l Ω d 0 0 205 59 [some (.ref 53), some (.int x1), some (.int x2)] [] (hM p σ τ) r
                exact xv_sub (L' := [some (.ref 53), some (.int x1), some (.int x2)]) ⟨rfl, ⟨rfl, ⟨rfl, trivial⟩⟩⟩ (g205_59_ok htr d p τ x1 x2 σ r H)
              · rw [if_neg h7] at H
                refine xp_ok htr 5 d 0 0 [eB false] 205 35 [some (.ref 53), some (.int x1), some (.int x2)] [] (hM p σ τ) ⟨(xn_in g6), h7, ?_⟩
                show xv l Ω d 0 0 205 44 [some (.ref 53), some (.int x1), some (.int x2)] [] (hM p σ τ) r
                exact xp_ok htr 3 d 0 0 [] 205 44 [some (.ref 53), some (.int x1), some (.int x2)] [] (hM p σ τ) ⟨trivial, (Eq.symm H)⟩
          · rw [if_neg h5] at H
            refine xp_ok htr 6 d 0 0 [eB true] 205 24 [some (.ref 53), some (.int x1), some (.int x2)] [] (hM p σ τ) ⟨(xn_in g4), h5, ?_⟩
            show xv l Ω d 0 0 205 47 [some (.ref 53), some (.int x1), some (.int x2)] [] (hM p σ τ) r
            cases g8 : xn x2 40 with
            | false => rw [g8, cond_false] at H; exact False.elim H
            | true =>
              rw [g8, cond_true] at H
              by_cases h9 : (σ 87 (Int32.toNatClampNeg x2)) = 1
              · rw [if_pos h9] at H
                refine xp_ok htr 6 d 0 0 [eB false] 205 47 [some (.ref 53), some (.int x1), some (.int x2)] [] (hM p σ τ) ⟨(xn_in g8), h9, ?_⟩
                show xv l Ω d 0 0 205 57 [some (.ref 53), some (.int x1), some (.int x2)] [] (hM p σ τ) r
                exact xp_ok htr 2 d 0 0 [] 205 57 [some (.ref 53), some (.int x1), some (.int x2)] [] (hM p σ τ) ⟨trivial, (Eq.symm H)⟩
              · rw [if_neg h9] at H
                refine xp_ok htr 6 d 0 0 [eB true] 205 47 [some (.ref 53), some (.int x1), some (.int x2)] [] (hM p σ τ) ⟨(xn_in g8), h9, ?_⟩
                show xv l Ω d 0 0 205 59 [some (.ref 53), some (.int x1), some (.int x2)] [] (hM p σ τ) r
                exact xv_sub (L' := [some (.ref 53), some (.int x1), some (.int x2)]) ⟨rfl, ⟨rfl, ⟨rfl, trivial⟩⟩⟩ (g205_59_ok htr d p τ x1 x2 σ r H)
      · rw [if_neg h3] at H
        refine xp_ok htr 6 d 0 0 [eB true] 205 14 [some (.ref 53), some (.int x1), some (.int x2)] [] (hM p σ τ) ⟨(xn_in g2), h3, ?_⟩
        show xv l Ω d 0 0 205 59 [some (.ref 53), some (.int x1), some (.int x2)] [] (hM p σ τ) r
        exact xv_sub (L' := [some (.ref 53), some (.int x1), some (.int x2)]) ⟨rfl, ⟨rfl, ⟨rfl, trivial⟩⟩⟩ (g205_59_ok htr d p τ x1 x2 σ r H)
theorem g205_4_ok {l : Launch} {Ω : xo_O} (htr : xH l) (d : Nat) (p : Nat) (τ : Nat → Nat → Int64) (x1 : Int32) (x2 : Int32) (σ : xS) (r : xv_R) (H : xo (xB false p τ r) (g205_4 x1 x2 σ)) : xv l Ω d 0 0 205 4 [some (.ref 53), some (.int x1), some (.int x2)] [] (hM p σ τ) r :=
  xlo_ok (A := a205_4 l Ω d p τ r) (fun a H => g205_4b_ok htr d p τ a.1 a.2.1 a.2.2 r H) 1000 (x1, x2, σ) H
theorem g205_run {l : Launch} {Ω : xo_O} (htr : xH l) (d : Nat) (p : Nat) (τ : Nat → Nat → Int64) (a1 : Int32) (σ : xS) {q : xQ} (hq : g205 a1 σ = some q) : xv l Ω d 0 0 205 0 (xs_loc (xm_l 205) [.ref 53, .int a1]) [] (hM p σ τ) (xq_R false p τ q) := by
  have H : xo (xB false p τ (xq_R false p τ q)) (g205 a1 σ) := by rw [hq]; exact rfl
  generalize xq_R false p τ q = r at H ⊢
  show xv l Ω d 0 0 205 0 [some (.ref 53), some (.int a1), none] [] (hM p σ τ) r
  unfold g205 at H
  refine xp_ok htr 4 d 0 0 [] 205 0 [some (.ref 53), some (.int a1), none] [] (hM p σ τ) ?_
  show xv l Ω d 0 0 205 4 [some (.ref 53), some (.int a1), some (.int (a1 + 1))] [] (hM p σ τ) r
  exact xv_sub (L' := [some (.ref 53), some (.int a1), some (.int (a1 + 1))]) ⟨rfl, ⟨rfl, ⟨rfl, trivial⟩⟩⟩ (g205_4_ok htr d p τ a1 (a1 + 1) σ r H)
