/-! the methods as functions: laid by program (wip/whole/dec.py) -/
/- AccessDesk$Sessions.fulfil -/
def g137_46 (x1 : Int32) (x4 : Int32) (σ : xS) : Option xQ := (if x4 = 0 then some ((Sum.inl 1, σ)) else (bif xn x1 6 then some ((Sum.inl 1, (xh_ui σ 10 (Int32.toNatClampNeg x1) ((σ 10 (Int32.toNatClampNeg x1)) + 1)))) else none))
def g137_29 (x1 : Int32) (x4 : Int32) (σ : xS) : Option xQ := (if x4 = 0 then g137_46 x1 x4 σ else (bif xn x1 6 then (if (σ 10 (Int32.toNatClampNeg x1)) < 3 then g137_46 x1 x4 σ else some ((Sum.inl 0, σ))) else none))
def g137 (a1 : Int32) (a2 : Int32) (a3 : Int32) (σ : xS) : xO := (match g28 a2 4 σ with | some (Sum.inl v1, s2) => (if (a2 >>> (6 &&& 31)) = 0 then (match g28 a2 5 s2 with | some (Sum.inl v5, s6) => (if v5 = 0 then g137_29 a1 v1 s6 else (match g138 a3 s6 with | some (Sum.inl v14, s15) => (if v14 = 0 then some ((Sum.inl 0, s15)) else g137_29 a1 v1 s15) | some (Sum.inr v14, s15) => none | none => none)) | some (Sum.inr v5, s6) => none | none => none) else some ((Sum.inl 0, s2))) | some (Sum.inr v1, s2) => none | none => none)
theorem g137_46_ok {l : Launch} {Ω : xo_O} (htr : xH l) (d : Nat) (p : Nat) (τ : Nat → Nat → Int64) (x1 : Int32) (x4 : Int32) (σ : xS) (r : xv_R) (H : xo (xB false p τ r) (g137_46 x1 x4 σ)) : xv l Ω (d + 1) 0 0 137 46 [some (.ref 7), some (.int x1), none, none, some (.int x4)] [] (hM p σ τ) r := by
  unfold g137_46 at H
  by_cases h10 : x4 = 0
  · rw [if_pos h10] at H
    refine xp_ok htr 2 (d + 1) 0 0 [eB true] 137 46 [some (.ref 7), some (.int x1), none, none, some (.int x4)] [] (hM p σ τ) ⟨h10, ?_⟩
    show xv l Ω (d + 1) 0 0 137 61 [some (.ref 7), some (.int x1), none, none, some (.int x4)] [] (hM p σ τ) r
    exact xp_ok htr 2 (d + 1) 0 0 [] 137 61 [some (.ref 7), some (.int x1), none, none, some (.int x4)] [] (hM p σ τ) ⟨Or.inr rfl, (Eq.symm H)⟩
  · rw [if_neg h10] at H
    refine xp_ok htr 2 (d + 1) 0 0 [eB false] 137 46 [some (.ref 7), some (.int x1), none, none, some (.int x4)] [] (hM p σ τ) ⟨h10, ?_⟩
    show xv l Ω (d + 1) 0 0 137 51 [some (.ref 7), some (.int x1), none, none, some (.int x4)] [] (hM p σ τ) r
    cases g11 : xn x1 6 with
    | false => rw [g11, cond_false] at H; exact False.elim H
    | true =>
      rw [g11, cond_true] at H
      refine xp_ok htr 8 (d + 1) 0 0 [] 137 51 [some (.ref 7), some (.int x1), none, none, some (.int x4)] [] (hM p σ τ) ⟨(xn_in g11), (xn_in g11), ?_⟩
      show xv l Ω (d + 1) 0 0 137 61 [some (.ref 7), some (.int x1), none, none, some (.int x4)] [] (hM p (xh_ui σ 10 (Int32.toNatClampNeg x1) ((σ 10 (Int32.toNatClampNeg x1)) + 1)) τ) r
      exact xp_ok htr 2 (d + 1) 0 0 [] 137 61 [some (.ref 7), some (.int x1), none, none, some (.int x4)] [] (hM p (xh_ui σ 10 (Int32.toNatClampNeg x1) ((σ 10 (Int32.toNatClampNeg x1)) + 1)) τ) ⟨Or.inr rfl, (Eq.symm H)⟩
theorem g137_29_ok {l : Launch} {Ω : xo_O} (htr : xH l) (d : Nat) (p : Nat) (τ : Nat → Nat → Int64) (x1 : Int32) (x4 : Int32) (σ : xS) (r : xv_R) (H : xo (xB false p τ r) (g137_29 x1 x4 σ)) : xv l Ω (d + 1) 0 0 137 29 [some (.ref 7), some (.int x1), none, none, some (.int x4)] [] (hM p σ τ) r := by
  unfold g137_29 at H
  by_cases h9 : x4 = 0
  · rw [if_pos h9] at H
    refine xp_ok htr 2 (d + 1) 0 0 [eB true] 137 29 [some (.ref 7), some (.int x1), none, none, some (.int x4)] [] (hM p σ τ) ⟨h9, ?_⟩
    show xv l Ω (d + 1) 0 0 137 46 [some (.ref 7), some (.int x1), none, none, some (.int x4)] [] (hM p σ τ) r
    exact xv_sub (L' := [some (.ref 7), some (.int x1), none, none, some (.int x4)]) ⟨rfl, ⟨rfl, ⟨rfl, trivial⟩⟩⟩ (g137_46_ok htr d p τ x1 x4 σ r H)
  · rw [if_neg h9] at H
    refine xp_ok htr 2 (d + 1) 0 0 [eB false] 137 29 [some (.ref 7), some (.int x1), none, none, some (.int x4)] [] (hM p σ τ) ⟨h9, ?_⟩
    show xv l Ω (d + 1) 0 0 137 34 [some (.ref 7), some (.int x1), none, none, some (.int x4)] [] (hM p σ τ) r
    cases g12 : xn x1 6 with
    | false => rw [g12, cond_false] at H; exact False.elim H
    | true =>
      rw [g12, cond_true] at H
      by_cases h13 : (σ 10 (Int32.toNatClampNeg x1)) < 3
      · rw [if_pos h13] at H
        refine xp_ok htr 6 (d + 1) 0 0 [eB true] 137 34 [some (.ref 7), some (.int x1), none, none, some (.int x4)] [] (hM p σ τ) ⟨(xn_in g12), h13, ?_⟩
        show xv l Ω (d + 1) 0 0 137 46 [some (.ref 7), some (.int x1), none, none, some (.int x4)] [] (hM p σ τ) r
        exact xv_sub (L' := [some (.ref 7), some (.int x1), none, none, some (.int x4)]) ⟨rfl, ⟨rfl, ⟨rfl, trivial⟩⟩⟩ (g137_46_ok htr d p τ x1 x4 σ r H)
      · rw [if_neg h13] at H
        refine xp_ok htr 6 (d + 1) 0 0 [eB false] 137 34 [some (.ref 7), some (.int x1), none, none, some (.int x4)] [] (hM p σ τ) ⟨(xn_in g12), h13, ?_⟩
        show xv l Ω (d + 1) 0 0 137 44 [some (.ref 7), some (.int x1), none, none, some (.int x4)] [] (hM p σ τ) r
        exact xp_ok htr 2 (d + 1) 0 0 [] 137 44 [some (.ref 7), some (.int x1), none, none, some (.int x4)] [] (hM p σ τ) ⟨Or.inl rfl, (Eq.symm H)⟩
theorem g137_run {l : Launch} {Ω : xo_O} (htr : xH l) (d : Nat) (p : Nat) (τ : Nat → Nat → Int64) (a1 : Int32) (a2 : Int32) (a3 : Int32) (σ : xS) {q : xQ} (hq : g137 a1 a2 a3 σ = some q) : xv l Ω (d + 1) 0 0 137 0 (xs_loc (xm_l 137) [.ref 7, .int a1, .int a2, .int a3]) [] (hM p σ τ) (xq_R false p τ q) := by
  have H : xo (xB false p τ (xq_R false p τ q)) (g137 a1 a2 a3 σ) := by rw [hq]; exact rfl
  generalize xq_R false p τ q = r at H ⊢
  show xv l Ω (d + 1) 0 0 137 0 [some (.ref 7), some (.int a1), some (.int a2), some (.int a3), none] [] (hM p σ τ) r
  unfold g137 at H
  cases q3 : g28 a2 4 σ with
  | none => rw [q3] at H; exact False.elim H
  | some q30 =>
    obtain ⟨v1 | v1, s2⟩ := q30
    · rw [q3] at H; dsimp only at H
      have hc := g28_run (Ω := Ω) htr d p τ a2 4 σ q3
      refine xp_ok htr 3 (d + 1) 0 0 [eC (some (.int v1)) (hM p s2 τ)] 137 0 [some (.ref 7), some (.int a1), some (.int a2), some (.int a3), none] [] (hM p σ τ) ⟨hc, ?_⟩
      show xv l Ω (d + 1) 0 0 137 5 [some (.ref 7), some (.int a1), some (.int a2), some (.int a3), none] [.int v1] (hM p s2 τ) r
      by_cases h4 : (a2 >>> (6 &&& 31)) = 0
      · rw [if_pos h4] at H
        refine xp_ok htr 5 (d + 1) 0 0 [eB false] 137 5 [some (.ref 7), some (.int a1), some (.int a2), some (.int a3), none] [.int v1] (hM p s2 τ) ⟨h4, ?_⟩
        show xv l Ω (d + 1) 0 0 137 14 [some (.ref 7), some (.int a1), some (.int a2), some (.int a3), some (.int v1)] [] (hM p s2 τ) r
        cases q7 : g28 a2 5 s2 with
        | none => rw [q7] at H; exact False.elim H
        | some q70 =>
          obtain ⟨v5 | v5, s6⟩ := q70
          · rw [q7] at H; dsimp only at H
            have hc := g28_run (Ω := Ω) htr d p τ a2 5 s2 q7
            refine xp_ok htr 3 (d + 1) 0 0 [eC (some (.int v5)) (hM p s6 τ)] 137 14 [some (.ref 7), some (.int a1), some (.int a2), some (.int a3), some (.int v1)] [] (hM p s2 τ) ⟨hc, ?_⟩
            show xv l Ω (d + 1) 0 0 137 19 [some (.ref 7), some (.int a1), some (.int a2), some (.int a3), some (.int v1)] [.int v5] (hM p s6 τ) r
            by_cases h8 : v5 = 0
            · rw [if_pos h8] at H
              refine xp_ok htr 1 (d + 1) 0 0 [eB true] 137 19 [some (.ref 7), some (.int a1), some (.int a2), some (.int a3), some (.int v1)] [.int v5] (hM p s6 τ) ⟨h8, ?_⟩
              show xv l Ω (d + 1) 0 0 137 29 [some (.ref 7), some (.int a1), some (.int a2), some (.int a3), some (.int v1)] [] (hM p s6 τ) r
              exact xv_sub (L' := [some (.ref 7), some (.int a1), none, none, some (.int v1)]) ⟨rfl, ⟨rfl, ⟨rfl, trivial⟩⟩⟩ (g137_29_ok htr d p τ a1 v1 s6 r H)
            · rw [if_neg h8] at H
              refine xp_ok htr 1 (d + 1) 0 0 [eB false] 137 19 [some (.ref 7), some (.int a1), some (.int a2), some (.int a3), some (.int v1)] [.int v5] (hM p s6 τ) ⟨h8, ?_⟩
              show xv l Ω (d + 1) 0 0 137 22 [some (.ref 7), some (.int a1), some (.int a2), some (.int a3), some (.int v1)] [] (hM p s6 τ) r
              cases q16 : g138 a3 s6 with
              | none => rw [q16] at H; exact False.elim H
              | some q160 =>
                obtain ⟨v14 | v14, s15⟩ := q160
                · rw [q16] at H; dsimp only at H
                  have hc := g138_run (Ω := Ω) htr d p τ a3 s6 q16
                  refine xp_ok htr 2 (d + 1) 0 0 [eC (some (.int v14)) (hM p s15 τ)] 137 22 [some (.ref 7), some (.int a1), some (.int a2), some (.int a3), some (.int v1)] [] (hM p s6 τ) ⟨hc, ?_⟩
                  show xv l Ω (d + 1) 0 0 137 26 [some (.ref 7), some (.int a1), some (.int a2), some (.int a3), some (.int v1)] [.int v14] (hM p s15 τ) r
                  by_cases h17 : v14 = 0
                  · rw [if_pos h17] at H
                    refine xp_ok htr 1 (d + 1) 0 0 [eB true] 137 26 [some (.ref 7), some (.int a1), some (.int a2), some (.int a3), some (.int v1)] [.int v14] (hM p s15 τ) ⟨h17, ?_⟩
                    show xv l Ω (d + 1) 0 0 137 44 [some (.ref 7), some (.int a1), some (.int a2), some (.int a3), some (.int v1)] [] (hM p s15 τ) r
                    exact xp_ok htr 2 (d + 1) 0 0 [] 137 44 [some (.ref 7), some (.int a1), some (.int a2), some (.int a3), some (.int v1)] [] (hM p s15 τ) ⟨Or.inl rfl, (Eq.symm H)⟩
                  · rw [if_neg h17] at H
                    refine xp_ok htr 1 (d + 1) 0 0 [eB false] 137 26 [some (.ref 7), some (.int a1), some (.int a2), some (.int a3), some (.int v1)] [.int v14] (hM p s15 τ) ⟨h17, ?_⟩
                    show xv l Ω (d + 1) 0 0 137 29 [some (.ref 7), some (.int a1), some (.int a2), some (.int a3), some (.int v1)] [] (hM p s15 τ) r
                    exact xv_sub (L' := [some (.ref 7), some (.int a1), none, none, some (.int v1)]) ⟨rfl, ⟨rfl, ⟨rfl, trivial⟩⟩⟩ (g137_29_ok htr d p τ a1 v1 s15 r H)
                · rw [q16] at H; exact False.elim H
          · rw [q7] at H; exact False.elim H
      · rw [if_neg h4] at H
        refine xp_ok htr 5 (d + 1) 0 0 [eB true] 137 5 [some (.ref 7), some (.int a1), some (.int a2), some (.int a3), none] [.int v1] (hM p s2 τ) ⟨h4, ?_⟩
        show xv l Ω (d + 1) 0 0 137 44 [some (.ref 7), some (.int a1), some (.int a2), some (.int a3), some (.int v1)] [] (hM p s2 τ) r
        exact xp_ok htr 2 (d + 1) 0 0 [] 137 44 [some (.ref 7), some (.int a1), some (.int a2), some (.int a3), some (.int v1)] [] (hM p s2 τ) ⟨Or.inl rfl, (Eq.symm H)⟩
    · rw [q3] at H; exact False.elim H
/- AccessDesk$Book.write -/
def g139_32 (x1 : Int32) (x2 : Int32) (x3 : Int32) (x4 : Int32) (x5 : Int32) (x6 : Int32) (x7 : Int32) (σ : xS) : Option xQ := (bif xn x7 280 then (bif xn (x7 + 1) 280 then (bif xn (x7 + 2) 280 then (bif xn (x7 + 3) 280 then (bif xn (x7 + 4) 280 then (bif xn (x7 + 5) 280 then (match g18 ((xh_ui (xh_ui (xh_ui (xh_ui (xh_ui (xh_ui σ 52 (Int32.toNatClampNeg x7) x1) 52 (Int32.toNatClampNeg (x7 + 1)) x2) 52 (Int32.toNatClampNeg (x7 + 2)) x3) 52 (Int32.toNatClampNeg (x7 + 3)) x4) 52 (Int32.toNatClampNeg (x7 + 4)) x5) 52 (Int32.toNatClampNeg (x7 + 5)) x6) 51 1) ((xh_ui (xh_ui (xh_ui (xh_ui (xh_ui (xh_ui σ 52 (Int32.toNatClampNeg x7) x1) 52 (Int32.toNatClampNeg (x7 + 1)) x2) 52 (Int32.toNatClampNeg (x7 + 2)) x3) 52 (Int32.toNatClampNeg (x7 + 3)) x4) 52 (Int32.toNatClampNeg (x7 + 4)) x5) 52 (Int32.toNatClampNeg (x7 + 5)) x6) 51 3) (xh_ui (xh_ui (xh_ui (xh_ui (xh_ui (xh_ui σ 52 (Int32.toNatClampNeg x7) x1) 52 (Int32.toNatClampNeg (x7 + 1)) x2) 52 (Int32.toNatClampNeg (x7 + 2)) x3) 52 (Int32.toNatClampNeg (x7 + 3)) x4) 52 (Int32.toNatClampNeg (x7 + 4)) x5) 52 (Int32.toNatClampNeg (x7 + 5)) x6) with | some (Sum.inl v11, s12) => (bif xn (x7 + 6) 280 then some ((Sum.inl 0, (xh_ui (xh_ui (xh_ui s12 51 3 v11) 52 (Int32.toNatClampNeg (x7 + 6)) ((xh_ui s12 51 3 v11) 51 3)) 51 1 (((xh_ui (xh_ui s12 51 3 v11) 52 (Int32.toNatClampNeg (x7 + 6)) ((xh_ui s12 51 3 v11) 51 3)) 51 1) + 1)))) else none) | some (Sum.inr v11, s12) => none | none => none) else none) else none) else none) else none) else none) else none)
def g139 (a1 : Int32) (a2 : Int32) (a3 : Int32) (a4 : Int32) (a5 : Int32) (a6 : Int32) (σ : xS) : xO := (match g20 (σ 51 1) σ with | some (Sum.inl v1, s2) => (if (s2 51 1) < 40 then g139_32 a1 a2 a3 a4 a5 a6 v1 s2 else (bif xn (v1 + 6) 280 then g139_32 a1 a2 a3 a4 a5 a6 v1 (xh_ui s2 51 2 (s2 52 (Int32.toNatClampNeg (v1 + 6)))) else none)) | some (Sum.inr v1, s2) => none | none => none)
theorem g139_32_ok {l : Launch} {Ω : xo_O} (htr : xH l) (d : Nat) (p : Nat) (τ : Nat → Nat → Int64) (x1 : Int32) (x2 : Int32) (x3 : Int32) (x4 : Int32) (x5 : Int32) (x6 : Int32) (x7 : Int32) (σ : xS) (r : xv_R) (H : xo (xB true p τ r) (g139_32 x1 x2 x3 x4 x5 x6 x7 σ)) : xv l Ω (d + 4) 0 0 139 32 [some (.ref 51), some (.int x1), some (.int x2), some (.int x3), some (.int x4), some (.int x5), some (.int x6), some (.int x7)] [] (hM p σ τ) r := by
  unfold g139_32 at H
  cases g5 : xn x7 280 with
  | false => rw [g5, cond_false] at H; exact False.elim H
  | true =>
    rw [g5, cond_true] at H
    refine xp_ok htr 8 (d + 4) 0 0 [] 139 32 [some (.ref 51), some (.int x1), some (.int x2), some (.int x3), some (.int x4), some (.int x5), some (.int x6), some (.int x7)] [] (hM p σ τ) ⟨(xn_in g5), ?_⟩
    show xv l Ω (d + 4) 0 0 139 46 [some (.ref 51), some (.int x1), some (.int x2), some (.int x3), some (.int x4), some (.int x5), some (.int x6), some (.int x7)] [.int x7, .ref 52] (hM p (xh_ui σ 52 (Int32.toNatClampNeg x7) x1) τ) r
    cases g6 : xn (x7 + 1) 280 with
    | false => rw [g6, cond_false] at H; exact False.elim H
    | true =>
      rw [g6, cond_true] at H
      refine xp_ok htr 8 (d + 4) 0 0 [] 139 46 [some (.ref 51), some (.int x1), some (.int x2), some (.int x3), some (.int x4), some (.int x5), some (.int x6), some (.int x7)] [.int x7, .ref 52] (hM p (xh_ui σ 52 (Int32.toNatClampNeg x7) x1) τ) ⟨(xn_in g6), ?_⟩
      show xv l Ω (d + 4) 0 0 139 57 [some (.ref 51), some (.int x1), some (.int x2), some (.int x3), some (.int x4), some (.int x5), some (.int x6), some (.int x7)] [.int 2, .int x7, .ref 52] (hM p (xh_ui (xh_ui σ 52 (Int32.toNatClampNeg x7) x1) 52 (Int32.toNatClampNeg (x7 + 1)) x2) τ) r
      cases g7 : xn (x7 + 2) 280 with
      | false => rw [g7, cond_false] at H; exact False.elim H
      | true =>
        rw [g7, cond_true] at H
        refine xp_ok htr 8 (d + 4) 0 0 [] 139 57 [some (.ref 51), some (.int x1), some (.int x2), some (.int x3), some (.int x4), some (.int x5), some (.int x6), some (.int x7)] [.int 2, .int x7, .ref 52] (hM p (xh_ui (xh_ui σ 52 (Int32.toNatClampNeg x7) x1) 52 (Int32.toNatClampNeg (x7 + 1)) x2) τ) ⟨(xn_in g7), ?_⟩
        show xv l Ω (d + 4) 0 0 139 68 [some (.ref 51), some (.int x1), some (.int x2), some (.int x3), some (.int x4), some (.int x5), some (.int x6), some (.int x7)] [.int (x7 + 3), .ref 52] (hM p (xh_ui (xh_ui (xh_ui σ 52 (Int32.toNatClampNeg x7) x1) 52 (Int32.toNatClampNeg (x7 + 1)) x2) 52 (Int32.toNatClampNeg (x7 + 2)) x3) τ) r
        cases g8 : xn (x7 + 3) 280 with
        | false => rw [g8, cond_false] at H; exact False.elim H
        | true =>
          rw [g8, cond_true] at H
          refine xp_ok htr 8 (d + 4) 0 0 [] 139 68 [some (.ref 51), some (.int x1), some (.int x2), some (.int x3), some (.int x4), some (.int x5), some (.int x6), some (.int x7)] [.int (x7 + 3), .ref 52] (hM p (xh_ui (xh_ui (xh_ui σ 52 (Int32.toNatClampNeg x7) x1) 52 (Int32.toNatClampNeg (x7 + 1)) x2) 52 (Int32.toNatClampNeg (x7 + 2)) x3) τ) ⟨(xn_in g8), ?_⟩
          show xv l Ω (d + 4) 0 0 139 81 [some (.ref 51), some (.int x1), some (.int x2), some (.int x3), some (.int x4), some (.int x5), some (.int x6), some (.int x7)] [.int x5, .int (x7 + 4), .ref 52] (hM p (xh_ui (xh_ui (xh_ui (xh_ui σ 52 (Int32.toNatClampNeg x7) x1) 52 (Int32.toNatClampNeg (x7 + 1)) x2) 52 (Int32.toNatClampNeg (x7 + 2)) x3) 52 (Int32.toNatClampNeg (x7 + 3)) x4) τ) r
          cases g9 : xn (x7 + 4) 280 with
          | false => rw [g9, cond_false] at H; exact False.elim H
          | true =>
            rw [g9, cond_true] at H
            cases g10 : xn (x7 + 5) 280 with
            | false => rw [g10, cond_false] at H; exact False.elim H
            | true =>
              rw [g10, cond_true] at H
              refine xp_ok htr 8 (d + 4) 0 0 [] 139 81 [some (.ref 51), some (.int x1), some (.int x2), some (.int x3), some (.int x4), some (.int x5), some (.int x6), some (.int x7)] [.int x5, .int (x7 + 4), .ref 52] (hM p (xh_ui (xh_ui (xh_ui (xh_ui σ 52 (Int32.toNatClampNeg x7) x1) 52 (Int32.toNatClampNeg (x7 + 1)) x2) 52 (Int32.toNatClampNeg (x7 + 2)) x3) 52 (Int32.toNatClampNeg (x7 + 3)) x4) τ) ⟨(xn_in g9), (xn_in g10), ?_⟩
              show xv l Ω (d + 4) 0 0 139 93 [some (.ref 51), some (.int x1), some (.int x2), some (.int x3), some (.int x4), some (.int x5), some (.int x6), some (.int x7)] [] (hM p (xh_ui (xh_ui (xh_ui (xh_ui (xh_ui (xh_ui σ 52 (Int32.toNatClampNeg x7) x1) 52 (Int32.toNatClampNeg (x7 + 1)) x2) 52 (Int32.toNatClampNeg (x7 + 2)) x3) 52 (Int32.toNatClampNeg (x7 + 3)) x4) 52 (Int32.toNatClampNeg (x7 + 4)) x5) 52 (Int32.toNatClampNeg (x7 + 5)) x6) τ) r
              cases q13 : g18 ((xh_ui (xh_ui (xh_ui (xh_ui (xh_ui (xh_ui σ 52 (Int32.toNatClampNeg x7) x1) 52 (Int32.toNatClampNeg (x7 + 1)) x2) 52 (Int32.toNatClampNeg (x7 + 2)) x3) 52 (Int32.toNatClampNeg (x7 + 3)) x4) 52 (Int32.toNatClampNeg (x7 + 4)) x5) 52 (Int32.toNatClampNeg (x7 + 5)) x6) 51 1) ((xh_ui (xh_ui (xh_ui (xh_ui (xh_ui (xh_ui σ 52 (Int32.toNatClampNeg x7) x1) 52 (Int32.toNatClampNeg (x7 + 1)) x2) 52 (Int32.toNatClampNeg (x7 + 2)) x3) 52 (Int32.toNatClampNeg (x7 + 3)) x4) 52 (Int32.toNatClampNeg (x7 + 4)) x5) 52 (Int32.toNatClampNeg (x7 + 5)) x6) 51 3) (xh_ui (xh_ui (xh_ui (xh_ui (xh_ui (xh_ui σ 52 (Int32.toNatClampNeg x7) x1) 52 (Int32.toNatClampNeg (x7 + 1)) x2) 52 (Int32.toNatClampNeg (x7 + 2)) x3) 52 (Int32.toNatClampNeg (x7 + 3)) x4) 52 (Int32.toNatClampNeg (x7 + 4)) x5) 52 (Int32.toNatClampNeg (x7 + 5)) x6) with
              | none => rw [q13] at H; exact False.elim H
              | some q130 =>
                obtain ⟨v11 | v11, s12⟩ := q130
                · rw [q13] at H; dsimp only at H
                  have hc := g18_run (Ω := Ω) htr d p τ ((xh_ui (xh_ui (xh_ui (xh_ui (xh_ui (xh_ui σ 52 (Int32.toNatClampNeg x7) x1) 52 (Int32.toNatClampNeg (x7 + 1)) x2) 52 (Int32.toNatClampNeg (x7 + 2)) x3) 52 (Int32.toNatClampNeg (x7 + 3)) x4) 52 (Int32.toNatClampNeg (x7 + 4)) x5) 52 (Int32.toNatClampNeg (x7 + 5)) x6) 51 1) ((xh_ui (xh_ui (xh_ui (xh_ui (xh_ui (xh_ui σ 52 (Int32.toNatClampNeg x7) x1) 52 (Int32.toNatClampNeg (x7 + 1)) x2) 52 (Int32.toNatClampNeg (x7 + 2)) x3) 52 (Int32.toNatClampNeg (x7 + 3)) x4) 52 (Int32.toNatClampNeg (x7 + 4)) x5) 52 (Int32.toNatClampNeg (x7 + 5)) x6) 51 3) (xh_ui (xh_ui (xh_ui (xh_ui (xh_ui (xh_ui σ 52 (Int32.toNatClampNeg x7) x1) 52 (Int32.toNatClampNeg (x7 + 1)) x2) 52 (Int32.toNatClampNeg (x7 + 2)) x3) 52 (Int32.toNatClampNeg (x7 + 3)) x4) 52 (Int32.toNatClampNeg (x7 + 4)) x5) 52 (Int32.toNatClampNeg (x7 + 5)) x6) q13
                  refine xp_ok htr 7 (d + 4) 0 0 [eC (some (.int v11)) (hM p s12 τ)] 139 93 [some (.ref 51), some (.int x1), some (.int x2), some (.int x3), some (.int x4), some (.int x5), some (.int x6), some (.int x7)] [] (hM p (xh_ui (xh_ui (xh_ui (xh_ui (xh_ui (xh_ui σ 52 (Int32.toNatClampNeg x7) x1) 52 (Int32.toNatClampNeg (x7 + 1)) x2) 52 (Int32.toNatClampNeg (x7 + 2)) x3) 52 (Int32.toNatClampNeg (x7 + 3)) x4) 52 (Int32.toNatClampNeg (x7 + 4)) x5) 52 (Int32.toNatClampNeg (x7 + 5)) x6) τ) ⟨hc, ?_⟩
                  show xv l Ω (d + 4) 0 0 139 106 [some (.ref 51), some (.int x1), some (.int x2), some (.int x3), some (.int x4), some (.int x5), some (.int x6), some (.int x7)] [.int v11, .ref 51] (hM p s12 τ) r
                  refine xp_ok htr 8 (d + 4) 0 0 [] 139 106 [some (.ref 51), some (.int x1), some (.int x2), some (.int x3), some (.int x4), some (.int x5), some (.int x6), some (.int x7)] [.int v11, .ref 51] (hM p s12 τ) ?_
                  show xv l Ω (d + 4) 0 0 139 122 [some (.ref 51), some (.int x1), some (.int x2), some (.int x3), some (.int x4), some (.int x5), some (.int x6), some (.int x7)] [.int ((xh_ui s12 51 3 v11) 51 3), .int (x7 + 6), .ref 52] (hM p (xh_ui s12 51 3 v11) τ) r
                  cases g14 : xn (x7 + 6) 280 with
                  | false => rw [g14, cond_false] at H; exact False.elim H
                  | true =>
                    rw [g14, cond_true] at H
                    exact xp_ok htr 8 (d + 4) 0 0 [] 139 122 [some (.ref 51), some (.int x1), some (.int x2), some (.int x3), some (.int x4), some (.int x5), some (.int x6), some (.int x7)] [.int ((xh_ui s12 51 3 v11) 51 3), .int (x7 + 6), .ref 52] (hM p (xh_ui s12 51 3 v11) τ) ⟨(xn_in g14), trivial, (Eq.symm H)⟩
                · rw [q13] at H; exact False.elim H
theorem g139_run {l : Launch} {Ω : xo_O} (htr : xH l) (d : Nat) (p : Nat) (τ : Nat → Nat → Int64) (a1 : Int32) (a2 : Int32) (a3 : Int32) (a4 : Int32) (a5 : Int32) (a6 : Int32) (σ : xS) {q : xQ} (hq : g139 a1 a2 a3 a4 a5 a6 σ = some q) : xv l Ω (d + 4) 0 0 139 0 (xs_loc (xm_l 139) [.ref 51, .int a1, .int a2, .int a3, .int a4, .int a5, .int a6]) [] (hM p σ τ) (xq_R true p τ q) := by
  have H : xo (xB true p τ (xq_R true p τ q)) (g139 a1 a2 a3 a4 a5 a6 σ) := by rw [hq]; exact rfl
  generalize xq_R true p τ q = r at H ⊢
  show xv l Ω (d + 4) 0 0 139 0 [some (.ref 51), some (.int a1), some (.int a2), some (.int a3), some (.int a4), some (.int a5), some (.int a6), none] [] (hM p σ τ) r
  unfold g139 at H
  cases q3 : g20 (σ 51 1) σ with
  | none => rw [q3] at H; exact False.elim H
  | some q30 =>
    obtain ⟨v1 | v1, s2⟩ := q30
    · rw [q3] at H; dsimp only at H
      have hc := g20_run (Ω := Ω) htr (d + 2) p τ (σ 51 1) σ q3
      refine xp_ok htr 3 (d + 4) 0 0 [eC (some (.int v1)) (hM p s2 τ)] 139 0 [some (.ref 51), some (.int a1), some (.int a2), some (.int a3), some (.int a4), some (.int a5), some (.int a6), none] [] (hM p σ τ) ⟨hc, ?_⟩
      show xv l Ω (d + 4) 0 0 139 7 [some (.ref 51), some (.int a1), some (.int a2), some (.int a3), some (.int a4), some (.int a5), some (.int a6), none] [.int v1] (hM p s2 τ) r
      by_cases h4 : (s2 51 1) < 40
      · rw [if_pos h4] at H
        refine xp_ok htr 5 (d + 4) 0 0 [eB true] 139 7 [some (.ref 51), some (.int a1), some (.int a2), some (.int a3), some (.int a4), some (.int a5), some (.int a6), none] [.int v1] (hM p s2 τ) ⟨h4, ?_⟩
        show xv l Ω (d + 4) 0 0 139 32 [some (.ref 51), some (.int a1), some (.int a2), some (.int a3), some (.int a4), some (.int a5), some (.int a6), some (.int v1)] [] (hM p s2 τ) r
        exact xv_sub (L' := [some (.ref 51), some (.int a1), some (.int a2), some (.int a3), some (.int a4), some (.int a5), some (.int a6), some (.int v1)]) ⟨rfl, ⟨rfl, ⟨rfl, ⟨rfl, ⟨rfl, ⟨rfl, ⟨rfl, ⟨rfl, trivial⟩⟩⟩⟩⟩⟩⟩⟩ (g139_32_ok htr d p τ a1 a2 a3 a4 a5 a6 v1 s2 r H)
      · rw [if_neg h4] at H
        refine xp_ok htr 5 (d + 4) 0 0 [eB false] 139 7 [some (.ref 51), some (.int a1), some (.int a2), some (.int a3), some (.int a4), some (.int a5), some (.int a6), none] [.int v1] (hM p s2 τ) ⟨h4, ?_⟩
        show xv l Ω (d + 4) 0 0 139 18 [some (.ref 51), some (.int a1), some (.int a2), some (.int a3), some (.int a4), some (.int a5), some (.int a6), some (.int v1)] [] (hM p s2 τ) r
        cases g15 : xn (v1 + 6) 280 with
        | false => rw [g15, cond_false] at H; exact False.elim H
        | true =>
          rw [g15, cond_true] at H
          refine xp_ok htr 8 (d + 4) 0 0 [] 139 18 [some (.ref 51), some (.int a1), some (.int a2), some (.int a3), some (.int a4), some (.int a5), some (.int a6), some (.int v1)] [] (hM p s2 τ) ⟨(xn_in g15), ?_⟩
          show xv l Ω (d + 4) 0 0 139 32 [some (.ref 51), some (.int a1), some (.int a2), some (.int a3), some (.int a4), some (.int a5), some (.int a6), some (.int v1)] [] (hM p (xh_ui s2 51 2 (s2 52 (Int32.toNatClampNeg (v1 + 6)))) τ) r
          exact xv_sub (L' := [some (.ref 51), some (.int a1), some (.int a2), some (.int a3), some (.int a4), some (.int a5), some (.int a6), some (.int v1)]) ⟨rfl, ⟨rfl, ⟨rfl, ⟨rfl, ⟨rfl, ⟨rfl, ⟨rfl, ⟨rfl, trivial⟩⟩⟩⟩⟩⟩⟩⟩ (g139_32_ok htr d p τ a1 a2 a3 a4 a5 a6 v1 (xh_ui s2 51 2 (s2 52 (Int32.toNatClampNeg (v1 + 6)))) r H)
    · rw [q3] at H; exact False.elim H
/- AccessDesk$Things.perform -/
def g140_30 (x2 : Int32) (σ : xS) : Option xQ := (bif xn x2 16 then some ((Sum.inl (σ 19 (Int32.toNatClampNeg x2)), σ)) else none)
def g140 (a1 : Int32) (a2 : Int32) (a3 : Int32) (σ : xS) : xO := (if a1 = 1 then (bif xn a2 16 then g140_30 a2 (xh_ui σ 19 (Int32.toNatClampNeg a2) a3) else none) else (if a1 = 2 then (bif xn a2 16 then g140_30 a2 (xh_ui σ 19 (Int32.toNatClampNeg a2) ((σ 19 (Int32.toNatClampNeg a2)) + a3)) else none) else g140_30 a2 σ))
theorem g140_30_ok {l : Launch} {Ω : xo_O} (htr : xH l) (d : Nat) (p : Nat) (τ : Nat → Nat → Int64) (x2 : Int32) (σ : xS) (r : xv_R) (H : xo (xB false p τ r) (g140_30 x2 σ)) : xv l Ω d 0 0 140 30 [some (.ref 15), none, some (.int x2), none] [] (hM p σ τ) r := by
  unfold g140_30 at H
  cases g3 : xn x2 16 with
  | false => rw [g3, cond_false] at H; exact False.elim H
  | true =>
    rw [g3, cond_true] at H
    exact xp_ok htr 5 d 0 0 [] 140 30 [some (.ref 15), none, some (.int x2), none] [] (hM p σ τ) ⟨(xn_in g3), trivial, (Eq.symm H)⟩
theorem g140_run {l : Launch} {Ω : xo_O} (htr : xH l) (d : Nat) (p : Nat) (τ : Nat → Nat → Int64) (a1 : Int32) (a2 : Int32) (a3 : Int32) (σ : xS) {q : xQ} (hq : g140 a1 a2 a3 σ = some q) : xv l Ω d 0 0 140 0 (xs_loc (xm_l 140) [.ref 15, .int a1, .int a2, .int a3]) [] (hM p σ τ) (xq_R false p τ q) := by
  have H : xo (xB false p τ (xq_R false p τ q)) (g140 a1 a2 a3 σ) := by rw [hq]; exact rfl
  generalize xq_R false p τ q = r at H ⊢
  show xv l Ω d 0 0 140 0 [some (.ref 15), some (.int a1), some (.int a2), some (.int a3)] [] (hM p σ τ) r
  unfold g140 at H
  by_cases h1 : a1 = 1
  · rw [if_pos h1] at H
    refine xp_ok htr 3 d 0 0 [eB false] 140 0 [some (.ref 15), some (.int a1), some (.int a2), some (.int a3)] [] (hM p σ τ) ⟨h1, ?_⟩
    show xv l Ω d 0 0 140 5 [some (.ref 15), some (.int a1), some (.int a2), some (.int a3)] [] (hM p σ τ) r
    cases g2 : xn a2 16 with
    | false => rw [g2, cond_false] at H; exact False.elim H
    | true =>
      rw [g2, cond_true] at H
      refine xp_ok htr 6 d 0 0 [] 140 5 [some (.ref 15), some (.int a1), some (.int a2), some (.int a3)] [] (hM p σ τ) ⟨(xn_in g2), ?_⟩
      show xv l Ω d 0 0 140 30 [some (.ref 15), some (.int a1), some (.int a2), some (.int a3)] [] (hM p (xh_ui σ 19 (Int32.toNatClampNeg a2) a3) τ) r
      exact xv_sub (L' := [some (.ref 15), none, some (.int a2), none]) ⟨rfl, ⟨rfl, trivial⟩⟩ (g140_30_ok htr d p τ a2 (xh_ui σ 19 (Int32.toNatClampNeg a2) a3) r H)
  · rw [if_neg h1] at H
    refine xp_ok htr 3 d 0 0 [eB true] 140 0 [some (.ref 15), some (.int a1), some (.int a2), some (.int a3)] [] (hM p σ τ) ⟨h1, ?_⟩
    show xv l Ω d 0 0 140 15 [some (.ref 15), some (.int a1), some (.int a2), some (.int a3)] [] (hM p σ τ) r
    by_cases h4 : a1 = 2
    · rw [if_pos h4] at H
      refine xp_ok htr 3 d 0 0 [eB false] 140 15 [some (.ref 15), some (.int a1), some (.int a2), some (.int a3)] [] (hM p σ τ) ⟨h4, ?_⟩
      show xv l Ω d 0 0 140 20 [some (.ref 15), some (.int a1), some (.int a2), some (.int a3)] [] (hM p σ τ) r
      cases g5 : xn a2 16 with
      | false => rw [g5, cond_false] at H; exact False.elim H
      | true =>
        rw [g5, cond_true] at H
        refine xp_ok htr 8 d 0 0 [] 140 20 [some (.ref 15), some (.int a1), some (.int a2), some (.int a3)] [] (hM p σ τ) ⟨(xn_in g5), (xn_in g5), ?_⟩
        show xv l Ω d 0 0 140 30 [some (.ref 15), some (.int a1), some (.int a2), some (.int a3)] [] (hM p (xh_ui σ 19 (Int32.toNatClampNeg a2) ((σ 19 (Int32.toNatClampNeg a2)) + a3)) τ) r
        exact xv_sub (L' := [some (.ref 15), none, some (.int a2), none]) ⟨rfl, ⟨rfl, trivial⟩⟩ (g140_30_ok htr d p τ a2 (xh_ui σ 19 (Int32.toNatClampNeg a2) ((σ 19 (Int32.toNatClampNeg a2)) + a3)) r H)
    · rw [if_neg h4] at H
      refine xp_ok htr 3 d 0 0 [eB true] 140 15 [some (.ref 15), some (.int a1), some (.int a2), some (.int a3)] [] (hM p σ τ) ⟨h4, ?_⟩
      show xv l Ω d 0 0 140 30 [some (.ref 15), some (.int a1), some (.int a2), some (.int a3)] [] (hM p σ τ) r
      exact xv_sub (L' := [some (.ref 15), none, some (.int a2), none]) ⟨rfl, ⟨rfl, trivial⟩⟩ (g140_30_ok htr d p τ a2 σ r H)
/- AccessDesk.request -/
def g136_133 (p : Nat) (x4 : Int32) (x5 : Int32) (x6 : Int32) (x10 : Int32) (k1 : Int32) (k2 : Int32) (k3 : Int32) (k4 : Int32) (k5 : Int32) (k6 : Int32) (σ : xS) : Option xQ := (match g139 k1 k2 k3 k4 k5 k6 σ with | some (Sum.inl v23, s24) => (if x10 = 0 then some ((Sum.inr 2, s24)) else (match g140 x5 x6 x4 s24 with | some (Sum.inl v27, s28) => some ((Sum.inl v27, s28)) | some (Sum.inr v27, s28) => none | none => none)) | some (Sum.inr v23, s24) => none | none => none)
def g136_108 (p : Nat) (x1 : Int32) (x4 : Int32) (x5 : Int32) (x6 : Int32) (x8 : Int32) (x9 : Int32) (k0 : Int32) (σ : xS) : Option xQ := (if k0 = 0 then g136_133 p x4 x5 x6 k0 x1 x5 x6 x8 x9 0 σ else g136_133 p x4 x5 x6 k0 x1 x5 x6 x8 x9 1 σ)
def g136_107 (p : Nat) (x1 : Int32) (x4 : Int32) (x5 : Int32) (x6 : Int32) (x8 : Int32) (x9 : Int32) (σ : xS) : Option xQ := g136_108 p x1 x4 x5 x6 x8 x9 0 σ
def g136_31 (p : Nat) (x1 : Int32) (x2 : Int32) (x3 : Int32) (x4 : Int32) (k0 : Int32) (σ : xS) : Option xQ := (match g26 k0 σ with | some (Sum.inl v5, s6) => (match g44 x1 s6 with | some (Sum.inl v8, s9) => (match g31 v8 s9 with | some (Sum.inl v11, s12) => (match g113 p x1 (x2 / 16) (x2 - x2 / 16 * 16) x3 s12 with | some (Sum.inl v14, s15) => (if (v14 - v14 / 10 * 10) = 1 then (match g137 x1 (v14 / 10) x3 s15 with | some (Sum.inl v18, s19) => (if v18 = 0 then g136_107 p x1 x4 (x2 / 16) (x2 - x2 / 16 * 16) (v14 - v14 / 10 * 10) (v14 / 10) s19 else g136_108 p x1 x4 (x2 / 16) (x2 - x2 / 16 * 16) (v14 - v14 / 10 * 10) (v14 / 10) 1 s19) | some (Sum.inr v18, s19) => none | none => none) else g136_107 p x1 x4 (x2 / 16) (x2 - x2 / 16 * 16) (v14 - v14 / 10 * 10) (v14 / 10) s15) | some (Sum.inr v14, s15) => none | none => none) | some (Sum.inr v11, s12) => some ((Sum.inr v11, s12)) | none => none) | some (Sum.inr v8, s9) => none | none => none) | some (Sum.inr v5, s6) => some ((Sum.inr v5, s6)) | none => none)
def g136_30 (p : Nat) (x1 : Int32) (x2 : Int32) (x3 : Int32) (x4 : Int32) (σ : xS) : Option xQ := g136_31 p x1 x2 x3 x4 0 σ
def g136 (p : Nat) (a1 : Int32) (a2 : Int32) (a3 : Int32) (a4 : Int32) (σ : xS) : xO := (match g63 a1 σ with | some (Sum.inl v1, s2) => (if v1 = 0 then g136_30 p a1 a2 a3 a4 s2 else (match g25 a2 160 s2 with | some (Sum.inl v30, s31) => (if v30 = 0 then g136_30 p a1 a2 a3 a4 s31 else (match g25 a3 24 s31 with | some (Sum.inl v34, s35) => (if v34 = 0 then g136_30 p a1 a2 a3 a4 s35 else g136_31 p a1 a2 a3 a4 1 s35) | some (Sum.inr v34, s35) => none | none => none)) | some (Sum.inr v30, s31) => none | none => none)) | some (Sum.inr v1, s2) => none | none => none)
theorem g136_133_ok_23 {l : Launch} {Ω : xo_O} (htr : xH l) (d : Nat) (τ : Nat → Nat → Int64) (x4 : Int32) (x5 : Int32) (x6 : Int32) (x10 : Int32) (k1 : Int32) (k2 : Int32) (k3 : Int32) (k4 : Int32) (k5 : Int32) (k6 : Int32) (σ : xS) (r : xv_R) (H : xo (xB false 23 τ r) (g136_133 23 x4 x5 x6 x10 k1 k2 k3 k4 k5 k6 σ)) : xv l Ω (d + 7) 1 6 136 133 [some (.ref 0), none, none, none, some (.int x4), some (.int x5), some (.int x6), none, none, none, some (.int x10)] [.int k6, .int k5, .int k4, .int k3, .int k2, .int k1, .ref 51] (hM 23 σ τ) r := by
  unfold g136_133 at H
  cases q25 : g139 k1 k2 k3 k4 k5 k6 σ with
  | none => rw [q25] at H; exact False.elim H
  | some q250 =>
    obtain ⟨v23 | v23, s24⟩ := q250
    · rw [q25] at H; dsimp only at H
      have hc := g139_run (Ω := Ω) htr (d + 2) 23 τ k1 k2 k3 k4 k5 k6 σ q25
      refine xp_ok htr 1 (d + 7) 1 6 [eC none (hM 23 s24 τ)] 136 133 [some (.ref 0), none, none, none, some (.int x4), some (.int x5), some (.int x6), none, none, none, some (.int x10)] [.int k6, .int k5, .int k4, .int k3, .int k2, .int k1, .ref 51] (hM 23 σ τ) ⟨hc, ?_⟩
      show xv l Ω (d + 7) 1 6 136 136 [some (.ref 0), none, none, none, some (.int x4), some (.int x5), some (.int x6), none, none, none, some (.int x10)] [] (hM 23 s24 τ) r
      by_cases h26 : x10 = 0
      · rw [if_pos h26] at H
        refine xp_ok htr 2 (d + 7) 1 6 [eB false] 136 136 [some (.ref 0), none, none, none, some (.int x4), some (.int x5), some (.int x6), none, none, none, some (.int x10)] [] (hM 23 s24 τ) ⟨h26, ?_⟩
        show xv l Ω (d + 7) 1 6 136 141 [some (.ref 0), none, none, none, some (.int x4), some (.int x5), some (.int x6), none, none, none, some (.int x10)] [] (hM 23 s24 τ) r
        exact xp_ok htr 1 (d + 7) 1 6 [] 136 141 [some (.ref 0), none, none, none, some (.int x4), some (.int x5), some (.int x6), none, none, none, some (.int x10)] [] (hM 23 s24 τ) (Eq.symm H)
      · rw [if_neg h26] at H
        refine xp_ok htr 2 (d + 7) 1 6 [eB true] 136 136 [some (.ref 0), none, none, none, some (.int x4), some (.int x5), some (.int x6), none, none, none, some (.int x10)] [] (hM 23 s24 τ) ⟨h26, ?_⟩
        show xv l Ω (d + 7) 1 6 136 151 [some (.ref 0), none, none, none, some (.int x4), some (.int x5), some (.int x6), none, none, none, some (.int x10)] [] (hM 23 s24 τ) r
        cases q29 : g140 x5 x6 x4 s24 with
        | none => rw [q29] at H; exact False.elim H
        | some q290 =>
          obtain ⟨v27 | v27, s28⟩ := q290
          · rw [q29] at H; dsimp only at H
            have hc := g140_run (Ω := Ω) htr (d + 6) 23 τ x5 x6 x4 s24 q29
            refine xp_ok htr 6 (d + 7) 1 6 [eC (some (.int v27)) (hM 23 s28 τ)] 136 151 [some (.ref 0), none, none, none, some (.int x4), some (.int x5), some (.int x6), none, none, none, some (.int x10)] [] (hM 23 s24 τ) ⟨hc, ?_⟩
            show xv l Ω (d + 7) 1 6 136 164 [some (.ref 0), none, none, none, some (.int x4), some (.int x5), some (.int x6), none, none, none, some (.int x10)] [.int v27] (hM 23 s28 τ) r
            exact xp_ok htr 1 (d + 7) 1 6 [] 136 164 [some (.ref 0), none, none, none, some (.int x4), some (.int x5), some (.int x6), none, none, none, some (.int x10)] [.int v27] (hM 23 s28 τ) ⟨trivial, (Eq.symm H)⟩
          · rw [q29] at H; exact False.elim H
    · rw [q25] at H; exact False.elim H
theorem g136_108_ok_23 {l : Launch} {Ω : xo_O} (htr : xH l) (d : Nat) (τ : Nat → Nat → Int64) (x1 : Int32) (x4 : Int32) (x5 : Int32) (x6 : Int32) (x8 : Int32) (x9 : Int32) (k0 : Int32) (σ : xS) (r : xv_R) (H : xo (xB false 23 τ r) (g136_108 23 x1 x4 x5 x6 x8 x9 k0 σ)) : xv l Ω (d + 7) 1 6 136 108 [some (.ref 0), some (.int x1), none, none, some (.int x4), some (.int x5), some (.int x6), none, some (.int x8), some (.int x9), none] [.int k0] (hM 23 σ τ) r := by
  unfold g136_108 at H
  refine xp_ok htr 8 (d + 7) 1 6 [] 136 108 [some (.ref 0), some (.int x1), none, none, some (.int x4), some (.int x5), some (.int x6), none, some (.int x8), some (.int x9), none] [.int k0] (hM 23 σ τ) ?_
  show xv l Ω (d + 7) 1 6 136 123 [some (.ref 0), some (.int x1), none, none, some (.int x4), some (.int x5), some (.int x6), none, some (.int x8), some (.int x9), some (.int k0)] [.int x9, .int x8, .int x6, .int x5, .int x1, .ref 51] (hM 23 σ τ) r
  by_cases h22 : k0 = 0
  · rw [if_pos h22] at H
    refine xp_ok htr 2 (d + 7) 1 6 [eB true] 136 123 [some (.ref 0), some (.int x1), none, none, some (.int x4), some (.int x5), some (.int x6), none, some (.int x8), some (.int x9), some (.int k0)] [.int x9, .int x8, .int x6, .int x5, .int x1, .ref 51] (hM 23 σ τ) ⟨h22, ?_⟩
    show xv l Ω (d + 7) 1 6 136 132 [some (.ref 0), some (.int x1), none, none, some (.int x4), some (.int x5), some (.int x6), none, some (.int x8), some (.int x9), some (.int k0)] [.int x9, .int x8, .int x6, .int x5, .int x1, .ref 51] (hM 23 σ τ) r
    refine xp_ok htr 1 (d + 7) 1 6 [] 136 132 [some (.ref 0), some (.int x1), none, none, some (.int x4), some (.int x5), some (.int x6), none, some (.int x8), some (.int x9), some (.int k0)] [.int x9, .int x8, .int x6, .int x5, .int x1, .ref 51] (hM 23 σ τ) ?_
    show xv l Ω (d + 7) 1 6 136 133 [some (.ref 0), some (.int x1), none, none, some (.int x4), some (.int x5), some (.int x6), none, some (.int x8), some (.int x9), some (.int k0)] [.int 0, .int x9, .int x8, .int x6, .int x5, .int x1, .ref 51] (hM 23 σ τ) r
    exact xv_sub (L' := [some (.ref 0), none, none, none, some (.int x4), some (.int x5), some (.int x6), none, none, none, some (.int k0)]) ⟨rfl, ⟨rfl, ⟨rfl, ⟨rfl, ⟨rfl, trivial⟩⟩⟩⟩⟩ (g136_133_ok_23 htr d  τ x4 x5 x6 k0 x1 x5 x6 x8 x9 0 σ r H)
  · rw [if_neg h22] at H
    refine xp_ok htr 2 (d + 7) 1 6 [eB false] 136 123 [some (.ref 0), some (.int x1), none, none, some (.int x4), some (.int x5), some (.int x6), none, some (.int x8), some (.int x9), some (.int k0)] [.int x9, .int x8, .int x6, .int x5, .int x1, .ref 51] (hM 23 σ τ) ⟨h22, ?_⟩
    show xv l Ω (d + 7) 1 6 136 128 [some (.ref 0), some (.int x1), none, none, some (.int x4), some (.int x5), some (.int x6), none, some (.int x8), some (.int x9), some (.int k0)] [.int x9, .int x8, .int x6, .int x5, .int x1, .ref 51] (hM 23 σ τ) r
    refine xp_ok htr 2 (d + 7) 1 6 [] 136 128 [some (.ref 0), some (.int x1), none, none, some (.int x4), some (.int x5), some (.int x6), none, some (.int x8), some (.int x9), some (.int k0)] [.int x9, .int x8, .int x6, .int x5, .int x1, .ref 51] (hM 23 σ τ) ?_
    show xv l Ω (d + 7) 1 6 136 133 [some (.ref 0), some (.int x1), none, none, some (.int x4), some (.int x5), some (.int x6), none, some (.int x8), some (.int x9), some (.int k0)] [.int 1, .int x9, .int x8, .int x6, .int x5, .int x1, .ref 51] (hM 23 σ τ) r
    exact xv_sub (L' := [some (.ref 0), none, none, none, some (.int x4), some (.int x5), some (.int x6), none, none, none, some (.int k0)]) ⟨rfl, ⟨rfl, ⟨rfl, ⟨rfl, ⟨rfl, trivial⟩⟩⟩⟩⟩ (g136_133_ok_23 htr d  τ x4 x5 x6 k0 x1 x5 x6 x8 x9 1 σ r H)
theorem g136_107_ok_23 {l : Launch} {Ω : xo_O} (htr : xH l) (d : Nat) (τ : Nat → Nat → Int64) (x1 : Int32) (x4 : Int32) (x5 : Int32) (x6 : Int32) (x8 : Int32) (x9 : Int32) (σ : xS) (r : xv_R) (H : xo (xB false 23 τ r) (g136_107 23 x1 x4 x5 x6 x8 x9 σ)) : xv l Ω (d + 7) 1 6 136 107 [some (.ref 0), some (.int x1), none, none, some (.int x4), some (.int x5), some (.int x6), none, some (.int x8), some (.int x9), none] [] (hM 23 σ τ) r := by
  unfold g136_107 at H
  refine xp_ok htr 1 (d + 7) 1 6 [] 136 107 [some (.ref 0), some (.int x1), none, none, some (.int x4), some (.int x5), some (.int x6), none, some (.int x8), some (.int x9), none] [] (hM 23 σ τ) ?_
  show xv l Ω (d + 7) 1 6 136 108 [some (.ref 0), some (.int x1), none, none, some (.int x4), some (.int x5), some (.int x6), none, some (.int x8), some (.int x9), none] [.int 0] (hM 23 σ τ) r
  exact xv_sub (L' := [some (.ref 0), some (.int x1), none, none, some (.int x4), some (.int x5), some (.int x6), none, some (.int x8), some (.int x9), none]) ⟨rfl, ⟨rfl, ⟨rfl, ⟨rfl, ⟨rfl, ⟨rfl, ⟨rfl, trivial⟩⟩⟩⟩⟩⟩⟩ (g136_108_ok_23 htr d  τ x1 x4 x5 x6 x8 x9 0 σ r H)
theorem g136_31_ok_23 {l : Launch} {Ω : xo_O} (htr : xH l) (d : Nat) (τ : Nat → Nat → Int64) (x1 : Int32) (x2 : Int32) (x3 : Int32) (x4 : Int32) (k0 : Int32) (σ : xS) (r : xv_R) (H : xo (xB false 23 τ r) (g136_31 23 x1 x2 x3 x4 k0 σ)) : xv l Ω (d + 7) 3 18 136 31 [some (.ref 0), some (.int x1), some (.int x2), some (.int x3), some (.int x4), none, none, none, none, none, none] [.int k0] (hM 23 σ τ) r := by
  unfold g136_31 at H
  cases q7 : g26 k0 σ with
  | none => rw [q7] at H; exact False.elim H
  | some q70 =>
    obtain ⟨v5 | v5, s6⟩ := q70
    · rw [q7] at H; dsimp only at H
      have hc := g26_run (Ω := Ω) htr d 23 τ k0 σ q7
      refine xp_ok htr 1 (d + 7) 3 18 [eN none (hM 23 s6 τ) 1 6] 136 31 [some (.ref 0), some (.int x1), some (.int x2), some (.int x3), some (.int x4), none, none, none, none, none, none] [.int k0] (hM 23 σ τ) ⟨hc, ?_⟩
      show xv l Ω (d + 7) 2 12 136 34 [some (.ref 0), some (.int x1), some (.int x2), some (.int x3), some (.int x4), none, none, none, none, none, none] [] (hM 23 s6 τ) r
      cases q10 : g44 x1 s6 with
      | none => rw [q10] at H; exact False.elim H
      | some q100 =>
        obtain ⟨v8 | v8, s9⟩ := q100
        · rw [q10] at H; dsimp only at H
          have hc := g44_run (Ω := Ω) htr (d + 6) 23 τ x1 s6 q10
          refine xp_ok htr 4 (d + 7) 2 12 [eC (some (.int v8)) (hM 23 s9 τ)] 136 34 [some (.ref 0), some (.int x1), some (.int x2), some (.int x3), some (.int x4), none, none, none, none, none, none] [] (hM 23 s6 τ) ⟨hc, ?_⟩
          show xv l Ω (d + 7) 2 12 136 42 [some (.ref 0), some (.int x1), some (.int x2), some (.int x3), some (.int x4), none, none, none, none, none, none] [.int v8] (hM 23 s9 τ) r
          cases q13 : g31 v8 s9 with
          | none => rw [q13] at H; exact False.elim H
          | some q130 =>
            obtain ⟨v11 | v11, s12⟩ := q130
            · rw [q13] at H; dsimp only at H
              have hc := g31_run (Ω := Ω) htr d 23 τ v8 s9 q13
              refine xp_ok htr 1 (d + 7) 2 12 [eN none (hM 23 s12 τ) 1 6] 136 42 [some (.ref 0), some (.int x1), some (.int x2), some (.int x3), some (.int x4), none, none, none, none, none, none] [.int v8] (hM 23 s9 τ) ⟨hc, ?_⟩
              show xv l Ω (d + 7) 1 6 136 45 [some (.ref 0), some (.int x1), some (.int x2), some (.int x3), some (.int x4), none, none, none, none, none, none] [] (hM 23 s12 τ) r
              refine xp_ok htr 8 (d + 7) 1 6 [] 136 45 [some (.ref 0), some (.int x1), some (.int x2), some (.int x3), some (.int x4), none, none, none, none, none, none] [] (hM 23 s12 τ) ⟨(by decide), (by decide), ?_⟩
              show xv l Ω (d + 7) 1 6 136 57 [some (.ref 0), some (.int x1), some (.int x2), some (.int x3), some (.int x4), some (.int (x2 / 16)), some (.int (x2 - x2 / 16 * 16)), none, none, none, none] [] (hM 23 s12 τ) r
              cases q16 : g113 23 x1 (x2 / 16) (x2 - x2 / 16 * 16) x3 s12 with
              | none => rw [q16] at H; exact False.elim H
              | some q160 =>
                obtain ⟨v14 | v14, s15⟩ := q160
                · rw [q16] at H; dsimp only at H
                  have hc := g113_run_23 (Ω := Ω) htr d  τ x1 (x2 / 16) (x2 - x2 / 16 * 16) x3 s12 q16
                  refine xp_ok htr 6 (d + 7) 1 6 [eC (some (.int v14)) (hM 23 s15 τ)] 136 57 [some (.ref 0), some (.int x1), some (.int x2), some (.int x3), some (.int x4), some (.int (x2 / 16)), some (.int (x2 - x2 / 16 * 16)), none, none, none, none] [] (hM 23 s12 τ) ⟨hc, ?_⟩
                  show xv l Ω (d + 7) 1 6 136 67 [some (.ref 0), some (.int x1), some (.int x2), some (.int x3), some (.int x4), some (.int (x2 / 16)), some (.int (x2 - x2 / 16 * 16)), none, none, none, none] [.int v14] (hM 23 s15 τ) r
                  refine xp_ok htr 8 (d + 7) 1 6 [] 136 67 [some (.ref 0), some (.int x1), some (.int x2), some (.int x3), some (.int x4), some (.int (x2 / 16)), some (.int (x2 - x2 / 16 * 16)), none, none, none, none] [.int v14] (hM 23 s15 τ) ⟨(by decide), (by decide), ?_⟩
                  show xv l Ω (d + 7) 1 6 136 81 [some (.ref 0), some (.int x1), some (.int x2), some (.int x3), some (.int x4), some (.int (x2 / 16)), some (.int (x2 - x2 / 16 * 16)), some (.int v14), some (.int (v14 - v14 / 10 * 10)), none, none] [.int (v14 / 10)] (hM 23 s15 τ) r
                  by_cases h17 : (v14 - v14 / 10 * 10) = 1
                  · rw [if_pos h17] at H
                    refine xp_ok htr 4 (d + 7) 1 6 [eB false] 136 81 [some (.ref 0), some (.int x1), some (.int x2), some (.int x3), some (.int x4), some (.int (x2 / 16)), some (.int (x2 - x2 / 16 * 16)), some (.int v14), some (.int (v14 - v14 / 10 * 10)), none, none] [.int (v14 / 10)] (hM 23 s15 τ) ⟨h17, ?_⟩
                    show xv l Ω (d + 7) 1 6 136 89 [some (.ref 0), some (.int x1), some (.int x2), some (.int x3), some (.int x4), some (.int (x2 / 16)), some (.int (x2 - x2 / 16 * 16)), some (.int v14), some (.int (v14 - v14 / 10 * 10)), some (.int (v14 / 10)), none] [] (hM 23 s15 τ) r
                    cases q20 : g137 x1 (v14 / 10) x3 s15 with
                    | none => rw [q20] at H; exact False.elim H
                    | some q200 =>
                      obtain ⟨v18 | v18, s19⟩ := q200
                      · rw [q20] at H; dsimp only at H
                        have hc := g137_run (Ω := Ω) htr (d + 5) 23 τ x1 (v14 / 10) x3 s15 q20
                        refine xp_ok htr 6 (d + 7) 1 6 [eC (some (.int v18)) (hM 23 s19 τ)] 136 89 [some (.ref 0), some (.int x1), some (.int x2), some (.int x3), some (.int x4), some (.int (x2 / 16)), some (.int (x2 - x2 / 16 * 16)), some (.int v14), some (.int (v14 - v14 / 10 * 10)), some (.int (v14 / 10)), none] [] (hM 23 s15 τ) ⟨hc, ?_⟩
                        show xv l Ω (d + 7) 1 6 136 100 [some (.ref 0), some (.int x1), some (.int x2), some (.int x3), some (.int x4), some (.int (x2 / 16)), some (.int (x2 - x2 / 16 * 16)), some (.int v14), some (.int (v14 - v14 / 10 * 10)), some (.int (v14 / 10)), none] [.int v18] (hM 23 s19 τ) r
                        by_cases h21 : v18 = 0
                        · rw [if_pos h21] at H
                          refine xp_ok htr 1 (d + 7) 1 6 [eB true] 136 100 [some (.ref 0), some (.int x1), some (.int x2), some (.int x3), some (.int x4), some (.int (x2 / 16)), some (.int (x2 - x2 / 16 * 16)), some (.int v14), some (.int (v14 - v14 / 10 * 10)), some (.int (v14 / 10)), none] [.int v18] (hM 23 s19 τ) ⟨h21, ?_⟩
                          show xv l Ω (d + 7) 1 6 136 107 [some (.ref 0), some (.int x1), some (.int x2), some (.int x3), some (.int x4), some (.int (x2 / 16)), some (.int (x2 - x2 / 16 * 16)), some (.int v14), some (.int (v14 - v14 / 10 * 10)), some (.int (v14 / 10)), none] [] (hM 23 s19 τ) r
                          exact xv_sub (L' := [some (.ref 0), some (.int x1), none, none, some (.int x4), some (.int (x2 / 16)), some (.int (x2 - x2 / 16 * 16)), none, some (.int (v14 - v14 / 10 * 10)), some (.int (v14 / 10)), none]) ⟨rfl, ⟨rfl, ⟨rfl, ⟨rfl, ⟨rfl, ⟨rfl, ⟨rfl, trivial⟩⟩⟩⟩⟩⟩⟩ (g136_107_ok_23 htr d  τ x1 x4 (x2 / 16) (x2 - x2 / 16 * 16) (v14 - v14 / 10 * 10) (v14 / 10) s19 r H)
                        · rw [if_neg h21] at H
                          refine xp_ok htr 1 (d + 7) 1 6 [eB false] 136 100 [some (.ref 0), some (.int x1), some (.int x2), some (.int x3), some (.int x4), some (.int (x2 / 16)), some (.int (x2 - x2 / 16 * 16)), some (.int v14), some (.int (v14 - v14 / 10 * 10)), some (.int (v14 / 10)), none] [.int v18] (hM 23 s19 τ) ⟨h21, ?_⟩
                          show xv l Ω (d + 7) 1 6 136 103 [some (.ref 0), some (.int x1), some (.int x2), some (.int x3), some (.int x4), some (.int (x2 / 16)), some (.int (x2 - x2 / 16 * 16)), some (.int v14), some (.int (v14 - v14 / 10 * 10)), some (.int (v14 / 10)), none] [] (hM 23 s19 τ) r
                          refine xp_ok htr 2 (d + 7) 1 6 [] 136 103 [some (.ref 0), some (.int x1), some (.int x2), some (.int x3), some (.int x4), some (.int (x2 / 16)), some (.int (x2 - x2 / 16 * 16)), some (.int v14), some (.int (v14 - v14 / 10 * 10)), some (.int (v14 / 10)), none] [] (hM 23 s19 τ) ?_
                          show xv l Ω (d + 7) 1 6 136 108 [some (.ref 0), some (.int x1), some (.int x2), some (.int x3), some (.int x4), some (.int (x2 / 16)), some (.int (x2 - x2 / 16 * 16)), some (.int v14), some (.int (v14 - v14 / 10 * 10)), some (.int (v14 / 10)), none] [.int 1] (hM 23 s19 τ) r
                          exact xv_sub (L' := [some (.ref 0), some (.int x1), none, none, some (.int x4), some (.int (x2 / 16)), some (.int (x2 - x2 / 16 * 16)), none, some (.int (v14 - v14 / 10 * 10)), some (.int (v14 / 10)), none]) ⟨rfl, ⟨rfl, ⟨rfl, ⟨rfl, ⟨rfl, ⟨rfl, ⟨rfl, trivial⟩⟩⟩⟩⟩⟩⟩ (g136_108_ok_23 htr d  τ x1 x4 (x2 / 16) (x2 - x2 / 16 * 16) (v14 - v14 / 10 * 10) (v14 / 10) 1 s19 r H)
                      · rw [q20] at H; exact False.elim H
                  · rw [if_neg h17] at H
                    refine xp_ok htr 4 (d + 7) 1 6 [eB true] 136 81 [some (.ref 0), some (.int x1), some (.int x2), some (.int x3), some (.int x4), some (.int (x2 / 16)), some (.int (x2 - x2 / 16 * 16)), some (.int v14), some (.int (v14 - v14 / 10 * 10)), none, none] [.int (v14 / 10)] (hM 23 s15 τ) ⟨h17, ?_⟩
                    show xv l Ω (d + 7) 1 6 136 107 [some (.ref 0), some (.int x1), some (.int x2), some (.int x3), some (.int x4), some (.int (x2 / 16)), some (.int (x2 - x2 / 16 * 16)), some (.int v14), some (.int (v14 - v14 / 10 * 10)), some (.int (v14 / 10)), none] [] (hM 23 s15 τ) r
                    exact xv_sub (L' := [some (.ref 0), some (.int x1), none, none, some (.int x4), some (.int (x2 / 16)), some (.int (x2 - x2 / 16 * 16)), none, some (.int (v14 - v14 / 10 * 10)), some (.int (v14 / 10)), none]) ⟨rfl, ⟨rfl, ⟨rfl, ⟨rfl, ⟨rfl, ⟨rfl, ⟨rfl, trivial⟩⟩⟩⟩⟩⟩⟩ (g136_107_ok_23 htr d  τ x1 x4 (x2 / 16) (x2 - x2 / 16 * 16) (v14 - v14 / 10 * 10) (v14 / 10) s15 r H)
                · rw [q16] at H; exact False.elim H
            · rw [q13] at H; dsimp only at H
              have hc := g31_run (Ω := Ω) htr d 23 τ v8 s9 q13
              exact xp_ok htr 1 (d + 7) 2 12 [eT v11 (hM 23 s12 τ) 1 6] 136 42 [some (.ref 0), some (.int x1), some (.int x2), some (.int x3), some (.int x4), none, none, none, none, none, none] [.int v8] (hM 23 s9 τ) ⟨hc, (Eq.symm H)⟩
        · rw [q10] at H; exact False.elim H
    · rw [q7] at H; dsimp only at H
      have hc := g26_run (Ω := Ω) htr d 23 τ k0 σ q7
      exact xp_ok htr 1 (d + 7) 3 18 [eT v5 (hM 23 s6 τ) 1 6] 136 31 [some (.ref 0), some (.int x1), some (.int x2), some (.int x3), some (.int x4), none, none, none, none, none, none] [.int k0] (hM 23 σ τ) ⟨hc, (Eq.symm H)⟩
theorem g136_30_ok_23 {l : Launch} {Ω : xo_O} (htr : xH l) (d : Nat) (τ : Nat → Nat → Int64) (x1 : Int32) (x2 : Int32) (x3 : Int32) (x4 : Int32) (σ : xS) (r : xv_R) (H : xo (xB false 23 τ r) (g136_30 23 x1 x2 x3 x4 σ)) : xv l Ω (d + 7) 3 18 136 30 [some (.ref 0), some (.int x1), some (.int x2), some (.int x3), some (.int x4), none, none, none, none, none, none] [] (hM 23 σ τ) r := by
  unfold g136_30 at H
  refine xp_ok htr 1 (d + 7) 3 18 [] 136 30 [some (.ref 0), some (.int x1), some (.int x2), some (.int x3), some (.int x4), none, none, none, none, none, none] [] (hM 23 σ τ) ?_
  show xv l Ω (d + 7) 3 18 136 31 [some (.ref 0), some (.int x1), some (.int x2), some (.int x3), some (.int x4), none, none, none, none, none, none] [.int 0] (hM 23 σ τ) r
  exact xv_sub (L' := [some (.ref 0), some (.int x1), some (.int x2), some (.int x3), some (.int x4), none, none, none, none, none, none]) ⟨rfl, ⟨rfl, ⟨rfl, ⟨rfl, ⟨rfl, trivial⟩⟩⟩⟩⟩ (g136_31_ok_23 htr d  τ x1 x2 x3 x4 0 σ r H)
theorem g136_run_23 {l : Launch} {Ω : xo_O} (htr : xH l) (d : Nat) (τ : Nat → Nat → Int64) (a1 : Int32) (a2 : Int32) (a3 : Int32) (a4 : Int32) (σ : xS) {q : xQ} (hq : g136 23 a1 a2 a3 a4 σ = some q) : xv l Ω (d + 7) 3 18 136 0 (xs_loc (xm_l 136) [.ref 0, .int a1, .int a2, .int a3, .int a4]) [] (hM 23 σ τ) (xq_R false 23 τ q) := by
  have H : xo (xB false 23 τ (xq_R false 23 τ q)) (g136 23 a1 a2 a3 a4 σ) := by rw [hq]; exact rfl
  generalize xq_R false 23 τ q = r at H ⊢
  show xv l Ω (d + 7) 3 18 136 0 [some (.ref 0), some (.int a1), some (.int a2), some (.int a3), some (.int a4), none, none, none, none, none, none] [] (hM 23 σ τ) r
  unfold g136 at H
  cases q3 : g63 a1 σ with
  | none => rw [q3] at H; exact False.elim H
  | some q30 =>
    obtain ⟨v1 | v1, s2⟩ := q30
    · rw [q3] at H; dsimp only at H
      have hc := g63_run (Ω := Ω) htr (d + 5) 23 τ a1 σ q3
      refine xp_ok htr 2 (d + 7) 3 18 [eC (some (.int v1)) (hM 23 s2 τ)] 136 0 [some (.ref 0), some (.int a1), some (.int a2), some (.int a3), some (.int a4), none, none, none, none, none, none] [] (hM 23 σ τ) ⟨hc, ?_⟩
      show xv l Ω (d + 7) 3 18 136 4 [some (.ref 0), some (.int a1), some (.int a2), some (.int a3), some (.int a4), none, none, none, none, none, none] [.int v1] (hM 23 s2 τ) r
      by_cases h4 : v1 = 0
      · rw [if_pos h4] at H
        refine xp_ok htr 1 (d + 7) 3 18 [eB true] 136 4 [some (.ref 0), some (.int a1), some (.int a2), some (.int a3), some (.int a4), none, none, none, none, none, none] [.int v1] (hM 23 s2 τ) ⟨h4, ?_⟩
        show xv l Ω (d + 7) 3 18 136 30 [some (.ref 0), some (.int a1), some (.int a2), some (.int a3), some (.int a4), none, none, none, none, none, none] [] (hM 23 s2 τ) r
        exact xv_sub (L' := [some (.ref 0), some (.int a1), some (.int a2), some (.int a3), some (.int a4), none, none, none, none, none, none]) ⟨rfl, ⟨rfl, ⟨rfl, ⟨rfl, ⟨rfl, trivial⟩⟩⟩⟩⟩ (g136_30_ok_23 htr d  τ a1 a2 a3 a4 s2 r H)
      · rw [if_neg h4] at H
        refine xp_ok htr 1 (d + 7) 3 18 [eB false] 136 4 [some (.ref 0), some (.int a1), some (.int a2), some (.int a3), some (.int a4), none, none, none, none, none, none] [.int v1] (hM 23 s2 τ) ⟨h4, ?_⟩
        show xv l Ω (d + 7) 3 18 136 7 [some (.ref 0), some (.int a1), some (.int a2), some (.int a3), some (.int a4), none, none, none, none, none, none] [] (hM 23 s2 τ) r
        cases q32 : g25 a2 160 s2 with
        | none => rw [q32] at H; exact False.elim H
        | some q320 =>
          obtain ⟨v30 | v30, s31⟩ := q320
          · rw [q32] at H; dsimp only at H
            have hc := g25_run (Ω := Ω) htr (d + 6) 23 τ a2 160 s2 q32
            refine xp_ok htr 3 (d + 7) 3 18 [eC (some (.int v30)) (hM 23 s31 τ)] 136 7 [some (.ref 0), some (.int a1), some (.int a2), some (.int a3), some (.int a4), none, none, none, none, none, none] [] (hM 23 s2 τ) ⟨hc, ?_⟩
            show xv l Ω (d + 7) 3 18 136 14 [some (.ref 0), some (.int a1), some (.int a2), some (.int a3), some (.int a4), none, none, none, none, none, none] [.int v30] (hM 23 s31 τ) r
            by_cases h33 : v30 = 0
            · rw [if_pos h33] at H
              refine xp_ok htr 1 (d + 7) 3 18 [eB true] 136 14 [some (.ref 0), some (.int a1), some (.int a2), some (.int a3), some (.int a4), none, none, none, none, none, none] [.int v30] (hM 23 s31 τ) ⟨h33, ?_⟩
              show xv l Ω (d + 7) 3 18 136 30 [some (.ref 0), some (.int a1), some (.int a2), some (.int a3), some (.int a4), none, none, none, none, none, none] [] (hM 23 s31 τ) r
              exact xv_sub (L' := [some (.ref 0), some (.int a1), some (.int a2), some (.int a3), some (.int a4), none, none, none, none, none, none]) ⟨rfl, ⟨rfl, ⟨rfl, ⟨rfl, ⟨rfl, trivial⟩⟩⟩⟩⟩ (g136_30_ok_23 htr d  τ a1 a2 a3 a4 s31 r H)
            · rw [if_neg h33] at H
              refine xp_ok htr 1 (d + 7) 3 18 [eB false] 136 14 [some (.ref 0), some (.int a1), some (.int a2), some (.int a3), some (.int a4), none, none, none, none, none, none] [.int v30] (hM 23 s31 τ) ⟨h33, ?_⟩
              show xv l Ω (d + 7) 3 18 136 17 [some (.ref 0), some (.int a1), some (.int a2), some (.int a3), some (.int a4), none, none, none, none, none, none] [] (hM 23 s31 τ) r
              cases q36 : g25 a3 24 s31 with
              | none => rw [q36] at H; exact False.elim H
              | some q360 =>
                obtain ⟨v34 | v34, s35⟩ := q360
                · rw [q36] at H; dsimp only at H
                  have hc := g25_run (Ω := Ω) htr (d + 6) 23 τ a3 24 s31 q36
                  refine xp_ok htr 3 (d + 7) 3 18 [eC (some (.int v34)) (hM 23 s35 τ)] 136 17 [some (.ref 0), some (.int a1), some (.int a2), some (.int a3), some (.int a4), none, none, none, none, none, none] [] (hM 23 s31 τ) ⟨hc, ?_⟩
                  show xv l Ω (d + 7) 3 18 136 23 [some (.ref 0), some (.int a1), some (.int a2), some (.int a3), some (.int a4), none, none, none, none, none, none] [.int v34] (hM 23 s35 τ) r
                  by_cases h37 : v34 = 0
                  · rw [if_pos h37] at H
                    refine xp_ok htr 1 (d + 7) 3 18 [eB true] 136 23 [some (.ref 0), some (.int a1), some (.int a2), some (.int a3), some (.int a4), none, none, none, none, none, none] [.int v34] (hM 23 s35 τ) ⟨h37, ?_⟩
                    show xv l Ω (d + 7) 3 18 136 30 [some (.ref 0), some (.int a1), some (.int a2), some (.int a3), some (.int a4), none, none, none, none, none, none] [] (hM 23 s35 τ) r
                    exact xv_sub (L' := [some (.ref 0), some (.int a1), some (.int a2), some (.int a3), some (.int a4), none, none, none, none, none, none]) ⟨rfl, ⟨rfl, ⟨rfl, ⟨rfl, ⟨rfl, trivial⟩⟩⟩⟩⟩ (g136_30_ok_23 htr d  τ a1 a2 a3 a4 s35 r H)
                  · rw [if_neg h37] at H
                    refine xp_ok htr 1 (d + 7) 3 18 [eB false] 136 23 [some (.ref 0), some (.int a1), some (.int a2), some (.int a3), some (.int a4), none, none, none, none, none, none] [.int v34] (hM 23 s35 τ) ⟨h37, ?_⟩
                    show xv l Ω (d + 7) 3 18 136 26 [some (.ref 0), some (.int a1), some (.int a2), some (.int a3), some (.int a4), none, none, none, none, none, none] [] (hM 23 s35 τ) r
                    refine xp_ok htr 2 (d + 7) 3 18 [] 136 26 [some (.ref 0), some (.int a1), some (.int a2), some (.int a3), some (.int a4), none, none, none, none, none, none] [] (hM 23 s35 τ) ?_
                    show xv l Ω (d + 7) 3 18 136 31 [some (.ref 0), some (.int a1), some (.int a2), some (.int a3), some (.int a4), none, none, none, none, none, none] [.int 1] (hM 23 s35 τ) r
                    exact xv_sub (L' := [some (.ref 0), some (.int a1), some (.int a2), some (.int a3), some (.int a4), none, none, none, none, none, none]) ⟨rfl, ⟨rfl, ⟨rfl, ⟨rfl, ⟨rfl, trivial⟩⟩⟩⟩⟩ (g136_31_ok_23 htr d  τ a1 a2 a3 a4 1 s35 r H)
                · rw [q36] at H; exact False.elim H
          · rw [q32] at H; exact False.elim H
    · rw [q3] at H; exact False.elim H
theorem g136_133_ok_36 {l : Launch} {Ω : xo_O} (htr : xH l) (d : Nat) (τ : Nat → Nat → Int64) (x4 : Int32) (x5 : Int32) (x6 : Int32) (x10 : Int32) (k1 : Int32) (k2 : Int32) (k3 : Int32) (k4 : Int32) (k5 : Int32) (k6 : Int32) (σ : xS) (r : xv_R) (H : xo (xB false 36 τ r) (g136_133 36 x4 x5 x6 x10 k1 k2 k3 k4 k5 k6 σ)) : xv l Ω (d + 7) 1 6 136 133 [some (.ref 0), none, none, none, some (.int x4), some (.int x5), some (.int x6), none, none, none, some (.int x10)] [.int k6, .int k5, .int k4, .int k3, .int k2, .int k1, .ref 51] (hM 36 σ τ) r := by
  unfold g136_133 at H
  cases q25 : g139 k1 k2 k3 k4 k5 k6 σ with
  | none => rw [q25] at H; exact False.elim H
  | some q250 =>
    obtain ⟨v23 | v23, s24⟩ := q250
    · rw [q25] at H; dsimp only at H
      have hc := g139_run (Ω := Ω) htr (d + 2) 36 τ k1 k2 k3 k4 k5 k6 σ q25
      refine xp_ok htr 1 (d + 7) 1 6 [eC none (hM 36 s24 τ)] 136 133 [some (.ref 0), none, none, none, some (.int x4), some (.int x5), some (.int x6), none, none, none, some (.int x10)] [.int k6, .int k5, .int k4, .int k3, .int k2, .int k1, .ref 51] (hM 36 σ τ) ⟨hc, ?_⟩
      show xv l Ω (d + 7) 1 6 136 136 [some (.ref 0), none, none, none, some (.int x4), some (.int x5), some (.int x6), none, none, none, some (.int x10)] [] (hM 36 s24 τ) r
      by_cases h26 : x10 = 0
      · rw [if_pos h26] at H
        refine xp_ok htr 2 (d + 7) 1 6 [eB false] 136 136 [some (.ref 0), none, none, none, some (.int x4), some (.int x5), some (.int x6), none, none, none, some (.int x10)] [] (hM 36 s24 τ) ⟨h26, ?_⟩
        show xv l Ω (d + 7) 1 6 136 141 [some (.ref 0), none, none, none, some (.int x4), some (.int x5), some (.int x6), none, none, none, some (.int x10)] [] (hM 36 s24 τ) r
        exact xp_ok htr 1 (d + 7) 1 6 [] 136 141 [some (.ref 0), none, none, none, some (.int x4), some (.int x5), some (.int x6), none, none, none, some (.int x10)] [] (hM 36 s24 τ) (Eq.symm H)
      · rw [if_neg h26] at H
        refine xp_ok htr 2 (d + 7) 1 6 [eB true] 136 136 [some (.ref 0), none, none, none, some (.int x4), some (.int x5), some (.int x6), none, none, none, some (.int x10)] [] (hM 36 s24 τ) ⟨h26, ?_⟩
        show xv l Ω (d + 7) 1 6 136 151 [some (.ref 0), none, none, none, some (.int x4), some (.int x5), some (.int x6), none, none, none, some (.int x10)] [] (hM 36 s24 τ) r
        cases q29 : g140 x5 x6 x4 s24 with
        | none => rw [q29] at H; exact False.elim H
        | some q290 =>
          obtain ⟨v27 | v27, s28⟩ := q290
          · rw [q29] at H; dsimp only at H
            have hc := g140_run (Ω := Ω) htr (d + 6) 36 τ x5 x6 x4 s24 q29
            refine xp_ok htr 6 (d + 7) 1 6 [eC (some (.int v27)) (hM 36 s28 τ)] 136 151 [some (.ref 0), none, none, none, some (.int x4), some (.int x5), some (.int x6), none, none, none, some (.int x10)] [] (hM 36 s24 τ) ⟨hc, ?_⟩
            show xv l Ω (d + 7) 1 6 136 164 [some (.ref 0), none, none, none, some (.int x4), some (.int x5), some (.int x6), none, none, none, some (.int x10)] [.int v27] (hM 36 s28 τ) r
            exact xp_ok htr 1 (d + 7) 1 6 [] 136 164 [some (.ref 0), none, none, none, some (.int x4), some (.int x5), some (.int x6), none, none, none, some (.int x10)] [.int v27] (hM 36 s28 τ) ⟨trivial, (Eq.symm H)⟩
          · rw [q29] at H; exact False.elim H
    · rw [q25] at H; exact False.elim H
theorem g136_108_ok_36 {l : Launch} {Ω : xo_O} (htr : xH l) (d : Nat) (τ : Nat → Nat → Int64) (x1 : Int32) (x4 : Int32) (x5 : Int32) (x6 : Int32) (x8 : Int32) (x9 : Int32) (k0 : Int32) (σ : xS) (r : xv_R) (H : xo (xB false 36 τ r) (g136_108 36 x1 x4 x5 x6 x8 x9 k0 σ)) : xv l Ω (d + 7) 1 6 136 108 [some (.ref 0), some (.int x1), none, none, some (.int x4), some (.int x5), some (.int x6), none, some (.int x8), some (.int x9), none] [.int k0] (hM 36 σ τ) r := by
  unfold g136_108 at H
  refine xp_ok htr 8 (d + 7) 1 6 [] 136 108 [some (.ref 0), some (.int x1), none, none, some (.int x4), some (.int x5), some (.int x6), none, some (.int x8), some (.int x9), none] [.int k0] (hM 36 σ τ) ?_
  show xv l Ω (d + 7) 1 6 136 123 [some (.ref 0), some (.int x1), none, none, some (.int x4), some (.int x5), some (.int x6), none, some (.int x8), some (.int x9), some (.int k0)] [.int x9, .int x8, .int x6, .int x5, .int x1, .ref 51] (hM 36 σ τ) r
  by_cases h22 : k0 = 0
  · rw [if_pos h22] at H
    refine xp_ok htr 2 (d + 7) 1 6 [eB true] 136 123 [some (.ref 0), some (.int x1), none, none, some (.int x4), some (.int x5), some (.int x6), none, some (.int x8), some (.int x9), some (.int k0)] [.int x9, .int x8, .int x6, .int x5, .int x1, .ref 51] (hM 36 σ τ) ⟨h22, ?_⟩
    show xv l Ω (d + 7) 1 6 136 132 [some (.ref 0), some (.int x1), none, none, some (.int x4), some (.int x5), some (.int x6), none, some (.int x8), some (.int x9), some (.int k0)] [.int x9, .int x8, .int x6, .int x5, .int x1, .ref 51] (hM 36 σ τ) r
    refine xp_ok htr 1 (d + 7) 1 6 [] 136 132 [some (.ref 0), some (.int x1), none, none, some (.int x4), some (.int x5), some (.int x6), none, some (.int x8), some (.int x9), some (.int k0)] [.int x9, .int x8, .int x6, .int x5, .int x1, .ref 51] (hM 36 σ τ) ?_
    show xv l Ω (d + 7) 1 6 136 133 [some (.ref 0), some (.int x1), none, none, some (.int x4), some (.int x5), some (.int x6), none, some (.int x8), some (.int x9), some (.int k0)] [.int 0, .int x9, .int x8, .int x6, .int x5, .int x1, .ref 51] (hM 36 σ τ) r
    exact xv_sub (L' := [some (.ref 0), none, none, none, some (.int x4), some (.int x5), some (.int x6), none, none, none, some (.int k0)]) ⟨rfl, ⟨rfl, ⟨rfl, ⟨rfl, ⟨rfl, trivial⟩⟩⟩⟩⟩ (g136_133_ok_36 htr d  τ x4 x5 x6 k0 x1 x5 x6 x8 x9 0 σ r H)
  · rw [if_neg h22] at H
    refine xp_ok htr 2 (d + 7) 1 6 [eB false] 136 123 [some (.ref 0), some (.int x1), none, none, some (.int x4), some (.int x5), some (.int x6), none, some (.int x8), some (.int x9), some (.int k0)] [.int x9, .int x8, .int x6, .int x5, .int x1, .ref 51] (hM 36 σ τ) ⟨h22, ?_⟩
    show xv l Ω (d + 7) 1 6 136 128 [some (.ref 0), some (.int x1), none, none, some (.int x4), some (.int x5), some (.int x6), none, some (.int x8), some (.int x9), some (.int k0)] [.int x9, .int x8, .int x6, .int x5, .int x1, .ref 51] (hM 36 σ τ) r
    refine xp_ok htr 2 (d + 7) 1 6 [] 136 128 [some (.ref 0), some (.int x1), none, none, some (.int x4), some (.int x5), some (.int x6), none, some (.int x8), some (.int x9), some (.int k0)] [.int x9, .int x8, .int x6, .int x5, .int x1, .ref 51] (hM 36 σ τ) ?_
    show xv l Ω (d + 7) 1 6 136 133 [some (.ref 0), some (.int x1), none, none, some (.int x4), some (.int x5), some (.int x6), none, some (.int x8), some (.int x9), some (.int k0)] [.int 1, .int x9, .int x8, .int x6, .int x5, .int x1, .ref 51] (hM 36 σ τ) r
    exact xv_sub (L' := [some (.ref 0), none, none, none, some (.int x4), some (.int x5), some (.int x6), none, none, none, some (.int k0)]) ⟨rfl, ⟨rfl, ⟨rfl, ⟨rfl, ⟨rfl, trivial⟩⟩⟩⟩⟩ (g136_133_ok_36 htr d  τ x4 x5 x6 k0 x1 x5 x6 x8 x9 1 σ r H)
theorem g136_107_ok_36 {l : Launch} {Ω : xo_O} (htr : xH l) (d : Nat) (τ : Nat → Nat → Int64) (x1 : Int32) (x4 : Int32) (x5 : Int32) (x6 : Int32) (x8 : Int32) (x9 : Int32) (σ : xS) (r : xv_R) (H : xo (xB false 36 τ r) (g136_107 36 x1 x4 x5 x6 x8 x9 σ)) : xv l Ω (d + 7) 1 6 136 107 [some (.ref 0), some (.int x1), none, none, some (.int x4), some (.int x5), some (.int x6), none, some (.int x8), some (.int x9), none] [] (hM 36 σ τ) r := by
  unfold g136_107 at H
  refine xp_ok htr 1 (d + 7) 1 6 [] 136 107 [some (.ref 0), some (.int x1), none, none, some (.int x4), some (.int x5), some (.int x6), none, some (.int x8), some (.int x9), none] [] (hM 36 σ τ) ?_
  show xv l Ω (d + 7) 1 6 136 108 [some (.ref 0), some (.int x1), none, none, some (.int x4), some (.int x5), some (.int x6), none, some (.int x8), some (.int x9), none] [.int 0] (hM 36 σ τ) r
  exact xv_sub (L' := [some (.ref 0), some (.int x1), none, none, some (.int x4), some (.int x5), some (.int x6), none, some (.int x8), some (.int x9), none]) ⟨rfl, ⟨rfl, ⟨rfl, ⟨rfl, ⟨rfl, ⟨rfl, ⟨rfl, trivial⟩⟩⟩⟩⟩⟩⟩ (g136_108_ok_36 htr d  τ x1 x4 x5 x6 x8 x9 0 σ r H)
theorem g136_31_ok_36 {l : Launch} {Ω : xo_O} (htr : xH l) (d : Nat) (τ : Nat → Nat → Int64) (x1 : Int32) (x2 : Int32) (x3 : Int32) (x4 : Int32) (k0 : Int32) (σ : xS) (r : xv_R) (H : xo (xB false 36 τ r) (g136_31 36 x1 x2 x3 x4 k0 σ)) : xv l Ω (d + 7) 3 18 136 31 [some (.ref 0), some (.int x1), some (.int x2), some (.int x3), some (.int x4), none, none, none, none, none, none] [.int k0] (hM 36 σ τ) r := by
  unfold g136_31 at H
  cases q7 : g26 k0 σ with
  | none => rw [q7] at H; exact False.elim H
  | some q70 =>
    obtain ⟨v5 | v5, s6⟩ := q70
    · rw [q7] at H; dsimp only at H
      have hc := g26_run (Ω := Ω) htr d 36 τ k0 σ q7
      refine xp_ok htr 1 (d + 7) 3 18 [eN none (hM 36 s6 τ) 1 6] 136 31 [some (.ref 0), some (.int x1), some (.int x2), some (.int x3), some (.int x4), none, none, none, none, none, none] [.int k0] (hM 36 σ τ) ⟨hc, ?_⟩
      show xv l Ω (d + 7) 2 12 136 34 [some (.ref 0), some (.int x1), some (.int x2), some (.int x3), some (.int x4), none, none, none, none, none, none] [] (hM 36 s6 τ) r
      cases q10 : g44 x1 s6 with
      | none => rw [q10] at H; exact False.elim H
      | some q100 =>
        obtain ⟨v8 | v8, s9⟩ := q100
        · rw [q10] at H; dsimp only at H
          have hc := g44_run (Ω := Ω) htr (d + 6) 36 τ x1 s6 q10
          refine xp_ok htr 4 (d + 7) 2 12 [eC (some (.int v8)) (hM 36 s9 τ)] 136 34 [some (.ref 0), some (.int x1), some (.int x2), some (.int x3), some (.int x4), none, none, none, none, none, none] [] (hM 36 s6 τ) ⟨hc, ?_⟩
          show xv l Ω (d + 7) 2 12 136 42 [some (.ref 0), some (.int x1), some (.int x2), some (.int x3), some (.int x4), none, none, none, none, none, none] [.int v8] (hM 36 s9 τ) r
          cases q13 : g31 v8 s9 with
          | none => rw [q13] at H; exact False.elim H
          | some q130 =>
            obtain ⟨v11 | v11, s12⟩ := q130
            · rw [q13] at H; dsimp only at H
              have hc := g31_run (Ω := Ω) htr d 36 τ v8 s9 q13
              refine xp_ok htr 1 (d + 7) 2 12 [eN none (hM 36 s12 τ) 1 6] 136 42 [some (.ref 0), some (.int x1), some (.int x2), some (.int x3), some (.int x4), none, none, none, none, none, none] [.int v8] (hM 36 s9 τ) ⟨hc, ?_⟩
              show xv l Ω (d + 7) 1 6 136 45 [some (.ref 0), some (.int x1), some (.int x2), some (.int x3), some (.int x4), none, none, none, none, none, none] [] (hM 36 s12 τ) r
              refine xp_ok htr 8 (d + 7) 1 6 [] 136 45 [some (.ref 0), some (.int x1), some (.int x2), some (.int x3), some (.int x4), none, none, none, none, none, none] [] (hM 36 s12 τ) ⟨(by decide), (by decide), ?_⟩
              show xv l Ω (d + 7) 1 6 136 57 [some (.ref 0), some (.int x1), some (.int x2), some (.int x3), some (.int x4), some (.int (x2 / 16)), some (.int (x2 - x2 / 16 * 16)), none, none, none, none] [] (hM 36 s12 τ) r
              cases q16 : g113 36 x1 (x2 / 16) (x2 - x2 / 16 * 16) x3 s12 with
              | none => rw [q16] at H; exact False.elim H
              | some q160 =>
                obtain ⟨v14 | v14, s15⟩ := q160
                · rw [q16] at H; dsimp only at H
                  have hc := g113_run_36 (Ω := Ω) htr d  τ x1 (x2 / 16) (x2 - x2 / 16 * 16) x3 s12 q16
                  refine xp_ok htr 6 (d + 7) 1 6 [eC (some (.int v14)) (hM 36 s15 τ)] 136 57 [some (.ref 0), some (.int x1), some (.int x2), some (.int x3), some (.int x4), some (.int (x2 / 16)), some (.int (x2 - x2 / 16 * 16)), none, none, none, none] [] (hM 36 s12 τ) ⟨hc, ?_⟩
                  show xv l Ω (d + 7) 1 6 136 67 [some (.ref 0), some (.int x1), some (.int x2), some (.int x3), some (.int x4), some (.int (x2 / 16)), some (.int (x2 - x2 / 16 * 16)), none, none, none, none] [.int v14] (hM 36 s15 τ) r
                  refine xp_ok htr 8 (d + 7) 1 6 [] 136 67 [some (.ref 0), some (.int x1), some (.int x2), some (.int x3), some (.int x4), some (.int (x2 / 16)), some (.int (x2 - x2 / 16 * 16)), none, none, none, none] [.int v14] (hM 36 s15 τ) ⟨(by decide), (by decide), ?_⟩
                  show xv l Ω (d + 7) 1 6 136 81 [some (.ref 0), some (.int x1), some (.int x2), some (.int x3), some (.int x4), some (.int (x2 / 16)), some (.int (x2 - x2 / 16 * 16)), some (.int v14), some (.int (v14 - v14 / 10 * 10)), none, none] [.int (v14 / 10)] (hM 36 s15 τ) r
                  by_cases h17 : (v14 - v14 / 10 * 10) = 1
                  · rw [if_pos h17] at H
                    refine xp_ok htr 4 (d + 7) 1 6 [eB false] 136 81 [some (.ref 0), some (.int x1), some (.int x2), some (.int x3), some (.int x4), some (.int (x2 / 16)), some (.int (x2 - x2 / 16 * 16)), some (.int v14), some (.int (v14 - v14 / 10 * 10)), none, none] [.int (v14 / 10)] (hM 36 s15 τ) ⟨h17, ?_⟩
                    show xv l Ω (d + 7) 1 6 136 89 [some (.ref 0), some (.int x1), some (.int x2), some (.int x3), some (.int x4), some (.int (x2 / 16)), some (.int (x2 - x2 / 16 * 16)), some (.int v14), some (.int (v14 - v14 / 10 * 10)), some (.int (v14 / 10)), none] [] (hM 36 s15 τ) r
                    cases q20 : g137 x1 (v14 / 10) x3 s15 with
                    | none => rw [q20] at H; exact False.elim H
                    | some q200 =>
                      obtain ⟨v18 | v18, s19⟩ := q200
                      · rw [q20] at H; dsimp only at H
                        have hc := g137_run (Ω := Ω) htr (d + 5) 36 τ x1 (v14 / 10) x3 s15 q20
                        refine xp_ok htr 6 (d + 7) 1 6 [eC (some (.int v18)) (hM 36 s19 τ)] 136 89 [some (.ref 0), some (.int x1), some (.int x2), some (.int x3), some (.int x4), some (.int (x2 / 16)), some (.int (x2 - x2 / 16 * 16)), some (.int v14), some (.int (v14 - v14 / 10 * 10)), some (.int (v14 / 10)), none] [] (hM 36 s15 τ) ⟨hc, ?_⟩
                        show xv l Ω (d + 7) 1 6 136 100 [some (.ref 0), some (.int x1), some (.int x2), some (.int x3), some (.int x4), some (.int (x2 / 16)), some (.int (x2 - x2 / 16 * 16)), some (.int v14), some (.int (v14 - v14 / 10 * 10)), some (.int (v14 / 10)), none] [.int v18] (hM 36 s19 τ) r
                        by_cases h21 : v18 = 0
                        · rw [if_pos h21] at H
                          refine xp_ok htr 1 (d + 7) 1 6 [eB true] 136 100 [some (.ref 0), some (.int x1), some (.int x2), some (.int x3), some (.int x4), some (.int (x2 / 16)), some (.int (x2 - x2 / 16 * 16)), some (.int v14), some (.int (v14 - v14 / 10 * 10)), some (.int (v14 / 10)), none] [.int v18] (hM 36 s19 τ) ⟨h21, ?_⟩
                          show xv l Ω (d + 7) 1 6 136 107 [some (.ref 0), some (.int x1), some (.int x2), some (.int x3), some (.int x4), some (.int (x2 / 16)), some (.int (x2 - x2 / 16 * 16)), some (.int v14), some (.int (v14 - v14 / 10 * 10)), some (.int (v14 / 10)), none] [] (hM 36 s19 τ) r
                          exact xv_sub (L' := [some (.ref 0), some (.int x1), none, none, some (.int x4), some (.int (x2 / 16)), some (.int (x2 - x2 / 16 * 16)), none, some (.int (v14 - v14 / 10 * 10)), some (.int (v14 / 10)), none]) ⟨rfl, ⟨rfl, ⟨rfl, ⟨rfl, ⟨rfl, ⟨rfl, ⟨rfl, trivial⟩⟩⟩⟩⟩⟩⟩ (g136_107_ok_36 htr d  τ x1 x4 (x2 / 16) (x2 - x2 / 16 * 16) (v14 - v14 / 10 * 10) (v14 / 10) s19 r H)
                        · rw [if_neg h21] at H
                          refine xp_ok htr 1 (d + 7) 1 6 [eB false] 136 100 [some (.ref 0), some (.int x1), some (.int x2), some (.int x3), some (.int x4), some (.int (x2 / 16)), some (.int (x2 - x2 / 16 * 16)), some (.int v14), some (.int (v14 - v14 / 10 * 10)), some (.int (v14 / 10)), none] [.int v18] (hM 36 s19 τ) ⟨h21, ?_⟩
                          show xv l Ω (d + 7) 1 6 136 103 [some (.ref 0), some (.int x1), some (.int x2), some (.int x3), some (.int x4), some (.int (x2 / 16)), some (.int (x2 - x2 / 16 * 16)), some (.int v14), some (.int (v14 - v14 / 10 * 10)), some (.int (v14 / 10)), none] [] (hM 36 s19 τ) r
                          refine xp_ok htr 2 (d + 7) 1 6 [] 136 103 [some (.ref 0), some (.int x1), some (.int x2), some (.int x3), some (.int x4), some (.int (x2 / 16)), some (.int (x2 - x2 / 16 * 16)), some (.int v14), some (.int (v14 - v14 / 10 * 10)), some (.int (v14 / 10)), none] [] (hM 36 s19 τ) ?_
                          show xv l Ω (d + 7) 1 6 136 108 [some (.ref 0), some (.int x1), some (.int x2), some (.int x3), some (.int x4), some (.int (x2 / 16)), some (.int (x2 - x2 / 16 * 16)), some (.int v14), some (.int (v14 - v14 / 10 * 10)), some (.int (v14 / 10)), none] [.int 1] (hM 36 s19 τ) r
                          exact xv_sub (L' := [some (.ref 0), some (.int x1), none, none, some (.int x4), some (.int (x2 / 16)), some (.int (x2 - x2 / 16 * 16)), none, some (.int (v14 - v14 / 10 * 10)), some (.int (v14 / 10)), none]) ⟨rfl, ⟨rfl, ⟨rfl, ⟨rfl, ⟨rfl, ⟨rfl, ⟨rfl, trivial⟩⟩⟩⟩⟩⟩⟩ (g136_108_ok_36 htr d  τ x1 x4 (x2 / 16) (x2 - x2 / 16 * 16) (v14 - v14 / 10 * 10) (v14 / 10) 1 s19 r H)
                      · rw [q20] at H; exact False.elim H
                  · rw [if_neg h17] at H
                    refine xp_ok htr 4 (d + 7) 1 6 [eB true] 136 81 [some (.ref 0), some (.int x1), some (.int x2), some (.int x3), some (.int x4), some (.int (x2 / 16)), some (.int (x2 - x2 / 16 * 16)), some (.int v14), some (.int (v14 - v14 / 10 * 10)), none, none] [.int (v14 / 10)] (hM 36 s15 τ) ⟨h17, ?_⟩
                    show xv l Ω (d + 7) 1 6 136 107 [some (.ref 0), some (.int x1), some (.int x2), some (.int x3), some (.int x4), some (.int (x2 / 16)), some (.int (x2 - x2 / 16 * 16)), some (.int v14), some (.int (v14 - v14 / 10 * 10)), some (.int (v14 / 10)), none] [] (hM 36 s15 τ) r
                    exact xv_sub (L' := [some (.ref 0), some (.int x1), none, none, some (.int x4), some (.int (x2 / 16)), some (.int (x2 - x2 / 16 * 16)), none, some (.int (v14 - v14 / 10 * 10)), some (.int (v14 / 10)), none]) ⟨rfl, ⟨rfl, ⟨rfl, ⟨rfl, ⟨rfl, ⟨rfl, ⟨rfl, trivial⟩⟩⟩⟩⟩⟩⟩ (g136_107_ok_36 htr d  τ x1 x4 (x2 / 16) (x2 - x2 / 16 * 16) (v14 - v14 / 10 * 10) (v14 / 10) s15 r H)
                · rw [q16] at H; exact False.elim H
            · rw [q13] at H; dsimp only at H
              have hc := g31_run (Ω := Ω) htr d 36 τ v8 s9 q13
              exact xp_ok htr 1 (d + 7) 2 12 [eT v11 (hM 36 s12 τ) 1 6] 136 42 [some (.ref 0), some (.int x1), some (.int x2), some (.int x3), some (.int x4), none, none, none, none, none, none] [.int v8] (hM 36 s9 τ) ⟨hc, (Eq.symm H)⟩
        · rw [q10] at H; exact False.elim H
    · rw [q7] at H; dsimp only at H
      have hc := g26_run (Ω := Ω) htr d 36 τ k0 σ q7
      exact xp_ok htr 1 (d + 7) 3 18 [eT v5 (hM 36 s6 τ) 1 6] 136 31 [some (.ref 0), some (.int x1), some (.int x2), some (.int x3), some (.int x4), none, none, none, none, none, none] [.int k0] (hM 36 σ τ) ⟨hc, (Eq.symm H)⟩
theorem g136_30_ok_36 {l : Launch} {Ω : xo_O} (htr : xH l) (d : Nat) (τ : Nat → Nat → Int64) (x1 : Int32) (x2 : Int32) (x3 : Int32) (x4 : Int32) (σ : xS) (r : xv_R) (H : xo (xB false 36 τ r) (g136_30 36 x1 x2 x3 x4 σ)) : xv l Ω (d + 7) 3 18 136 30 [some (.ref 0), some (.int x1), some (.int x2), some (.int x3), some (.int x4), none, none, none, none, none, none] [] (hM 36 σ τ) r := by
  unfold g136_30 at H
  refine xp_ok htr 1 (d + 7) 3 18 [] 136 30 [some (.ref 0), some (.int x1), some (.int x2), some (.int x3), some (.int x4), none, none, none, none, none, none] [] (hM 36 σ τ) ?_
  show xv l Ω (d + 7) 3 18 136 31 [some (.ref 0), some (.int x1), some (.int x2), some (.int x3), some (.int x4), none, none, none, none, none, none] [.int 0] (hM 36 σ τ) r
  exact xv_sub (L' := [some (.ref 0), some (.int x1), some (.int x2), some (.int x3), some (.int x4), none, none, none, none, none, none]) ⟨rfl, ⟨rfl, ⟨rfl, ⟨rfl, ⟨rfl, trivial⟩⟩⟩⟩⟩ (g136_31_ok_36 htr d  τ x1 x2 x3 x4 0 σ r H)
theorem g136_run_36 {l : Launch} {Ω : xo_O} (htr : xH l) (d : Nat) (τ : Nat → Nat → Int64) (a1 : Int32) (a2 : Int32) (a3 : Int32) (a4 : Int32) (σ : xS) {q : xQ} (hq : g136 36 a1 a2 a3 a4 σ = some q) : xv l Ω (d + 7) 3 18 136 0 (xs_loc (xm_l 136) [.ref 0, .int a1, .int a2, .int a3, .int a4]) [] (hM 36 σ τ) (xq_R false 36 τ q) := by
  have H : xo (xB false 36 τ (xq_R false 36 τ q)) (g136 36 a1 a2 a3 a4 σ) := by rw [hq]; exact rfl
  generalize xq_R false 36 τ q = r at H ⊢
  show xv l Ω (d + 7) 3 18 136 0 [some (.ref 0), some (.int a1), some (.int a2), some (.int a3), some (.int a4), none, none, none, none, none, none] [] (hM 36 σ τ) r
  unfold g136 at H
  cases q3 : g63 a1 σ with
  | none => rw [q3] at H; exact False.elim H
  | some q30 =>
    obtain ⟨v1 | v1, s2⟩ := q30
    · rw [q3] at H; dsimp only at H
      have hc := g63_run (Ω := Ω) htr (d + 5) 36 τ a1 σ q3
      refine xp_ok htr 2 (d + 7) 3 18 [eC (some (.int v1)) (hM 36 s2 τ)] 136 0 [some (.ref 0), some (.int a1), some (.int a2), some (.int a3), some (.int a4), none, none, none, none, none, none] [] (hM 36 σ τ) ⟨hc, ?_⟩
      show xv l Ω (d + 7) 3 18 136 4 [some (.ref 0), some (.int a1), some (.int a2), some (.int a3), some (.int a4), none, none, none, none, none, none] [.int v1] (hM 36 s2 τ) r
      by_cases h4 : v1 = 0
      · rw [if_pos h4] at H
        refine xp_ok htr 1 (d + 7) 3 18 [eB true] 136 4 [some (.ref 0), some (.int a1), some (.int a2), some (.int a3), some (.int a4), none, none, none, none, none, none] [.int v1] (hM 36 s2 τ) ⟨h4, ?_⟩
        show xv l Ω (d + 7) 3 18 136 30 [some (.ref 0), some (.int a1), some (.int a2), some (.int a3), some (.int a4), none, none, none, none, none, none] [] (hM 36 s2 τ) r
        exact xv_sub (L' := [some (.ref 0), some (.int a1), some (.int a2), some (.int a3), some (.int a4), none, none, none, none, none, none]) ⟨rfl, ⟨rfl, ⟨rfl, ⟨rfl, ⟨rfl, trivial⟩⟩⟩⟩⟩ (g136_30_ok_36 htr d  τ a1 a2 a3 a4 s2 r H)
      · rw [if_neg h4] at H
        refine xp_ok htr 1 (d + 7) 3 18 [eB false] 136 4 [some (.ref 0), some (.int a1), some (.int a2), some (.int a3), some (.int a4), none, none, none, none, none, none] [.int v1] (hM 36 s2 τ) ⟨h4, ?_⟩
        show xv l Ω (d + 7) 3 18 136 7 [some (.ref 0), some (.int a1), some (.int a2), some (.int a3), some (.int a4), none, none, none, none, none, none] [] (hM 36 s2 τ) r
        cases q32 : g25 a2 160 s2 with
        | none => rw [q32] at H; exact False.elim H
        | some q320 =>
          obtain ⟨v30 | v30, s31⟩ := q320
          · rw [q32] at H; dsimp only at H
            have hc := g25_run (Ω := Ω) htr (d + 6) 36 τ a2 160 s2 q32
            refine xp_ok htr 3 (d + 7) 3 18 [eC (some (.int v30)) (hM 36 s31 τ)] 136 7 [some (.ref 0), some (.int a1), some (.int a2), some (.int a3), some (.int a4), none, none, none, none, none, none] [] (hM 36 s2 τ) ⟨hc, ?_⟩
            show xv l Ω (d + 7) 3 18 136 14 [some (.ref 0), some (.int a1), some (.int a2), some (.int a3), some (.int a4), none, none, none, none, none, none] [.int v30] (hM 36 s31 τ) r
            by_cases h33 : v30 = 0
            · rw [if_pos h33] at H
              refine xp_ok htr 1 (d + 7) 3 18 [eB true] 136 14 [some (.ref 0), some (.int a1), some (.int a2), some (.int a3), some (.int a4), none, none, none, none, none, none] [.int v30] (hM 36 s31 τ) ⟨h33, ?_⟩
              show xv l Ω (d + 7) 3 18 136 30 [some (.ref 0), some (.int a1), some (.int a2), some (.int a3), some (.int a4), none, none, none, none, none, none] [] (hM 36 s31 τ) r
              exact xv_sub (L' := [some (.ref 0), some (.int a1), some (.int a2), some (.int a3), some (.int a4), none, none, none, none, none, none]) ⟨rfl, ⟨rfl, ⟨rfl, ⟨rfl, ⟨rfl, trivial⟩⟩⟩⟩⟩ (g136_30_ok_36 htr d  τ a1 a2 a3 a4 s31 r H)
            · rw [if_neg h33] at H
              refine xp_ok htr 1 (d + 7) 3 18 [eB false] 136 14 [some (.ref 0), some (.int a1), some (.int a2), some (.int a3), some (.int a4), none, none, none, none, none, none] [.int v30] (hM 36 s31 τ) ⟨h33, ?_⟩
              show xv l Ω (d + 7) 3 18 136 17 [some (.ref 0), some (.int a1), some (.int a2), some (.int a3), some (.int a4), none, none, none, none, none, none] [] (hM 36 s31 τ) r
              cases q36 : g25 a3 24 s31 with
              | none => rw [q36] at H; exact False.elim H
              | some q360 =>
                obtain ⟨v34 | v34, s35⟩ := q360
                · rw [q36] at H; dsimp only at H
                  have hc := g25_run (Ω := Ω) htr (d + 6) 36 τ a3 24 s31 q36
                  refine xp_ok htr 3 (d + 7) 3 18 [eC (some (.int v34)) (hM 36 s35 τ)] 136 17 [some (.ref 0), some (.int a1), some (.int a2), some (.int a3), some (.int a4), none, none, none, none, none, none] [] (hM 36 s31 τ) ⟨hc, ?_⟩
                  show xv l Ω (d + 7) 3 18 136 23 [some (.ref 0), some (.int a1), some (.int a2), some (.int a3), some (.int a4), none, none, none, none, none, none] [.int v34] (hM 36 s35 τ) r
                  by_cases h37 : v34 = 0
                  · rw [if_pos h37] at H
                    refine xp_ok htr 1 (d + 7) 3 18 [eB true] 136 23 [some (.ref 0), some (.int a1), some (.int a2), some (.int a3), some (.int a4), none, none, none, none, none, none] [.int v34] (hM 36 s35 τ) ⟨h37, ?_⟩
                    show xv l Ω (d + 7) 3 18 136 30 [some (.ref 0), some (.int a1), some (.int a2), some (.int a3), some (.int a4), none, none, none, none, none, none] [] (hM 36 s35 τ) r
                    exact xv_sub (L' := [some (.ref 0), some (.int a1), some (.int a2), some (.int a3), some (.int a4), none, none, none, none, none, none]) ⟨rfl, ⟨rfl, ⟨rfl, ⟨rfl, ⟨rfl, trivial⟩⟩⟩⟩⟩ (g136_30_ok_36 htr d  τ a1 a2 a3 a4 s35 r H)
                  · rw [if_neg h37] at H
                    refine xp_ok htr 1 (d + 7) 3 18 [eB false] 136 23 [some (.ref 0), some (.int a1), some (.int a2), some (.int a3), some (.int a4), none, none, none, none, none, none] [.int v34] (hM 36 s35 τ) ⟨h37, ?_⟩
                    show xv l Ω (d + 7) 3 18 136 26 [some (.ref 0), some (.int a1), some (.int a2), some (.int a3), some (.int a4), none, none, none, none, none, none] [] (hM 36 s35 τ) r
                    refine xp_ok htr 2 (d + 7) 3 18 [] 136 26 [some (.ref 0), some (.int a1), some (.int a2), some (.int a3), some (.int a4), none, none, none, none, none, none] [] (hM 36 s35 τ) ?_
                    show xv l Ω (d + 7) 3 18 136 31 [some (.ref 0), some (.int a1), some (.int a2), some (.int a3), some (.int a4), none, none, none, none, none, none] [.int 1] (hM 36 s35 τ) r
                    exact xv_sub (L' := [some (.ref 0), some (.int a1), some (.int a2), some (.int a3), some (.int a4), none, none, none, none, none, none]) ⟨rfl, ⟨rfl, ⟨rfl, ⟨rfl, ⟨rfl, trivial⟩⟩⟩⟩⟩ (g136_31_ok_36 htr d  τ a1 a2 a3 a4 1 s35 r H)
                · rw [q36] at H; exact False.elim H
          · rw [q32] at H; exact False.elim H
    · rw [q3] at H; exact False.elim H
/- AccessDesk$Book.isKept -/
def g144 (a1 : Int32) (σ : xS) : xO := (match g16 σ with | some (Sum.inl v1, s2) => (if a1 < v1 then some ((Sum.inl 0, s2)) else (if (s2 51 1) ≤ a1 then some ((Sum.inl 0, s2)) else some ((Sum.inl 1, s2)))) | some (Sum.inr v1, s2) => none | none => none)
theorem g144_run {l : Launch} {Ω : xo_O} (htr : xH l) (d : Nat) (p : Nat) (τ : Nat → Nat → Int64) (a1 : Int32) (σ : xS) {q : xQ} (hq : g144 a1 σ = some q) : xv l Ω (d + 2) 0 0 144 0 (xs_loc (xm_l 144) [.ref 51, .int a1]) [] (hM p σ τ) (xq_R false p τ q) := by
  have H : xo (xB false p τ (xq_R false p τ q)) (g144 a1 σ) := by rw [hq]; exact rfl
  generalize xq_R false p τ q = r at H ⊢
  show xv l Ω (d + 2) 0 0 144 0 [some (.ref 51), some (.int a1)] [] (hM p σ τ) r
  unfold g144 at H
  cases q3 : g16 σ with
  | none => rw [q3] at H; exact False.elim H
  | some q30 =>
    obtain ⟨v1 | v1, s2⟩ := q30
    · rw [q3] at H; dsimp only at H
      have hc := g16_run (Ω := Ω) htr d p τ  σ q3
      refine xp_ok htr 3 (d + 2) 0 0 [eC (some (.int v1)) (hM p s2 τ)] 144 0 [some (.ref 51), some (.int a1)] [] (hM p σ τ) ⟨hc, ?_⟩
      show xv l Ω (d + 2) 0 0 144 5 [some (.ref 51), some (.int a1)] [.int v1, .int a1] (hM p s2 τ) r
      by_cases h4 : a1 < v1
      · rw [if_pos h4] at H
        refine xp_ok htr 1 (d + 2) 0 0 [eB true] 144 5 [some (.ref 51), some (.int a1)] [.int v1, .int a1] (hM p s2 τ) ⟨h4, ?_⟩
        show xv l Ω (d + 2) 0 0 144 20 [some (.ref 51), some (.int a1)] [] (hM p s2 τ) r
        exact xp_ok htr 2 (d + 2) 0 0 [] 144 20 [some (.ref 51), some (.int a1)] [] (hM p s2 τ) ⟨Or.inl rfl, (Eq.symm H)⟩
      · rw [if_neg h4] at H
        refine xp_ok htr 1 (d + 2) 0 0 [eB false] 144 5 [some (.ref 51), some (.int a1)] [.int v1, .int a1] (hM p s2 τ) ⟨h4, ?_⟩
        show xv l Ω (d + 2) 0 0 144 8 [some (.ref 51), some (.int a1)] [] (hM p s2 τ) r
        by_cases h5 : (s2 51 1) ≤ a1
        · rw [if_pos h5] at H
          refine xp_ok htr 4 (d + 2) 0 0 [eB true] 144 8 [some (.ref 51), some (.int a1)] [] (hM p s2 τ) ⟨h5, ?_⟩
          show xv l Ω (d + 2) 0 0 144 20 [some (.ref 51), some (.int a1)] [] (hM p s2 τ) r
          exact xp_ok htr 2 (d + 2) 0 0 [] 144 20 [some (.ref 51), some (.int a1)] [] (hM p s2 τ) ⟨Or.inl rfl, (Eq.symm H)⟩
        · rw [if_neg h5] at H
          refine xp_ok htr 4 (d + 2) 0 0 [eB false] 144 8 [some (.ref 51), some (.int a1)] [] (hM p s2 τ) ⟨h5, ?_⟩
          show xv l Ω (d + 2) 0 0 144 16 [some (.ref 51), some (.int a1)] [] (hM p s2 τ) r
          exact xp_ok htr 3 (d + 2) 0 0 [] 144 16 [some (.ref 51), some (.int a1)] [] (hM p s2 τ) ⟨Or.inr rfl, (Eq.symm H)⟩
    · rw [q3] at H; exact False.elim H
/- AccessDesk.demandKept -/
def g143 (a1 : Int32) (σ : xS) : xO := (match g144 a1 σ with | some (Sum.inl v1, s2) => (if v1 = 0 then some ((Sum.inr 3, s2)) else some ((Sum.inl 0, s2))) | some (Sum.inr v1, s2) => none | none => none)
theorem g143_run {l : Launch} {Ω : xo_O} (htr : xH l) (d : Nat) (p : Nat) (τ : Nat → Nat → Int64) (a1 : Int32) (σ : xS) {q : xQ} (hq : g143 a1 σ = some q) : xv l Ω (d + 6) 1 6 143 0 (xs_loc (xm_l 143) [.ref 0, .int a1]) [] (hM p σ τ) (xq_R true p τ q) := by
  have H : xo (xB true p τ (xq_R true p τ q)) (g143 a1 σ) := by rw [hq]; exact rfl
  generalize xq_R true p τ q = r at H ⊢
  show xv l Ω (d + 6) 1 6 143 0 [some (.ref 0), some (.int a1)] [] (hM p σ τ) r
  unfold g143 at H
  cases q3 : g144 a1 σ with
  | none => rw [q3] at H; exact False.elim H
  | some q30 =>
    obtain ⟨v1 | v1, s2⟩ := q30
    · rw [q3] at H; dsimp only at H
      have hc := g144_run (Ω := Ω) htr (d + 3) p τ a1 σ q3
      refine xp_ok htr 4 (d + 6) 1 6 [eC (some (.int v1)) (hM p s2 τ)] 143 0 [some (.ref 0), some (.int a1)] [] (hM p σ τ) ⟨hc, ?_⟩
      show xv l Ω (d + 6) 1 6 143 8 [some (.ref 0), some (.int a1)] [.int v1] (hM p s2 τ) r
      by_cases h4 : v1 = 0
      · rw [if_pos h4] at H
        refine xp_ok htr 1 (d + 6) 1 6 [eB false] 143 8 [some (.ref 0), some (.int a1)] [.int v1] (hM p s2 τ) ⟨h4, ?_⟩
        show xv l Ω (d + 6) 1 6 143 11 [some (.ref 0), some (.int a1)] [] (hM p s2 τ) r
        exact xp_ok htr 1 (d + 6) 1 6 [] 143 11 [some (.ref 0), some (.int a1)] [] (hM p s2 τ) (Eq.symm H)
      · rw [if_neg h4] at H
        refine xp_ok htr 1 (d + 6) 1 6 [eB true] 143 8 [some (.ref 0), some (.int a1)] [.int v1] (hM p s2 τ) ⟨h4, ?_⟩
        show xv l Ω (d + 6) 1 6 143 19 [some (.ref 0), some (.int a1)] [] (hM p s2 τ) r
        exact xp_ok htr 1 (d + 6) 1 6 [] 143 19 [some (.ref 0), some (.int a1)] [] (hM p s2 τ) ⟨trivial, (Eq.symm H)⟩
    · rw [q3] at H; exact False.elim H
/- AccessDesk.entry -/
def g142 (a1 : Int32) (a2 : Int32) (σ : xS) : xO := (match g25 a2 7 σ with | some (Sum.inl v1, s2) => (match g26 v1 s2 with | some (Sum.inl v4, s5) => (if a1 = (-1) then some ((Sum.inl (s5 51 1), s5)) else (match g143 a1 s5 with | some (Sum.inl v8, s9) => (match g19 a1 a2 s9 with | some (Sum.inl v11, s12) => some ((Sum.inl v11, s12)) | some (Sum.inr v11, s12) => none | none => none) | some (Sum.inr v8, s9) => some ((Sum.inr v8, s9)) | none => none)) | some (Sum.inr v4, s5) => some ((Sum.inr v4, s5)) | none => none) | some (Sum.inr v1, s2) => none | none => none)
theorem g142_run {l : Launch} {Ω : xo_O} (htr : xH l) (d : Nat) (p : Nat) (τ : Nat → Nat → Int64) (a1 : Int32) (a2 : Int32) (σ : xS) {q : xQ} (hq : g142 a1 a2 σ = some q) : xv l Ω (d + 7) 2 12 142 0 (xs_loc (xm_l 142) [.ref 0, .int a1, .int a2]) [] (hM p σ τ) (xq_R false p τ q) := by
  have H : xo (xB false p τ (xq_R false p τ q)) (g142 a1 a2 σ) := by rw [hq]; exact rfl
  generalize xq_R false p τ q = r at H ⊢
  show xv l Ω (d + 7) 2 12 142 0 [some (.ref 0), some (.int a1), some (.int a2)] [] (hM p σ τ) r
  unfold g142 at H
  cases q3 : g25 a2 7 σ with
  | none => rw [q3] at H; exact False.elim H
  | some q30 =>
    obtain ⟨v1 | v1, s2⟩ := q30
    · rw [q3] at H; dsimp only at H
      have hc := g25_run (Ω := Ω) htr (d + 6) p τ a2 7 σ q3
      refine xp_ok htr 3 (d + 7) 2 12 [eC (some (.int v1)) (hM p s2 τ)] 142 0 [some (.ref 0), some (.int a1), some (.int a2)] [] (hM p σ τ) ⟨hc, ?_⟩
      show xv l Ω (d + 7) 2 12 142 6 [some (.ref 0), some (.int a1), some (.int a2)] [.int v1] (hM p s2 τ) r
      cases q6 : g26 v1 s2 with
      | none => rw [q6] at H; exact False.elim H
      | some q60 =>
        obtain ⟨v4 | v4, s5⟩ := q60
        · rw [q6] at H; dsimp only at H
          have hc := g26_run (Ω := Ω) htr d p τ v1 s2 q6
          refine xp_ok htr 1 (d + 7) 2 12 [eN none (hM p s5 τ) 1 6] 142 6 [some (.ref 0), some (.int a1), some (.int a2)] [.int v1] (hM p s2 τ) ⟨hc, ?_⟩
          show xv l Ω (d + 7) 1 6 142 9 [some (.ref 0), some (.int a1), some (.int a2)] [] (hM p s5 τ) r
          by_cases h7 : a1 = (-1)
          · rw [if_pos h7] at H
            refine xp_ok htr 3 (d + 7) 1 6 [eB false] 142 9 [some (.ref 0), some (.int a1), some (.int a2)] [] (hM p s5 τ) ⟨h7, ?_⟩
            show xv l Ω (d + 7) 1 6 142 14 [some (.ref 0), some (.int a1), some (.int a2)] [] (hM p s5 τ) r
            exact xp_ok htr 4 (d + 7) 1 6 [] 142 14 [some (.ref 0), some (.int a1), some (.int a2)] [] (hM p s5 τ) ⟨trivial, (Eq.symm H)⟩
          · rw [if_neg h7] at H
            refine xp_ok htr 3 (d + 7) 1 6 [eB true] 142 9 [some (.ref 0), some (.int a1), some (.int a2)] [] (hM p s5 τ) ⟨h7, ?_⟩
            show xv l Ω (d + 7) 1 6 142 22 [some (.ref 0), some (.int a1), some (.int a2)] [] (hM p s5 τ) r
            cases q10 : g143 a1 s5 with
            | none => rw [q10] at H; exact False.elim H
            | some q100 =>
              obtain ⟨v8 | v8, s9⟩ := q100
              · rw [q10] at H; dsimp only at H
                have hc := g143_run (Ω := Ω) htr d p τ a1 s5 q10
                refine xp_ok htr 3 (d + 7) 1 6 [eN none (hM p s9 τ) 1 6] 142 22 [some (.ref 0), some (.int a1), some (.int a2)] [] (hM p s5 τ) ⟨hc, ?_⟩
                show xv l Ω (d + 7) 0 0 142 27 [some (.ref 0), some (.int a1), some (.int a2)] [] (hM p s9 τ) r
                cases q13 : g19 a1 a2 s9 with
                | none => rw [q13] at H; exact False.elim H
                | some q130 =>
                  obtain ⟨v11 | v11, s12⟩ := q130
                  · rw [q13] at H; dsimp only at H
                    have hc := g19_run (Ω := Ω) htr (d + 4) p τ a1 a2 s9 q13
                    refine xp_ok htr 5 (d + 7) 0 0 [eC (some (.int v11)) (hM p s12 τ)] 142 27 [some (.ref 0), some (.int a1), some (.int a2)] [] (hM p s9 τ) ⟨hc, ?_⟩
                    show xv l Ω (d + 7) 0 0 142 36 [some (.ref 0), some (.int a1), some (.int a2)] [.int v11] (hM p s12 τ) r
                    exact xp_ok htr 1 (d + 7) 0 0 [] 142 36 [some (.ref 0), some (.int a1), some (.int a2)] [.int v11] (hM p s12 τ) ⟨trivial, (Eq.symm H)⟩
                  · rw [q13] at H; exact False.elim H
              · rw [q10] at H; dsimp only at H
                have hc := g143_run (Ω := Ω) htr d p τ a1 s5 q10
                exact xp_ok htr 3 (d + 7) 1 6 [eT v8 (hM p s9 τ) 1 6] 142 22 [some (.ref 0), some (.int a1), some (.int a2)] [] (hM p s5 τ) ⟨hc, (Eq.symm H)⟩
        · rw [q6] at H; dsimp only at H
          have hc := g26_run (Ω := Ω) htr d p τ v1 s2 q6
          exact xp_ok htr 1 (d + 7) 2 12 [eT v4 (hM p s5 τ) 1 6] 142 6 [some (.ref 0), some (.int a1), some (.int a2)] [.int v1] (hM p s2 τ) ⟨hc, (Eq.symm H)⟩
    · rw [q3] at H; exact False.elim H
/- AccessDesk$Book.turn -/
def g147 (a1 : Int32) (a2 : Int32) (a3 : Int32) (σ : xS) : xO := (match g20 a1 σ with | some (Sum.inl v1, s2) => (bif xn (v1 + a2) 280 then some ((Sum.inl 0, (xh_ui s2 52 (Int32.toNatClampNeg (v1 + a2)) ((s2 52 (Int32.toNatClampNeg (v1 + a2))) ^^^ a3)))) else none) | some (Sum.inr v1, s2) => none | none => none)
theorem g147_run {l : Launch} {Ω : xo_O} (htr : xH l) (d : Nat) (p : Nat) (τ : Nat → Nat → Int64) (a1 : Int32) (a2 : Int32) (a3 : Int32) (σ : xS) {q : xQ} (hq : g147 a1 a2 a3 σ = some q) : xv l Ω (d + 2) 0 0 147 0 (xs_loc (xm_l 147) [.ref 51, .int a1, .int a2, .int a3]) [] (hM p σ τ) (xq_R true p τ q) := by
  have H : xo (xB true p τ (xq_R true p τ q)) (g147 a1 a2 a3 σ) := by rw [hq]; exact rfl
  generalize xq_R true p τ q = r at H ⊢
  show xv l Ω (d + 2) 0 0 147 0 [some (.ref 51), some (.int a1), some (.int a2), some (.int a3)] [] (hM p σ τ) r
  unfold g147 at H
  cases q3 : g20 a1 σ with
  | none => rw [q3] at H; exact False.elim H
  | some q30 =>
    obtain ⟨v1 | v1, s2⟩ := q30
    · rw [q3] at H; dsimp only at H
      have hc := g20_run (Ω := Ω) htr d p τ a1 σ q3
      refine xp_ok htr 4 (d + 2) 0 0 [eC (some (.int v1)) (hM p s2 τ)] 147 0 [some (.ref 51), some (.int a1), some (.int a2), some (.int a3)] [] (hM p σ τ) ⟨hc, ?_⟩
      show xv l Ω (d + 2) 0 0 147 8 [some (.ref 51), some (.int a1), some (.int a2), some (.int a3)] [.int v1, .ref 52] (hM p s2 τ) r
      cases g4 : xn (v1 + a2) 280 with
      | false => rw [g4, cond_false] at H; exact False.elim H
      | true =>
        rw [g4, cond_true] at H
        exact xp_ok htr 8 (d + 2) 0 0 [] 147 8 [some (.ref 51), some (.int a1), some (.int a2), some (.int a3)] [.int v1, .ref 52] (hM p s2 τ) ⟨(xn_in g4), (xn_in g4), trivial, (Eq.symm H)⟩
    · rw [q3] at H; exact False.elim H
/- AccessDesk.touch -/
def g146 (a1 : Int32) (a2 : Int32) (a3 : Int32) (σ : xS) : xO := (match g25 a2 6 σ with | some (Sum.inl v1, s2) => (match g26 v1 s2 with | some (Sum.inl v4, s5) => (match g143 a1 s5 with | some (Sum.inl v7, s8) => (match g147 a1 a2 a3 s8 with | some (Sum.inl v10, s11) => some ((Sum.inl 0, s11)) | some (Sum.inr v10, s11) => none | none => none) | some (Sum.inr v7, s8) => some ((Sum.inr v7, s8)) | none => none) | some (Sum.inr v4, s5) => some ((Sum.inr v4, s5)) | none => none) | some (Sum.inr v1, s2) => none | none => none)
theorem g146_run {l : Launch} {Ω : xo_O} (htr : xH l) (d : Nat) (p : Nat) (τ : Nat → Nat → Int64) (a1 : Int32) (a2 : Int32) (a3 : Int32) (σ : xS) {q : xQ} (hq : g146 a1 a2 a3 σ = some q) : xv l Ω (d + 7) 2 12 146 0 (xs_loc (xm_l 146) [.ref 0, .int a1, .int a2, .int a3]) [] (hM p σ τ) (xq_R true p τ q) := by
  have H : xo (xB true p τ (xq_R true p τ q)) (g146 a1 a2 a3 σ) := by rw [hq]; exact rfl
  generalize xq_R true p τ q = r at H ⊢
  show xv l Ω (d + 7) 2 12 146 0 [some (.ref 0), some (.int a1), some (.int a2), some (.int a3)] [] (hM p σ τ) r
  unfold g146 at H
  cases q3 : g25 a2 6 σ with
  | none => rw [q3] at H; exact False.elim H
  | some q30 =>
    obtain ⟨v1 | v1, s2⟩ := q30
    · rw [q3] at H; dsimp only at H
      have hc := g25_run (Ω := Ω) htr (d + 6) p τ a2 6 σ q3
      refine xp_ok htr 3 (d + 7) 2 12 [eC (some (.int v1)) (hM p s2 τ)] 146 0 [some (.ref 0), some (.int a1), some (.int a2), some (.int a3)] [] (hM p σ τ) ⟨hc, ?_⟩
      show xv l Ω (d + 7) 2 12 146 6 [some (.ref 0), some (.int a1), some (.int a2), some (.int a3)] [.int v1] (hM p s2 τ) r
      cases q6 : g26 v1 s2 with
      | none => rw [q6] at H; exact False.elim H
      | some q60 =>
        obtain ⟨v4 | v4, s5⟩ := q60
        · rw [q6] at H; dsimp only at H
          have hc := g26_run (Ω := Ω) htr d p τ v1 s2 q6
          refine xp_ok htr 1 (d + 7) 2 12 [eN none (hM p s5 τ) 1 6] 146 6 [some (.ref 0), some (.int a1), some (.int a2), some (.int a3)] [.int v1] (hM p s2 τ) ⟨hc, ?_⟩
          show xv l Ω (d + 7) 1 6 146 9 [some (.ref 0), some (.int a1), some (.int a2), some (.int a3)] [] (hM p s5 τ) r
          cases q9 : g143 a1 s5 with
          | none => rw [q9] at H; exact False.elim H
          | some q90 =>
            obtain ⟨v7 | v7, s8⟩ := q90
            · rw [q9] at H; dsimp only at H
              have hc := g143_run (Ω := Ω) htr d p τ a1 s5 q9
              refine xp_ok htr 3 (d + 7) 1 6 [eN none (hM p s8 τ) 1 6] 146 9 [some (.ref 0), some (.int a1), some (.int a2), some (.int a3)] [] (hM p s5 τ) ⟨hc, ?_⟩
              show xv l Ω (d + 7) 0 0 146 14 [some (.ref 0), some (.int a1), some (.int a2), some (.int a3)] [] (hM p s8 τ) r
              cases q12 : g147 a1 a2 a3 s8 with
              | none => rw [q12] at H; exact False.elim H
              | some q120 =>
                obtain ⟨v10 | v10, s11⟩ := q120
                · rw [q12] at H; dsimp only at H
                  have hc := g147_run (Ω := Ω) htr (d + 4) p τ a1 a2 a3 s8 q12
                  refine xp_ok htr 6 (d + 7) 0 0 [eC none (hM p s11 τ)] 146 14 [some (.ref 0), some (.int a1), some (.int a2), some (.int a3)] [] (hM p s8 τ) ⟨hc, ?_⟩
                  show xv l Ω (d + 7) 0 0 146 24 [some (.ref 0), some (.int a1), some (.int a2), some (.int a3)] [] (hM p s11 τ) r
                  exact xp_ok htr 1 (d + 7) 0 0 [] 146 24 [some (.ref 0), some (.int a1), some (.int a2), some (.int a3)] [] (hM p s11 τ) ⟨trivial, (Eq.symm H)⟩
                · rw [q12] at H; exact False.elim H
            · rw [q9] at H; dsimp only at H
              have hc := g143_run (Ω := Ω) htr d p τ a1 s5 q9
              exact xp_ok htr 3 (d + 7) 1 6 [eT v7 (hM p s8 τ) 1 6] 146 9 [some (.ref 0), some (.int a1), some (.int a2), some (.int a3)] [] (hM p s5 τ) ⟨hc, (Eq.symm H)⟩
        · rw [q6] at H; dsimp only at H
          have hc := g26_run (Ω := Ω) htr d p τ v1 s2 q6
          exact xp_ok htr 1 (d + 7) 2 12 [eT v4 (hM p s5 τ) 1 6] 146 6 [some (.ref 0), some (.int a1), some (.int a2), some (.int a3)] [.int v1] (hM p s2 τ) ⟨hc, (Eq.symm H)⟩
    · rw [q3] at H; exact False.elim H
/- AccessDeskModel.thrown -/
def g149  (σ : xS) : xO := some ((Sum.inl (σ 53 21), σ))
theorem g149_run {l : Launch} {Ω : xo_O} (htr : xH l) (d : Nat) (p : Nat) (τ : Nat → Nat → Int64)  (σ : xS) {q : xQ} (hq : g149  σ = some q) : xv l Ω d 0 0 149 0 (xs_loc (xm_l 149) [.ref 53]) [] (hM p σ τ) (xq_R false p τ q) := by
  have H : xo (xB false p τ (xq_R false p τ q)) (g149  σ) := by rw [hq]; exact rfl
  generalize xq_R false p τ q = r at H ⊢
  show xv l Ω d 0 0 149 0 [some (.ref 53)] [] (hM p σ τ) r
  unfold g149 at H
  exact xp_ok htr 3 d 0 0 [] 149 0 [some (.ref 53)] [] (hM p σ τ) ⟨trivial, (Eq.symm H)⟩
/- AccessDeskModel.below -/
def g152 (a0 : Int32) (a1 : Int32) (σ : xS) : xO := (if a0 < 0 then some ((Sum.inl 0, σ)) else (if a1 ≤ a0 then some ((Sum.inl 0, σ)) else some ((Sum.inl 1, σ))))
theorem g152_run {l : Launch} {Ω : xo_O} (htr : xH l) (d : Nat) (p : Nat) (τ : Nat → Nat → Int64) (a0 : Int32) (a1 : Int32) (σ : xS) {q : xQ} (hq : g152 a0 a1 σ = some q) : xv l Ω d 0 0 152 0 (xs_loc (xm_l 152) [.int a0, .int a1]) [] (hM p σ τ) (xq_R false p τ q) := by
  have H : xo (xB false p τ (xq_R false p τ q)) (g152 a0 a1 σ) := by rw [hq]; exact rfl
  generalize xq_R false p τ q = r at H ⊢
  show xv l Ω d 0 0 152 0 [some (.int a0), some (.int a1)] [] (hM p σ τ) r
  unfold g152 at H
  by_cases h1 : a0 < 0
  · rw [if_pos h1] at H
    refine xp_ok htr 2 d 0 0 [eB true] 152 0 [some (.int a0), some (.int a1)] [] (hM p σ τ) ⟨h1, ?_⟩
    show xv l Ω d 0 0 152 13 [some (.int a0), some (.int a1)] [] (hM p σ τ) r
    exact xp_ok htr 2 d 0 0 [] 152 13 [some (.int a0), some (.int a1)] [] (hM p σ τ) ⟨Or.inl rfl, (Eq.symm H)⟩
  · rw [if_neg h1] at H
    refine xp_ok htr 2 d 0 0 [eB false] 152 0 [some (.int a0), some (.int a1)] [] (hM p σ τ) ⟨h1, ?_⟩
    show xv l Ω d 0 0 152 4 [some (.int a0), some (.int a1)] [] (hM p σ τ) r
    by_cases h2 : a1 ≤ a0
    · rw [if_pos h2] at H
      refine xp_ok htr 3 d 0 0 [eB true] 152 4 [some (.int a0), some (.int a1)] [] (hM p σ τ) ⟨h2, ?_⟩
      show xv l Ω d 0 0 152 13 [some (.int a0), some (.int a1)] [] (hM p σ τ) r
      exact xp_ok htr 2 d 0 0 [] 152 13 [some (.int a0), some (.int a1)] [] (hM p σ τ) ⟨Or.inl rfl, (Eq.symm H)⟩
    · rw [if_neg h2] at H
      refine xp_ok htr 3 d 0 0 [eB false] 152 4 [some (.int a0), some (.int a1)] [] (hM p σ τ) ⟨h2, ?_⟩
      show xv l Ω d 0 0 152 9 [some (.int a0), some (.int a1)] [] (hM p σ τ) r
      exact xp_ok htr 3 d 0 0 [] 152 9 [some (.int a0), some (.int a1)] [] (hM p σ τ) ⟨Or.inr rfl, (Eq.symm H)⟩
/- AccessDeskModel.areRoles -/
def g151 (a0 : Int32) (a1 : Int32) (σ : xS) : xO := (match g152 a0 12 σ with | some (Sum.inl v1, s2) => (if v1 = 0 then some ((Sum.inl 0, s2)) else (match g152 a1 12 s2 with | some (Sum.inl v5, s6) => (if v5 = 0 then some ((Sum.inl 0, s6)) else some ((Sum.inl 1, s6))) | some (Sum.inr v5, s6) => none | none => none)) | some (Sum.inr v1, s2) => none | none => none)
theorem g151_run {l : Launch} {Ω : xo_O} (htr : xH l) (d : Nat) (p : Nat) (τ : Nat → Nat → Int64) (a0 : Int32) (a1 : Int32) (σ : xS) {q : xQ} (hq : g151 a0 a1 σ = some q) : xv l Ω (d + 1) 0 0 151 0 (xs_loc (xm_l 151) [.int a0, .int a1]) [] (hM p σ τ) (xq_R false p τ q) := by
  have H : xo (xB false p τ (xq_R false p τ q)) (g151 a0 a1 σ) := by rw [hq]; exact rfl
  generalize xq_R false p τ q = r at H ⊢
  show xv l Ω (d + 1) 0 0 151 0 [some (.int a0), some (.int a1)] [] (hM p σ τ) r
  unfold g151 at H
  cases q3 : g152 a0 12 σ with
  | none => rw [q3] at H; exact False.elim H
  | some q30 =>
    obtain ⟨v1 | v1, s2⟩ := q30
    · rw [q3] at H; dsimp only at H
      have hc := g152_run (Ω := Ω) htr d p τ a0 12 σ q3
      refine xp_ok htr 3 (d + 1) 0 0 [eC (some (.int v1)) (hM p s2 τ)] 151 0 [some (.int a0), some (.int a1)] [] (hM p σ τ) ⟨hc, ?_⟩
      show xv l Ω (d + 1) 0 0 151 6 [some (.int a0), some (.int a1)] [.int v1] (hM p s2 τ) r
      by_cases h4 : v1 = 0
      · rw [if_pos h4] at H
        refine xp_ok htr 1 (d + 1) 0 0 [eB true] 151 6 [some (.int a0), some (.int a1)] [.int v1] (hM p s2 τ) ⟨h4, ?_⟩
        show xv l Ω (d + 1) 0 0 151 22 [some (.int a0), some (.int a1)] [] (hM p s2 τ) r
        exact xp_ok htr 2 (d + 1) 0 0 [] 151 22 [some (.int a0), some (.int a1)] [] (hM p s2 τ) ⟨Or.inl rfl, (Eq.symm H)⟩
      · rw [if_neg h4] at H
        refine xp_ok htr 1 (d + 1) 0 0 [eB false] 151 6 [some (.int a0), some (.int a1)] [.int v1] (hM p s2 τ) ⟨h4, ?_⟩
        show xv l Ω (d + 1) 0 0 151 9 [some (.int a0), some (.int a1)] [] (hM p s2 τ) r
        cases q7 : g152 a1 12 s2 with
        | none => rw [q7] at H; exact False.elim H
        | some q70 =>
          obtain ⟨v5 | v5, s6⟩ := q70
          · rw [q7] at H; dsimp only at H
            have hc := g152_run (Ω := Ω) htr d p τ a1 12 s2 q7
            refine xp_ok htr 3 (d + 1) 0 0 [eC (some (.int v5)) (hM p s6 τ)] 151 9 [some (.int a0), some (.int a1)] [] (hM p s2 τ) ⟨hc, ?_⟩
            show xv l Ω (d + 1) 0 0 151 15 [some (.int a0), some (.int a1)] [.int v5] (hM p s6 τ) r
            by_cases h8 : v5 = 0
            · rw [if_pos h8] at H
              refine xp_ok htr 1 (d + 1) 0 0 [eB true] 151 15 [some (.int a0), some (.int a1)] [.int v5] (hM p s6 τ) ⟨h8, ?_⟩
              show xv l Ω (d + 1) 0 0 151 22 [some (.int a0), some (.int a1)] [] (hM p s6 τ) r
              exact xp_ok htr 2 (d + 1) 0 0 [] 151 22 [some (.int a0), some (.int a1)] [] (hM p s6 τ) ⟨Or.inl rfl, (Eq.symm H)⟩
            · rw [if_neg h8] at H
              refine xp_ok htr 1 (d + 1) 0 0 [eB false] 151 15 [some (.int a0), some (.int a1)] [.int v5] (hM p s6 τ) ⟨h8, ?_⟩
              show xv l Ω (d + 1) 0 0 151 18 [some (.int a0), some (.int a1)] [] (hM p s6 τ) r
              exact xp_ok htr 3 (d + 1) 0 0 [] 151 18 [some (.int a0), some (.int a1)] [] (hM p s6 τ) ⟨Or.inr rfl, (Eq.symm H)⟩
          · rw [q7] at H; exact False.elim H
    · rw [q3] at H; exact False.elim H
/- AccessDeskModel.closed -/
def g153_40 (x2 : Int32) (x3 : Int32) (x4 : Int32) (σ : xS) : Option ((Int32 × Int32 × Int32 × xS) ⊕ ((Int32 × Int32 × xS) ⊕ xQ)) := some (Sum.inl (x2, x3, (x4 + 1), σ))
def g153_13b (x2 : Int32) (x3 : Int32) (x4 : Int32) (σ : xS) : Option ((Int32 × Int32 × Int32 × xS) ⊕ ((Int32 × Int32 × xS) ⊕ xQ)) := (if 12 ≤ x4 then some (Sum.inr (Sum.inl (x2, (x3 + 1), σ))) else (if ((x2 >>> (x4 &&& 31)) &&& 1) = 1 then (bif xn x4 12 then g153_40 (x2 ||| (σ 54 (Int32.toNatClampNeg x4))) x3 x4 σ else none) else g153_40 x2 x3 x4 σ))
def g153_13 (x2 : Int32) (x3 : Int32) (x4 : Int32) (σ : xS) : Option ((Int32 × Int32 × xS) ⊕ xQ) := xlo (fun a : Int32 × Int32 × Int32 × xS => g153_13b a.1 a.2.1 a.2.2.1 a.2.2.2) 1000 (x2, x3, x4, σ)
def g153_4b (x2 : Int32) (x3 : Int32) (σ : xS) : Option ((Int32 × Int32 × xS) ⊕ xQ) := (if 12 ≤ x3 then some (Sum.inr ((Sum.inl x2, σ))) else g153_13 x2 x3 0 σ)
def g153_4 (x2 : Int32) (x3 : Int32) (σ : xS) : Option xQ := xlo (fun a : Int32 × Int32 × xS => g153_4b a.1 a.2.1 a.2.2) 1000 (x2, x3, σ)
def g153 (a1 : Int32) (σ : xS) : xO := g153_4 a1 0 σ
def a153_13 (l : Launch) (Ω : xo_O) (d p : Nat) (τ : Nat → Nat → Int64) (r : xv_R) : Int32 × Int32 × Int32 × xS → Prop := fun a => xv l Ω d 0 0 153 13 [some (.ref 53), none, some (.int a.1), some (.int a.2.1), some (.int a.2.2.1)] [] (hM p a.2.2.2 τ) r
def a153_4 (l : Launch) (Ω : xo_O) (d p : Nat) (τ : Nat → Nat → Int64) (r : xv_R) : Int32 × Int32 × xS → Prop := fun a => xv l Ω d 0 0 153 4 [some (.ref 53), none, some (.int a.1), some (.int a.2.1), none] [] (hM p a.2.2 τ) r
theorem g153_40_ok {l : Launch} {Ω : xo_O} (htr : xH l) (d : Nat) (p : Nat) (τ : Nat → Nat → Int64) (x2 : Int32) (x3 : Int32) (x4 : Int32) (σ : xS) (r : xv_R) (H : xo (xd (a153_13 l Ω d p τ r) (xd (a153_4 l Ω d p τ r) (xB false p τ r))) (g153_40 x2 x3 x4 σ)) : xv l Ω d 0 0 153 40 [some (.ref 53), none, some (.int x2), some (.int x3), some (.int x4)] [] (hM p σ τ) r := by
  unfold g153_40 at H
  refine xp_ok htr 2 d 0 0 [] 153 40 [some (.ref 53), none, some (.int x2), some (.int x3), some (.int x4)] [] (hM p σ τ) ?_
  show xv l Ω d 0 0 153 13 [some (.ref 53), none, some (.int x2), some (.int x3), some (.int (x4 + 1))] [] (hM p σ τ) r
  exact xv_sub (L' := [some (.ref 53), none, some (.int x2), some (.int x3), some (.int (x4 + 1))]) ⟨rfl, ⟨rfl, ⟨rfl, ⟨rfl, trivial⟩⟩⟩⟩ H
theorem g153_13b_ok {l : Launch} {Ω : xo_O} (htr : xH l) (d : Nat) (p : Nat) (τ : Nat → Nat → Int64) (x2 : Int32) (x3 : Int32) (x4 : Int32) (σ : xS) (r : xv_R) (H : xo (xd (a153_13 l Ω d p τ r) (xd (a153_4 l Ω d p τ r) (xB false p τ r))) (g153_13b x2 x3 x4 σ)) : xv l Ω d 0 0 153 13 [some (.ref 53), none, some (.int x2), some (.int x3), some (.int x4)] [] (hM p σ τ) r := by
  unfold g153_13b at H
  by_cases h2 : 12 ≤ x4
  · rw [if_pos h2] at H
    refine xp_ok htr 3 d 0 0 [eB true] 153 13 [some (.ref 53), none, some (.int x2), some (.int x3), some (.int x4)] [] (hM p σ τ) ⟨h2, ?_⟩
    show xv l Ω d 0 0 153 46 [some (.ref 53), none, some (.int x2), some (.int x3), some (.int x4)] [] (hM p σ τ) r
    refine xp_ok htr 2 d 0 0 [] 153 46 [some (.ref 53), none, some (.int x2), some (.int x3), some (.int x4)] [] (hM p σ τ) ?_
    show xv l Ω d 0 0 153 4 [some (.ref 53), none, some (.int x2), some (.int (x3 + 1)), some (.int x4)] [] (hM p σ τ) r
    exact xv_sub (L' := [some (.ref 53), none, some (.int x2), some (.int (x3 + 1)), none]) ⟨rfl, ⟨rfl, ⟨rfl, trivial⟩⟩⟩ H
  · rw [if_neg h2] at H
    refine xp_ok htr 3 d 0 0 [eB false] 153 13 [some (.ref 53), none, some (.int x2), some (.int x3), some (.int x4)] [] (hM p σ τ) ⟨h2, ?_⟩
    show xv l Ω d 0 0 153 20 [some (.ref 53), none, some (.int x2), some (.int x3), some (.int x4)] [] (hM p σ τ) r
    by_cases h3 : ((x2 >>> (x4 &&& 31)) &&& 1) = 1
    · rw [if_pos h3] at H
      refine xp_ok htr 7 d 0 0 [eB false] 153 20 [some (.ref 53), none, some (.int x2), some (.int x3), some (.int x4)] [] (hM p σ τ) ⟨h3, ?_⟩
      show xv l Ω d 0 0 153 30 [some (.ref 53), none, some (.int x2), some (.int x3), some (.int x4)] [] (hM p σ τ) r
      cases g4 : xn x4 12 with
      | false => rw [g4, cond_false] at H; exact False.elim H
      | true =>
        rw [g4, cond_true] at H
        refine xp_ok htr 7 d 0 0 [] 153 30 [some (.ref 53), none, some (.int x2), some (.int x3), some (.int x4)] [] (hM p σ τ) ⟨(xn_in g4), ?_⟩
        show xv l Ω d 0 0 153 40 [some (.ref 53), none, some (.int (x2 ||| (σ 54 (Int32.toNatClampNeg x4)))), some (.int x3), some (.int x4)] [] (hM p σ τ) r
        exact xv_sub (L' := [some (.ref 53), none, some (.int (x2 ||| (σ 54 (Int32.toNatClampNeg x4)))), some (.int x3), some (.int x4)]) ⟨rfl, ⟨rfl, ⟨rfl, ⟨rfl, trivial⟩⟩⟩⟩ (g153_40_ok htr d p τ (x2 ||| (σ 54 (Int32.toNatClampNeg x4))) x3 x4 σ r H)
    · rw [if_neg h3] at H
      refine xp_ok htr 7 d 0 0 [eB true] 153 20 [some (.ref 53), none, some (.int x2), some (.int x3), some (.int x4)] [] (hM p σ τ) ⟨h3, ?_⟩
      show xv l Ω d 0 0 153 40 [some (.ref 53), none, some (.int x2), some (.int x3), some (.int x4)] [] (hM p σ τ) r
      exact xv_sub (L' := [some (.ref 53), none, some (.int x2), some (.int x3), some (.int x4)]) ⟨rfl, ⟨rfl, ⟨rfl, ⟨rfl, trivial⟩⟩⟩⟩ (g153_40_ok htr d p τ x2 x3 x4 σ r H)
theorem g153_13_ok {l : Launch} {Ω : xo_O} (htr : xH l) (d : Nat) (p : Nat) (τ : Nat → Nat → Int64) (x2 : Int32) (x3 : Int32) (x4 : Int32) (σ : xS) (r : xv_R) (H : xo (xd (a153_4 l Ω d p τ r) (xB false p τ r)) (g153_13 x2 x3 x4 σ)) : xv l Ω d 0 0 153 13 [some (.ref 53), none, some (.int x2), some (.int x3), some (.int x4)] [] (hM p σ τ) r :=
  xlo_ok (A := a153_13 l Ω d p τ r) (fun a H => g153_13b_ok htr d p τ a.1 a.2.1 a.2.2.1 a.2.2.2 r H) 1000 (x2, x3, x4, σ) H
theorem g153_4b_ok {l : Launch} {Ω : xo_O} (htr : xH l) (d : Nat) (p : Nat) (τ : Nat → Nat → Int64) (x2 : Int32) (x3 : Int32) (σ : xS) (r : xv_R) (H : xo (xd (a153_4 l Ω d p τ r) (xB false p τ r)) (g153_4b x2 x3 σ)) : xv l Ω d 0 0 153 4 [some (.ref 53), none, some (.int x2), some (.int x3), none] [] (hM p σ τ) r := by
  unfold g153_4b at H
  by_cases h1 : 12 ≤ x3
  · rw [if_pos h1] at H
    refine xp_ok htr 3 d 0 0 [eB true] 153 4 [some (.ref 53), none, some (.int x2), some (.int x3), none] [] (hM p σ τ) ⟨h1, ?_⟩
    show xv l Ω d 0 0 153 52 [some (.ref 53), none, some (.int x2), some (.int x3), none] [] (hM p σ τ) r
    exact xp_ok htr 2 d 0 0 [] 153 52 [some (.ref 53), none, some (.int x2), some (.int x3), none] [] (hM p σ τ) ⟨trivial, (Eq.symm H)⟩
  · rw [if_neg h1] at H
    refine xp_ok htr 3 d 0 0 [eB false] 153 4 [some (.ref 53), none, some (.int x2), some (.int x3), none] [] (hM p σ τ) ⟨h1, ?_⟩
    show xv l Ω d 0 0 153 10 [some (.ref 53), none, some (.int x2), some (.int x3), none] [] (hM p σ τ) r
    refine xp_ok htr 2 d 0 0 [] 153 10 [some (.ref 53), none, some (.int x2), some (.int x3), none] [] (hM p σ τ) ?_
    show xv l Ω d 0 0 153 13 [some (.ref 53), none, some (.int x2), some (.int x3), some (.int 0)] [] (hM p σ τ) r
    exact xv_sub (L' := [some (.ref 53), none, some (.int x2), some (.int x3), some (.int 0)]) ⟨rfl, ⟨rfl, ⟨rfl, ⟨rfl, trivial⟩⟩⟩⟩ (g153_13_ok htr d p τ x2 x3 0 σ r H)
theorem g153_4_ok {l : Launch} {Ω : xo_O} (htr : xH l) (d : Nat) (p : Nat) (τ : Nat → Nat → Int64) (x2 : Int32) (x3 : Int32) (σ : xS) (r : xv_R) (H : xo (xB false p τ r) (g153_4 x2 x3 σ)) : xv l Ω d 0 0 153 4 [some (.ref 53), none, some (.int x2), some (.int x3), none] [] (hM p σ τ) r :=
  xlo_ok (A := a153_4 l Ω d p τ r) (fun a H => g153_4b_ok htr d p τ a.1 a.2.1 a.2.2 r H) 1000 (x2, x3, σ) H
theorem g153_run {l : Launch} {Ω : xo_O} (htr : xH l) (d : Nat) (p : Nat) (τ : Nat → Nat → Int64) (a1 : Int32) (σ : xS) {q : xQ} (hq : g153 a1 σ = some q) : xv l Ω d 0 0 153 0 (xs_loc (xm_l 153) [.ref 53, .int a1]) [] (hM p σ τ) (xq_R false p τ q) := by
  have H : xo (xB false p τ (xq_R false p τ q)) (g153 a1 σ) := by rw [hq]; exact rfl
  generalize xq_R false p τ q = r at H ⊢
  show xv l Ω d 0 0 153 0 [some (.ref 53), some (.int a1), none, none, none] [] (hM p σ τ) r
  unfold g153 at H
  refine xp_ok htr 4 d 0 0 [] 153 0 [some (.ref 53), some (.int a1), none, none, none] [] (hM p σ τ) ?_
  show xv l Ω d 0 0 153 4 [some (.ref 53), some (.int a1), some (.int a1), some (.int 0), none] [] (hM p σ τ) r
  exact xv_sub (L' := [some (.ref 53), none, some (.int a1), some (.int 0), none]) ⟨rfl, ⟨rfl, ⟨rfl, trivial⟩⟩⟩ (g153_4_ok htr d p τ a1 0 σ r H)
/- AccessDeskModel.many -/
def g156_4b (x0 : Int32) (x1 : Int32) (x2 : Int32) (σ : xS) : Option ((Int32 × Int32 × Int32 × xS) ⊕ xQ) := (if 12 ≤ x2 then some (Sum.inr ((Sum.inl x1, σ))) else some (Sum.inl (x0, (x1 + ((x0 >>> (x2 &&& 31)) &&& 1)), (x2 + 1), σ)))
def g156_4 (x0 : Int32) (x1 : Int32) (x2 : Int32) (σ : xS) : Option xQ := xlo (fun a : Int32 × Int32 × Int32 × xS => g156_4b a.1 a.2.1 a.2.2.1 a.2.2.2) 1000 (x0, x1, x2, σ)
def g156 (a0 : Int32) (σ : xS) : xO := g156_4 a0 0 0 σ
def a156_4 (l : Launch) (Ω : xo_O) (d p : Nat) (τ : Nat → Nat → Int64) (r : xv_R) : Int32 × Int32 × Int32 × xS → Prop := fun a => xv l Ω d 0 0 156 4 [some (.int a.1), some (.int a.2.1), some (.int a.2.2.1)] [] (hM p a.2.2.2 τ) r
theorem g156_4b_ok {l : Launch} {Ω : xo_O} (htr : xH l) (d : Nat) (p : Nat) (τ : Nat → Nat → Int64) (x0 : Int32) (x1 : Int32) (x2 : Int32) (σ : xS) (r : xv_R) (H : xo (xd (a156_4 l Ω d p τ r) (xB false p τ r)) (g156_4b x0 x1 x2 σ)) : xv l Ω d 0 0 156 4 [some (.int x0), some (.int x1), some (.int x2)] [] (hM p σ τ) r := by
  unfold g156_4b at H
  by_cases h1 : 12 ≤ x2
  · rw [if_pos h1] at H
    refine xp_ok htr 3 d 0 0 [eB true] 156 4 [some (.int x0), some (.int x1), some (.int x2)] [] (hM p σ τ) ⟨h1, ?_⟩
    show xv l Ω d 0 0 156 24 [some (.int x0), some (.int x1), some (.int x2)] [] (hM p σ τ) r
    exact xp_ok htr 2 d 0 0 [] 156 24 [some (.int x0), some (.int x1), some (.int x2)] [] (hM p σ τ) ⟨trivial, (Eq.symm H)⟩
  · rw [if_neg h1] at H
    refine xp_ok htr 3 d 0 0 [eB false] 156 4 [some (.int x0), some (.int x1), some (.int x2)] [] (hM p σ τ) ⟨h1, ?_⟩
    show xv l Ω d 0 0 156 10 [some (.int x0), some (.int x1), some (.int x2)] [] (hM p σ τ) r
    refine xp_ok htr 8 d 0 0 [] 156 10 [some (.int x0), some (.int x1), some (.int x2)] [] (hM p σ τ) ?_
    show xv l Ω d 0 0 156 18 [some (.int x0), some (.int (x1 + ((x0 >>> (x2 &&& 31)) &&& 1))), some (.int x2)] [] (hM p σ τ) r
    refine xp_ok htr 2 d 0 0 [] 156 18 [some (.int x0), some (.int (x1 + ((x0 >>> (x2 &&& 31)) &&& 1))), some (.int x2)] [] (hM p σ τ) ?_
    show xv l Ω d 0 0 156 4 [some (.int x0), some (.int (x1 + ((x0 >>> (x2 &&& 31)) &&& 1))), some (.int (x2 + 1))] [] (hM p σ τ) r
    exact xv_sub (L' := [some (.int x0), some (.int (x1 + ((x0 >>> (x2 &&& 31)) &&& 1))), some (.int (x2 + 1))]) ⟨rfl, ⟨rfl, ⟨rfl, trivial⟩⟩⟩ H
theorem g156_4_ok {l : Launch} {Ω : xo_O} (htr : xH l) (d : Nat) (p : Nat) (τ : Nat → Nat → Int64) (x0 : Int32) (x1 : Int32) (x2 : Int32) (σ : xS) (r : xv_R) (H : xo (xB false p τ r) (g156_4 x0 x1 x2 σ)) : xv l Ω d 0 0 156 4 [some (.int x0), some (.int x1), some (.int x2)] [] (hM p σ τ) r :=
  xlo_ok (A := a156_4 l Ω d p τ r) (fun a H => g156_4b_ok htr d p τ a.1 a.2.1 a.2.2.1 a.2.2.2 r H) 1000 (x0, x1, x2, σ) H
theorem g156_run {l : Launch} {Ω : xo_O} (htr : xH l) (d : Nat) (p : Nat) (τ : Nat → Nat → Int64) (a0 : Int32) (σ : xS) {q : xQ} (hq : g156 a0 σ = some q) : xv l Ω d 0 0 156 0 (xs_loc (xm_l 156) [.int a0]) [] (hM p σ τ) (xq_R false p τ q) := by
  have H : xo (xB false p τ (xq_R false p τ q)) (g156 a0 σ) := by rw [hq]; exact rfl
  generalize xq_R false p τ q = r at H ⊢
  show xv l Ω d 0 0 156 0 [some (.int a0), none, none] [] (hM p σ τ) r
  unfold g156 at H
  refine xp_ok htr 4 d 0 0 [] 156 0 [some (.int a0), none, none] [] (hM p σ τ) ?_
  show xv l Ω d 0 0 156 4 [some (.int a0), some (.int 0), some (.int 0)] [] (hM p σ τ) r
  exact xv_sub (L' := [some (.int a0), some (.int 0), some (.int 0)]) ⟨rfl, ⟨rfl, ⟨rfl, trivial⟩⟩⟩ (g156_4_ok htr d p τ a0 0 0 σ r H)
/- AccessDeskModel.broken -/
def g155_67b (x1 : Int32) (x2 : Int32) (σ : xS) : Option ((Int32 × Int32 × xS) ⊕ xQ) := (if 8 ≤ x2 then some (Sum.inr ((Sum.inl 0, σ))) else (bif xn x2 8 then (match g153 (σ 55 (Int32.toNatClampNeg x2)) σ with | some (Sum.inl v5, s6) => (bif xn x1 6 then (match g156 (v5 &&& (s6 63 (Int32.toNatClampNeg x1))) s6 with | some (Sum.inl v9, s10) => (if v9 < (s10 64 (Int32.toNatClampNeg x1)) then some (Sum.inl (x1, (x2 + 1), s10)) else some (Sum.inr ((Sum.inl 1, s10)))) | some (Sum.inr v9, s10) => none | none => none) else none) | some (Sum.inr v5, s6) => none | none => none) else none))
def g155_67 (x1 : Int32) (x2 : Int32) (σ : xS) : Option xQ := xlo (fun a : Int32 × Int32 × xS => g155_67b a.1 a.2.1 a.2.2) 1000 (x1, x2, σ)
def g155_57 (x1 : Int32) (x2 : Int32) (σ : xS) : Option ((Int32 × Int32 × xS) ⊕ xQ) := some (Sum.inl (x1, (x2 + 1), σ))
def g155_11b (x1 : Int32) (x2 : Int32) (σ : xS) : Option ((Int32 × Int32 × xS) ⊕ xQ) := (if 6 ≤ x2 then some (Sum.inr ((Sum.inl 0, σ))) else (bif xn x2 6 then (if (σ 58 (Int32.toNatClampNeg x2)) = 0 then g155_57 x1 x2 σ else (match g153 (σ 60 (Int32.toNatClampNeg x2)) σ with | some (Sum.inl v16, s17) => (bif xn x1 6 then (match g156 (v16 &&& (s17 63 (Int32.toNatClampNeg x1))) s17 with | some (Sum.inl v20, s21) => (if v20 < (s21 64 (Int32.toNatClampNeg x1)) then g155_57 x1 x2 s21 else some (Sum.inr ((Sum.inl 1, s21)))) | some (Sum.inr v20, s21) => none | none => none) else none) | some (Sum.inr v16, s17) => none | none => none)) else none))
def g155_11 (x1 : Int32) (x2 : Int32) (σ : xS) : Option xQ := xlo (fun a : Int32 × Int32 × xS => g155_11b a.1 a.2.1 a.2.2) 1000 (x1, x2, σ)
def g155 (a1 : Int32) (σ : xS) : xO := (bif xn a1 6 then (if (σ 62 (Int32.toNatClampNeg a1)) = 0 then g155_67 a1 0 σ else g155_11 a1 0 σ) else none)
def a155_67 (l : Launch) (Ω : xo_O) (d p : Nat) (τ : Nat → Nat → Int64) (r : xv_R) : Int32 × Int32 × xS → Prop := fun a => xv l Ω (d + 1) 0 0 155 67 [some (.ref 53), some (.int a.1), some (.int a.2.1)] [] (hM p a.2.2 τ) r
def a155_11 (l : Launch) (Ω : xo_O) (d p : Nat) (τ : Nat → Nat → Int64) (r : xv_R) : Int32 × Int32 × xS → Prop := fun a => xv l Ω (d + 1) 0 0 155 11 [some (.ref 53), some (.int a.1), some (.int a.2.1)] [] (hM p a.2.2 τ) r
theorem g155_67b_ok {l : Launch} {Ω : xo_O} (htr : xH l) (d : Nat) (p : Nat) (τ : Nat → Nat → Int64) (x1 : Int32) (x2 : Int32) (σ : xS) (r : xv_R) (H : xo (xd (a155_67 l Ω d p τ r) (xB false p τ r)) (g155_67b x1 x2 σ)) : xv l Ω (d + 1) 0 0 155 67 [some (.ref 53), some (.int x1), some (.int x2)] [] (hM p σ τ) r := by
  unfold g155_67b at H
  by_cases h3 : 8 ≤ x2
  · rw [if_pos h3] at H
    refine xp_ok htr 3 (d + 1) 0 0 [eB true] 155 67 [some (.ref 53), some (.int x1), some (.int x2)] [] (hM p σ τ) ⟨h3, ?_⟩
    show xv l Ω (d + 1) 0 0 155 110 [some (.ref 53), some (.int x1), some (.int x2)] [] (hM p σ τ) r
    exact xp_ok htr 2 (d + 1) 0 0 [] 155 110 [some (.ref 53), some (.int x1), some (.int x2)] [] (hM p σ τ) ⟨Or.inl rfl, (Eq.symm H)⟩
  · rw [if_neg h3] at H
    refine xp_ok htr 3 (d + 1) 0 0 [eB false] 155 67 [some (.ref 53), some (.int x1), some (.int x2)] [] (hM p σ τ) ⟨h3, ?_⟩
    show xv l Ω (d + 1) 0 0 155 73 [some (.ref 53), some (.int x1), some (.int x2)] [] (hM p σ τ) r
    cases g4 : xn x2 8 with
    | false => rw [g4, cond_false] at H; exact False.elim H
    | true =>
      rw [g4, cond_true] at H
      cases q7 : g153 (σ 55 (Int32.toNatClampNeg x2)) σ with
      | none => rw [q7] at H; exact False.elim H
      | some q70 =>
        obtain ⟨v5 | v5, s6⟩ := q70
        · rw [q7] at H; dsimp only at H
          have hc := g153_run (Ω := Ω) htr d p τ (σ 55 (Int32.toNatClampNeg x2)) σ q7
          refine xp_ok htr 6 (d + 1) 0 0 [eC (some (.int v5)) (hM p s6 τ)] 155 73 [some (.ref 53), some (.int x1), some (.int x2)] [] (hM p σ τ) ⟨(xn_in g4), hc, ?_⟩
          show xv l Ω (d + 1) 0 0 155 83 [some (.ref 53), some (.int x1), some (.int x2)] [.int v5] (hM p s6 τ) r
          cases g8 : xn x1 6 with
          | false => rw [g8, cond_false] at H; exact False.elim H
          | true =>
            rw [g8, cond_true] at H
            cases q11 : g156 (v5 &&& (s6 63 (Int32.toNatClampNeg x1))) s6 with
            | none => rw [q11] at H; exact False.elim H
            | some q110 =>
              obtain ⟨v9 | v9, s10⟩ := q110
              · rw [q11] at H; dsimp only at H
                have hc := g156_run (Ω := Ω) htr d p τ (v5 &&& (s6 63 (Int32.toNatClampNeg x1))) s6 q11
                refine xp_ok htr 6 (d + 1) 0 0 [eC (some (.int v9)) (hM p s10 τ)] 155 83 [some (.ref 53), some (.int x1), some (.int x2)] [.int v5] (hM p s6 τ) ⟨(xn_in g8), hc, ?_⟩
                show xv l Ω (d + 1) 0 0 155 93 [some (.ref 53), some (.int x1), some (.int x2)] [.int v9] (hM p s10 τ) r
                by_cases h12 : v9 < (s10 64 (Int32.toNatClampNeg x1))
                · rw [if_pos h12] at H
                  refine xp_ok htr 5 (d + 1) 0 0 [eB true] 155 93 [some (.ref 53), some (.int x1), some (.int x2)] [.int v9] (hM p s10 τ) ⟨(xn_in g8), h12, ?_⟩
                  show xv l Ω (d + 1) 0 0 155 104 [some (.ref 53), some (.int x1), some (.int x2)] [] (hM p s10 τ) r
                  refine xp_ok htr 2 (d + 1) 0 0 [] 155 104 [some (.ref 53), some (.int x1), some (.int x2)] [] (hM p s10 τ) ?_
                  show xv l Ω (d + 1) 0 0 155 67 [some (.ref 53), some (.int x1), some (.int (x2 + 1))] [] (hM p s10 τ) r
                  exact xv_sub (L' := [some (.ref 53), some (.int x1), some (.int (x2 + 1))]) ⟨rfl, ⟨rfl, ⟨rfl, trivial⟩⟩⟩ H
                · rw [if_neg h12] at H
                  refine xp_ok htr 5 (d + 1) 0 0 [eB false] 155 93 [some (.ref 53), some (.int x1), some (.int x2)] [.int v9] (hM p s10 τ) ⟨(xn_in g8), h12, ?_⟩
                  show xv l Ω (d + 1) 0 0 155 102 [some (.ref 53), some (.int x1), some (.int x2)] [] (hM p s10 τ) r
                  exact xp_ok htr 2 (d + 1) 0 0 [] 155 102 [some (.ref 53), some (.int x1), some (.int x2)] [] (hM p s10 τ) ⟨Or.inr rfl, (Eq.symm H)⟩
              · rw [q11] at H; exact False.elim H
        · rw [q7] at H; exact False.elim H
theorem g155_67_ok {l : Launch} {Ω : xo_O} (htr : xH l) (d : Nat) (p : Nat) (τ : Nat → Nat → Int64) (x1 : Int32) (x2 : Int32) (σ : xS) (r : xv_R) (H : xo (xB false p τ r) (g155_67 x1 x2 σ)) : xv l Ω (d + 1) 0 0 155 67 [some (.ref 53), some (.int x1), some (.int x2)] [] (hM p σ τ) r :=
  xlo_ok (A := a155_67 l Ω d p τ r) (fun a H => g155_67b_ok htr d p τ a.1 a.2.1 a.2.2 r H) 1000 (x1, x2, σ) H
theorem g155_57_ok {l : Launch} {Ω : xo_O} (htr : xH l) (d : Nat) (p : Nat) (τ : Nat → Nat → Int64) (x1 : Int32) (x2 : Int32) (σ : xS) (r : xv_R) (H : xo (xd (a155_11 l Ω d p τ r) (xB false p τ r)) (g155_57 x1 x2 σ)) : xv l Ω (d + 1) 0 0 155 57 [some (.ref 53), some (.int x1), some (.int x2)] [] (hM p σ τ) r := by
  unfold g155_57 at H
  refine xp_ok htr 2 (d + 1) 0 0 [] 155 57 [some (.ref 53), some (.int x1), some (.int x2)] [] (hM p σ τ) ?_
  show xv l Ω (d + 1) 0 0 155 11 [some (.ref 53), some (.int x1), some (.int (x2 + 1))] [] (hM p σ τ) r
  exact xv_sub (L' := [some (.ref 53), some (.int x1), some (.int (x2 + 1))]) ⟨rfl, ⟨rfl, ⟨rfl, trivial⟩⟩⟩ H
theorem g155_11b_ok {l : Launch} {Ω : xo_O} (htr : xH l) (d : Nat) (p : Nat) (τ : Nat → Nat → Int64) (x1 : Int32) (x2 : Int32) (σ : xS) (r : xv_R) (H : xo (xd (a155_11 l Ω d p τ r) (xB false p τ r)) (g155_11b x1 x2 σ)) : xv l Ω (d + 1) 0 0 155 11 [some (.ref 53), some (.int x1), some (.int x2)] [] (hM p σ τ) r := by
  unfold g155_11b at H
  by_cases h13 : 6 ≤ x2
  · rw [if_pos h13] at H
    refine xp_ok htr 3 (d + 1) 0 0 [eB true] 155 11 [some (.ref 53), some (.int x1), some (.int x2)] [] (hM p σ τ) ⟨h13, ?_⟩
    show xv l Ω (d + 1) 0 0 155 63 [some (.ref 53), some (.int x1), some (.int x2)] [] (hM p σ τ) r
    exact xp_ok htr 2 (d + 1) 0 0 [] 155 63 [some (.ref 53), some (.int x1), some (.int x2)] [] (hM p σ τ) ⟨Or.inl rfl, (Eq.symm H)⟩
  · rw [if_neg h13] at H
    refine xp_ok htr 3 (d + 1) 0 0 [eB false] 155 11 [some (.ref 53), some (.int x1), some (.int x2)] [] (hM p σ τ) ⟨h13, ?_⟩
    show xv l Ω (d + 1) 0 0 155 17 [some (.ref 53), some (.int x1), some (.int x2)] [] (hM p σ τ) r
    cases g14 : xn x2 6 with
    | false => rw [g14, cond_false] at H; exact False.elim H
    | true =>
      rw [g14, cond_true] at H
      by_cases h15 : (σ 58 (Int32.toNatClampNeg x2)) = 0
      · rw [if_pos h15] at H
        refine xp_ok htr 5 (d + 1) 0 0 [eB true] 155 17 [some (.ref 53), some (.int x1), some (.int x2)] [] (hM p σ τ) ⟨(xn_in g14), h15, ?_⟩
        show xv l Ω (d + 1) 0 0 155 57 [some (.ref 53), some (.int x1), some (.int x2)] [] (hM p σ τ) r
        exact xv_sub (L' := [some (.ref 53), some (.int x1), some (.int x2)]) ⟨rfl, ⟨rfl, ⟨rfl, trivial⟩⟩⟩ (g155_57_ok htr d p τ x1 x2 σ r H)
      · rw [if_neg h15] at H
        refine xp_ok htr 5 (d + 1) 0 0 [eB false] 155 17 [some (.ref 53), some (.int x1), some (.int x2)] [] (hM p σ τ) ⟨(xn_in g14), h15, ?_⟩
        show xv l Ω (d + 1) 0 0 155 26 [some (.ref 53), some (.int x1), some (.int x2)] [] (hM p σ τ) r
        cases q18 : g153 (σ 60 (Int32.toNatClampNeg x2)) σ with
        | none => rw [q18] at H; exact False.elim H
        | some q180 =>
          obtain ⟨v16 | v16, s17⟩ := q180
          · rw [q18] at H; dsimp only at H
            have hc := g153_run (Ω := Ω) htr d p τ (σ 60 (Int32.toNatClampNeg x2)) σ q18
            refine xp_ok htr 6 (d + 1) 0 0 [eC (some (.int v16)) (hM p s17 τ)] 155 26 [some (.ref 53), some (.int x1), some (.int x2)] [] (hM p σ τ) ⟨(xn_in g14), hc, ?_⟩
            show xv l Ω (d + 1) 0 0 155 36 [some (.ref 53), some (.int x1), some (.int x2)] [.int v16] (hM p s17 τ) r
            cases g19 : xn x1 6 with
            | false => rw [g19, cond_false] at H; exact False.elim H
            | true =>
              rw [g19, cond_true] at H
              cases q22 : g156 (v16 &&& (s17 63 (Int32.toNatClampNeg x1))) s17 with
              | none => rw [q22] at H; exact False.elim H
              | some q220 =>
                obtain ⟨v20 | v20, s21⟩ := q220
                · rw [q22] at H; dsimp only at H
                  have hc := g156_run (Ω := Ω) htr d p τ (v16 &&& (s17 63 (Int32.toNatClampNeg x1))) s17 q22
                  refine xp_ok htr 6 (d + 1) 0 0 [eC (some (.int v20)) (hM p s21 τ)] 155 36 [some (.ref 53), some (.int x1), some (.int x2)] [.int v16] (hM p s17 τ) ⟨(xn_in g19), hc, ?_⟩
                  show xv l Ω (d + 1) 0 0 155 46 [some (.ref 53), some (.int x1), some (.int x2)] [.int v20] (hM p s21 τ) r
                  by_cases h23 : v20 < (s21 64 (Int32.toNatClampNeg x1))
                  · rw [if_pos h23] at H
                    refine xp_ok htr 5 (d + 1) 0 0 [eB true] 155 46 [some (.ref 53), some (.int x1), some (.int x2)] [.int v20] (hM p s21 τ) ⟨(xn_in g19), h23, ?_⟩
                    show xv l Ω (d + 1) 0 0 155 57 [some (.ref 53), some (.int x1), some (.int x2)] [] (hM p s21 τ) r
                    exact xv_sub (L' := [some (.ref 53), some (.int x1), some (.int x2)]) ⟨rfl, ⟨rfl, ⟨rfl, trivial⟩⟩⟩ (g155_57_ok htr d p τ x1 x2 s21 r H)
                  · rw [if_neg h23] at H
                    refine xp_ok htr 5 (d + 1) 0 0 [eB false] 155 46 [some (.ref 53), some (.int x1), some (.int x2)] [.int v20] (hM p s21 τ) ⟨(xn_in g19), h23, ?_⟩
                    show xv l Ω (d + 1) 0 0 155 55 [some (.ref 53), some (.int x1), some (.int x2)] [] (hM p s21 τ) r
                    exact xp_ok htr 2 (d + 1) 0 0 [] 155 55 [some (.ref 53), some (.int x1), some (.int x2)] [] (hM p s21 τ) ⟨Or.inr rfl, (Eq.symm H)⟩
                · rw [q22] at H; exact False.elim H
          · rw [q18] at H; exact False.elim H
theorem g155_11_ok {l : Launch} {Ω : xo_O} (htr : xH l) (d : Nat) (p : Nat) (τ : Nat → Nat → Int64) (x1 : Int32) (x2 : Int32) (σ : xS) (r : xv_R) (H : xo (xB false p τ r) (g155_11 x1 x2 σ)) : xv l Ω (d + 1) 0 0 155 11 [some (.ref 53), some (.int x1), some (.int x2)] [] (hM p σ τ) r :=
  xlo_ok (A := a155_11 l Ω d p τ r) (fun a H => g155_11b_ok htr d p τ a.1 a.2.1 a.2.2 r H) 1000 (x1, x2, σ) H
theorem g155_run {l : Launch} {Ω : xo_O} (htr : xH l) (d : Nat) (p : Nat) (τ : Nat → Nat → Int64) (a1 : Int32) (σ : xS) {q : xQ} (hq : g155 a1 σ = some q) : xv l Ω (d + 1) 0 0 155 0 (xs_loc (xm_l 155) [.ref 53, .int a1]) [] (hM p σ τ) (xq_R false p τ q) := by
  have H : xo (xB false p τ (xq_R false p τ q)) (g155 a1 σ) := by rw [hq]; exact rfl
  generalize xq_R false p τ q = r at H ⊢
  show xv l Ω (d + 1) 0 0 155 0 [some (.ref 53), some (.int a1), none] [] (hM p σ τ) r
  unfold g155 at H
  cases g1 : xn a1 6 with
  | false => rw [g1, cond_false] at H; exact False.elim H
  | true =>
    rw [g1, cond_true] at H
    by_cases h2 : (σ 62 (Int32.toNatClampNeg a1)) = 0
    · rw [if_pos h2] at H
      refine xp_ok htr 5 (d + 1) 0 0 [eB true] 155 0 [some (.ref 53), some (.int a1), none] [] (hM p σ τ) ⟨(xn_in g1), h2, ?_⟩
      show xv l Ω (d + 1) 0 0 155 65 [some (.ref 53), some (.int a1), none] [] (hM p σ τ) r
      refine xp_ok htr 2 (d + 1) 0 0 [] 155 65 [some (.ref 53), some (.int a1), none] [] (hM p σ τ) ?_
      show xv l Ω (d + 1) 0 0 155 67 [some (.ref 53), some (.int a1), some (.int 0)] [] (hM p σ τ) r
      exact xv_sub (L' := [some (.ref 53), some (.int a1), some (.int 0)]) ⟨rfl, ⟨rfl, ⟨rfl, trivial⟩⟩⟩ (g155_67_ok htr d p τ a1 0 σ r H)
    · rw [if_neg h2] at H
      refine xp_ok htr 5 (d + 1) 0 0 [eB false] 155 0 [some (.ref 53), some (.int a1), none] [] (hM p σ τ) ⟨(xn_in g1), h2, ?_⟩
      show xv l Ω (d + 1) 0 0 155 9 [some (.ref 53), some (.int a1), none] [] (hM p σ τ) r
      refine xp_ok htr 2 (d + 1) 0 0 [] 155 9 [some (.ref 53), some (.int a1), none] [] (hM p σ τ) ?_
      show xv l Ω (d + 1) 0 0 155 11 [some (.ref 53), some (.int a1), some (.int 0)] [] (hM p σ τ) r
      exact xv_sub (L' := [some (.ref 53), some (.int a1), some (.int 0)]) ⟨rfl, ⟨rfl, ⟨rfl, trivial⟩⟩⟩ (g155_11_ok htr d p τ a1 0 σ r H)
/- AccessDeskModel.someBroken -/
def g154_2b (x1 : Int32) (σ : xS) : Option ((Int32 × xS) ⊕ xQ) := (if (σ 53 8) ≤ x1 then some (Sum.inr ((Sum.inl 0, σ))) else (match g155 x1 σ with | some (Sum.inl v2, s3) => (if v2 = 0 then some (Sum.inl ((x1 + 1), s3)) else some (Sum.inr ((Sum.inl 1, s3)))) | some (Sum.inr v2, s3) => none | none => none))
def g154_2 (x1 : Int32) (σ : xS) : Option xQ := xlo (fun a : Int32 × xS => g154_2b a.1 a.2) 1000 (x1, σ)
def g154  (σ : xS) : xO := g154_2 0 σ
def a154_2 (l : Launch) (Ω : xo_O) (d p : Nat) (τ : Nat → Nat → Int64) (r : xv_R) : Int32 × xS → Prop := fun a => xv l Ω (d + 2) 0 0 154 2 [some (.ref 53), some (.int a.1)] [] (hM p a.2 τ) r
theorem g154_2b_ok {l : Launch} {Ω : xo_O} (htr : xH l) (d : Nat) (p : Nat) (τ : Nat → Nat → Int64) (x1 : Int32) (σ : xS) (r : xv_R) (H : xo (xd (a154_2 l Ω d p τ r) (xB false p τ r)) (g154_2b x1 σ)) : xv l Ω (d + 2) 0 0 154 2 [some (.ref 53), some (.int x1)] [] (hM p σ τ) r := by
  unfold g154_2b at H
  by_cases h1 : (σ 53 8) ≤ x1
  · rw [if_pos h1] at H
    refine xp_ok htr 4 (d + 2) 0 0 [eB true] 154 2 [some (.ref 53), some (.int x1)] [] (hM p σ τ) ⟨h1, ?_⟩
    show xv l Ω (d + 2) 0 0 154 26 [some (.ref 53), some (.int x1)] [] (hM p σ τ) r
    exact xp_ok htr 2 (d + 2) 0 0 [] 154 26 [some (.ref 53), some (.int x1)] [] (hM p σ τ) ⟨Or.inl rfl, (Eq.symm H)⟩
  · rw [if_neg h1] at H
    refine xp_ok htr 4 (d + 2) 0 0 [eB false] 154 2 [some (.ref 53), some (.int x1)] [] (hM p σ τ) ⟨h1, ?_⟩
    show xv l Ω (d + 2) 0 0 154 10 [some (.ref 53), some (.int x1)] [] (hM p σ τ) r
    cases q4 : g155 x1 σ with
    | none => rw [q4] at H; exact False.elim H
    | some q40 =>
      obtain ⟨v2 | v2, s3⟩ := q40
      · rw [q4] at H; dsimp only at H
        have hc := g155_run (Ω := Ω) htr d p τ x1 σ q4
        refine xp_ok htr 3 (d + 2) 0 0 [eC (some (.int v2)) (hM p s3 τ)] 154 10 [some (.ref 53), some (.int x1)] [] (hM p σ τ) ⟨hc, ?_⟩
        show xv l Ω (d + 2) 0 0 154 15 [some (.ref 53), some (.int x1)] [.int v2] (hM p s3 τ) r
        by_cases h5 : v2 = 0
        · rw [if_pos h5] at H
          refine xp_ok htr 1 (d + 2) 0 0 [eB true] 154 15 [some (.ref 53), some (.int x1)] [.int v2] (hM p s3 τ) ⟨h5, ?_⟩
          show xv l Ω (d + 2) 0 0 154 20 [some (.ref 53), some (.int x1)] [] (hM p s3 τ) r
          refine xp_ok htr 2 (d + 2) 0 0 [] 154 20 [some (.ref 53), some (.int x1)] [] (hM p s3 τ) ?_
          show xv l Ω (d + 2) 0 0 154 2 [some (.ref 53), some (.int (x1 + 1))] [] (hM p s3 τ) r
          exact xv_sub (L' := [some (.ref 53), some (.int (x1 + 1))]) ⟨rfl, ⟨rfl, trivial⟩⟩ H
        · rw [if_neg h5] at H
          refine xp_ok htr 1 (d + 2) 0 0 [eB false] 154 15 [some (.ref 53), some (.int x1)] [.int v2] (hM p s3 τ) ⟨h5, ?_⟩
          show xv l Ω (d + 2) 0 0 154 18 [some (.ref 53), some (.int x1)] [] (hM p s3 τ) r
          exact xp_ok htr 2 (d + 2) 0 0 [] 154 18 [some (.ref 53), some (.int x1)] [] (hM p s3 τ) ⟨Or.inr rfl, (Eq.symm H)⟩
      · rw [q4] at H; exact False.elim H
theorem g154_2_ok {l : Launch} {Ω : xo_O} (htr : xH l) (d : Nat) (p : Nat) (τ : Nat → Nat → Int64) (x1 : Int32) (σ : xS) (r : xv_R) (H : xo (xB false p τ r) (g154_2 x1 σ)) : xv l Ω (d + 2) 0 0 154 2 [some (.ref 53), some (.int x1)] [] (hM p σ τ) r :=
  xlo_ok (A := a154_2 l Ω d p τ r) (fun a H => g154_2b_ok htr d p τ a.1 a.2 r H) 1000 (x1, σ) H
theorem g154_run {l : Launch} {Ω : xo_O} (htr : xH l) (d : Nat) (p : Nat) (τ : Nat → Nat → Int64)  (σ : xS) {q : xQ} (hq : g154  σ = some q) : xv l Ω (d + 2) 0 0 154 0 (xs_loc (xm_l 154) [.ref 53]) [] (hM p σ τ) (xq_R false p τ q) := by
  have H : xo (xB false p τ (xq_R false p τ q)) (g154  σ) := by rw [hq]; exact rfl
  generalize xq_R false p τ q = r at H ⊢
  show xv l Ω (d + 2) 0 0 154 0 [some (.ref 53), none] [] (hM p σ τ) r
  unfold g154 at H
  refine xp_ok htr 2 (d + 2) 0 0 [] 154 0 [some (.ref 53), none] [] (hM p σ τ) ?_
  show xv l Ω (d + 2) 0 0 154 2 [some (.ref 53), some (.int 0)] [] (hM p σ τ) r
  exact xv_sub (L' := [some (.ref 53), some (.int 0)]) ⟨rfl, ⟨rfl, trivial⟩⟩ (g154_2_ok htr d p τ 0 σ r H)
/- AccessDeskModel.senior -/
def g150_52 (x1 : Int32) (x2 : Int32) (k1 : Int32) (σ : xS) : Option xQ := (if ((xh_ui σ 53 21 k1) 53 21) = 0 then (bif xn x1 12 then (match g154 (xh_ui (xh_ui σ 53 21 k1) 54 (Int32.toNatClampNeg x1) (((xh_ui σ 53 21 k1) 54 (Int32.toNatClampNeg x1)) ||| (1 <<< (x2 &&& 31)))) with | some (Sum.inl v7, s8) => (if v7 = 0 then some ((Sum.inl 0, s8)) else some ((Sum.inl 0, (xh_ui (xh_ui s8 54 (Int32.toNatClampNeg x1) ((s8 54 (Int32.toNatClampNeg x1)) &&& ((1 <<< (x2 &&& 31)) ^^^ (-1)))) 53 21 2)))) | some (Sum.inr v7, s8) => none | none => none) else none) else some ((Sum.inl 0, (xh_ui σ 53 21 k1))))
def g150_14 (x1 : Int32) (x2 : Int32) (σ : xS) : Option xQ := g150_52 x1 x2 1 σ
def g150_47 (x1 : Int32) (x2 : Int32) (σ : xS) : Option xQ := g150_52 x1 x2 2 σ
def g150 (a1 : Int32) (a2 : Int32) (σ : xS) : xO := (match g151 a1 a2 σ with | some (Sum.inl v1, s2) => (if v1 = 0 then g150_14 a1 a2 s2 else (if a1 = a2 then g150_14 a1 a2 s2 else (bif xn a1 12 then (if (((s2 54 (Int32.toNatClampNeg a1)) >>> (a2 &&& 31)) &&& 1) = 1 then g150_47 a1 a2 s2 else (match g153 (1 <<< (a2 &&& 31)) s2 with | some (Sum.inl v14, s15) => (if ((v14 >>> (a1 &&& 31)) &&& 1) = 1 then g150_47 a1 a2 s15 else g150_52 a1 a2 0 s15) | some (Sum.inr v14, s15) => none | none => none)) else none))) | some (Sum.inr v1, s2) => none | none => none)
theorem g150_52_ok {l : Launch} {Ω : xo_O} (htr : xH l) (d : Nat) (p : Nat) (τ : Nat → Nat → Int64) (x1 : Int32) (x2 : Int32) (k1 : Int32) (σ : xS) (r : xv_R) (H : xo (xB true p τ r) (g150_52 x1 x2 k1 σ)) : xv l Ω (d + 3) 0 0 150 52 [some (.ref 53), some (.int x1), some (.int x2)] [.int k1, .ref 53] (hM p σ τ) r := by
  unfold g150_52 at H
  by_cases h5 : ((xh_ui σ 53 21 k1) 53 21) = 0
  · rw [if_pos h5] at H
    refine xp_ok htr 4 (d + 3) 0 0 [eB true] 150 52 [some (.ref 53), some (.int x1), some (.int x2)] [.int k1, .ref 53] (hM p σ τ) ⟨h5, ?_⟩
    show xv l Ω (d + 3) 0 0 150 63 [some (.ref 53), some (.int x1), some (.int x2)] [] (hM p (xh_ui σ 53 21 k1) τ) r
    cases g6 : xn x1 12 with
    | false => rw [g6, cond_false] at H; exact False.elim H
    | true =>
      rw [g6, cond_true] at H
      refine xp_ok htr 8 (d + 3) 0 0 [] 150 63 [some (.ref 53), some (.int x1), some (.int x2)] [] (hM p (xh_ui σ 53 21 k1) τ) ⟨(xn_in g6), ?_⟩
      show xv l Ω (d + 3) 0 0 150 73 [some (.ref 53), some (.int x1), some (.int x2)] [.int (1 <<< (x2 &&& 31)), .int ((xh_ui σ 53 21 k1) 54 (Int32.toNatClampNeg x1)), .int x1, .ref 54] (hM p (xh_ui σ 53 21 k1) τ) r
      cases q9 : g154 (xh_ui (xh_ui σ 53 21 k1) 54 (Int32.toNatClampNeg x1) (((xh_ui σ 53 21 k1) 54 (Int32.toNatClampNeg x1)) ||| (1 <<< (x2 &&& 31)))) with
      | none => rw [q9] at H; exact False.elim H
      | some q90 =>
        obtain ⟨v7 | v7, s8⟩ := q90
        · rw [q9] at H; dsimp only at H
          have hc := g154_run (Ω := Ω) htr d p τ  (xh_ui (xh_ui σ 53 21 k1) 54 (Int32.toNatClampNeg x1) (((xh_ui σ 53 21 k1) 54 (Int32.toNatClampNeg x1)) ||| (1 <<< (x2 &&& 31)))) q9
          refine xp_ok htr 4 (d + 3) 0 0 [eC (some (.int v7)) (hM p s8 τ)] 150 73 [some (.ref 53), some (.int x1), some (.int x2)] [.int (1 <<< (x2 &&& 31)), .int ((xh_ui σ 53 21 k1) 54 (Int32.toNatClampNeg x1)), .int x1, .ref 54] (hM p (xh_ui σ 53 21 k1) τ) ⟨(xn_in g6), hc, ?_⟩
          show xv l Ω (d + 3) 0 0 150 79 [some (.ref 53), some (.int x1), some (.int x2)] [.int v7] (hM p s8 τ) r
          by_cases h10 : v7 = 0
          · rw [if_pos h10] at H
            refine xp_ok htr 1 (d + 3) 0 0 [eB false] 150 79 [some (.ref 53), some (.int x1), some (.int x2)] [.int v7] (hM p s8 τ) ⟨h10, ?_⟩
            show xv l Ω (d + 3) 0 0 150 82 [some (.ref 53), some (.int x1), some (.int x2)] [] (hM p s8 τ) r
            exact xp_ok htr 1 (d + 3) 0 0 [] 150 82 [some (.ref 53), some (.int x1), some (.int x2)] [] (hM p s8 τ) ⟨trivial, (Eq.symm H)⟩
          · rw [if_neg h10] at H
            refine xp_ok htr 1 (d + 3) 0 0 [eB true] 150 79 [some (.ref 53), some (.int x1), some (.int x2)] [.int v7] (hM p s8 τ) ⟨h10, ?_⟩
            show xv l Ω (d + 3) 0 0 150 83 [some (.ref 53), some (.int x1), some (.int x2)] [] (hM p s8 τ) r
            refine xp_ok htr 8 (d + 3) 0 0 [] 150 83 [some (.ref 53), some (.int x1), some (.int x2)] [] (hM p s8 τ) ⟨(xn_in g6), ?_⟩
            show xv l Ω (d + 3) 0 0 150 93 [some (.ref 53), some (.int x1), some (.int x2)] [.int (1 <<< (x2 &&& 31)), .int (s8 54 (Int32.toNatClampNeg x1)), .int x1, .ref 54] (hM p s8 τ) r
            exact xp_ok htr 8 (d + 3) 0 0 [] 150 93 [some (.ref 53), some (.int x1), some (.int x2)] [.int (1 <<< (x2 &&& 31)), .int (s8 54 (Int32.toNatClampNeg x1)), .int x1, .ref 54] (hM p s8 τ) ⟨(xn_in g6), trivial, (Eq.symm H)⟩
        · rw [q9] at H; exact False.elim H
  · rw [if_neg h5] at H
    refine xp_ok htr 4 (d + 3) 0 0 [eB false] 150 52 [some (.ref 53), some (.int x1), some (.int x2)] [.int k1, .ref 53] (hM p σ τ) ⟨h5, ?_⟩
    show xv l Ω (d + 3) 0 0 150 62 [some (.ref 53), some (.int x1), some (.int x2)] [] (hM p (xh_ui σ 53 21 k1) τ) r
    exact xp_ok htr 1 (d + 3) 0 0 [] 150 62 [some (.ref 53), some (.int x1), some (.int x2)] [] (hM p (xh_ui σ 53 21 k1) τ) ⟨trivial, (Eq.symm H)⟩
theorem g150_14_ok {l : Launch} {Ω : xo_O} (htr : xH l) (d : Nat) (p : Nat) (τ : Nat → Nat → Int64) (x1 : Int32) (x2 : Int32) (σ : xS) (r : xv_R) (H : xo (xB true p τ r) (g150_14 x1 x2 σ)) : xv l Ω (d + 3) 0 0 150 14 [some (.ref 53), some (.int x1), some (.int x2)] [.ref 53] (hM p σ τ) r := by
  unfold g150_14 at H
  refine xp_ok htr 2 (d + 3) 0 0 [] 150 14 [some (.ref 53), some (.int x1), some (.int x2)] [.ref 53] (hM p σ τ) ?_
  show xv l Ω (d + 3) 0 0 150 52 [some (.ref 53), some (.int x1), some (.int x2)] [.int 1, .ref 53] (hM p σ τ) r
  exact xv_sub (L' := [some (.ref 53), some (.int x1), some (.int x2)]) ⟨rfl, ⟨rfl, ⟨rfl, trivial⟩⟩⟩ (g150_52_ok htr d p τ x1 x2 1 σ r H)
theorem g150_47_ok {l : Launch} {Ω : xo_O} (htr : xH l) (d : Nat) (p : Nat) (τ : Nat → Nat → Int64) (x1 : Int32) (x2 : Int32) (σ : xS) (r : xv_R) (H : xo (xB true p τ r) (g150_47 x1 x2 σ)) : xv l Ω (d + 3) 0 0 150 47 [some (.ref 53), some (.int x1), some (.int x2)] [.ref 53] (hM p σ τ) r := by
  unfold g150_47 at H
  refine xp_ok htr 2 (d + 3) 0 0 [] 150 47 [some (.ref 53), some (.int x1), some (.int x2)] [.ref 53] (hM p σ τ) ?_
  show xv l Ω (d + 3) 0 0 150 52 [some (.ref 53), some (.int x1), some (.int x2)] [.int 2, .ref 53] (hM p σ τ) r
  exact xv_sub (L' := [some (.ref 53), some (.int x1), some (.int x2)]) ⟨rfl, ⟨rfl, ⟨rfl, trivial⟩⟩⟩ (g150_52_ok htr d p τ x1 x2 2 σ r H)
theorem g150_run {l : Launch} {Ω : xo_O} (htr : xH l) (d : Nat) (p : Nat) (τ : Nat → Nat → Int64) (a1 : Int32) (a2 : Int32) (σ : xS) {q : xQ} (hq : g150 a1 a2 σ = some q) : xv l Ω (d + 3) 0 0 150 0 (xs_loc (xm_l 150) [.ref 53, .int a1, .int a2]) [] (hM p σ τ) (xq_R true p τ q) := by
  have H : xo (xB true p τ (xq_R true p τ q)) (g150 a1 a2 σ) := by rw [hq]; exact rfl
  generalize xq_R true p τ q = r at H ⊢
  show xv l Ω (d + 3) 0 0 150 0 [some (.ref 53), some (.int a1), some (.int a2)] [] (hM p σ τ) r
  unfold g150 at H
  cases q3 : g151 a1 a2 σ with
  | none => rw [q3] at H; exact False.elim H
  | some q30 =>
    obtain ⟨v1 | v1, s2⟩ := q30
    · rw [q3] at H; dsimp only at H
      have hc := g151_run (Ω := Ω) htr (d + 1) p τ a1 a2 σ q3
      refine xp_ok htr 4 (d + 3) 0 0 [eC (some (.int v1)) (hM p s2 τ)] 150 0 [some (.ref 53), some (.int a1), some (.int a2)] [] (hM p σ τ) ⟨hc, ?_⟩
      show xv l Ω (d + 3) 0 0 150 6 [some (.ref 53), some (.int a1), some (.int a2)] [.int v1, .ref 53] (hM p s2 τ) r
      by_cases h4 : v1 = 0
      · rw [if_pos h4] at H
        refine xp_ok htr 1 (d + 3) 0 0 [eB true] 150 6 [some (.ref 53), some (.int a1), some (.int a2)] [.int v1, .ref 53] (hM p s2 τ) ⟨h4, ?_⟩
        show xv l Ω (d + 3) 0 0 150 14 [some (.ref 53), some (.int a1), some (.int a2)] [.ref 53] (hM p s2 τ) r
        exact xv_sub (L' := [some (.ref 53), some (.int a1), some (.int a2)]) ⟨rfl, ⟨rfl, ⟨rfl, trivial⟩⟩⟩ (g150_14_ok htr d p τ a1 a2 s2 r H)
      · rw [if_neg h4] at H
        refine xp_ok htr 1 (d + 3) 0 0 [eB false] 150 6 [some (.ref 53), some (.int a1), some (.int a2)] [.int v1, .ref 53] (hM p s2 τ) ⟨h4, ?_⟩
        show xv l Ω (d + 3) 0 0 150 9 [some (.ref 53), some (.int a1), some (.int a2)] [.ref 53] (hM p s2 τ) r
        by_cases h11 : a1 = a2
        · rw [if_pos h11] at H
          refine xp_ok htr 3 (d + 3) 0 0 [eB false] 150 9 [some (.ref 53), some (.int a1), some (.int a2)] [.ref 53] (hM p s2 τ) ⟨h11, ?_⟩
          show xv l Ω (d + 3) 0 0 150 14 [some (.ref 53), some (.int a1), some (.int a2)] [.ref 53] (hM p s2 τ) r
          exact xv_sub (L' := [some (.ref 53), some (.int a1), some (.int a2)]) ⟨rfl, ⟨rfl, ⟨rfl, trivial⟩⟩⟩ (g150_14_ok htr d p τ a1 a2 s2 r H)
        · rw [if_neg h11] at H
          refine xp_ok htr 3 (d + 3) 0 0 [eB true] 150 9 [some (.ref 53), some (.int a1), some (.int a2)] [.ref 53] (hM p s2 τ) ⟨h11, ?_⟩
          show xv l Ω (d + 3) 0 0 150 18 [some (.ref 53), some (.int a1), some (.int a2)] [.ref 53] (hM p s2 τ) r
          cases g12 : xn a1 12 with
          | false => rw [g12, cond_false] at H; exact False.elim H
          | true =>
            rw [g12, cond_true] at H
            refine xp_ok htr 8 (d + 3) 0 0 [] 150 18 [some (.ref 53), some (.int a1), some (.int a2)] [.ref 53] (hM p s2 τ) ⟨(xn_in g12), ?_⟩
            show xv l Ω (d + 3) 0 0 150 28 [some (.ref 53), some (.int a1), some (.int a2)] [.int (((s2 54 (Int32.toNatClampNeg a1)) >>> (a2 &&& 31)) &&& 1), .ref 53] (hM p s2 τ) r
            by_cases h13 : (((s2 54 (Int32.toNatClampNeg a1)) >>> (a2 &&& 31)) &&& 1) = 1
            · rw [if_pos h13] at H
              refine xp_ok htr 2 (d + 3) 0 0 [eB true] 150 28 [some (.ref 53), some (.int a1), some (.int a2)] [.int (((s2 54 (Int32.toNatClampNeg a1)) >>> (a2 &&& 31)) &&& 1), .ref 53] (hM p s2 τ) ⟨h13, ?_⟩
              show xv l Ω (d + 3) 0 0 150 47 [some (.ref 53), some (.int a1), some (.int a2)] [.ref 53] (hM p s2 τ) r
              exact xv_sub (L' := [some (.ref 53), some (.int a1), some (.int a2)]) ⟨rfl, ⟨rfl, ⟨rfl, trivial⟩⟩⟩ (g150_47_ok htr d p τ a1 a2 s2 r H)
            · rw [if_neg h13] at H
              refine xp_ok htr 2 (d + 3) 0 0 [eB false] 150 28 [some (.ref 53), some (.int a1), some (.int a2)] [.int (((s2 54 (Int32.toNatClampNeg a1)) >>> (a2 &&& 31)) &&& 1), .ref 53] (hM p s2 τ) ⟨h13, ?_⟩
              show xv l Ω (d + 3) 0 0 150 32 [some (.ref 53), some (.int a1), some (.int a2)] [.ref 53] (hM p s2 τ) r
              cases q16 : g153 (1 <<< (a2 &&& 31)) s2 with
              | none => rw [q16] at H; exact False.elim H
              | some q160 =>
                obtain ⟨v14 | v14, s15⟩ := q160
                · rw [q16] at H; dsimp only at H
                  have hc := g153_run (Ω := Ω) htr (d + 2) p τ (1 <<< (a2 &&& 31)) s2 q16
                  refine xp_ok htr 5 (d + 3) 0 0 [eC (some (.int v14)) (hM p s15 τ)] 150 32 [some (.ref 53), some (.int a1), some (.int a2)] [.ref 53] (hM p s2 τ) ⟨hc, ?_⟩
                  show xv l Ω (d + 3) 0 0 150 39 [some (.ref 53), some (.int a1), some (.int a2)] [.int v14, .ref 53] (hM p s15 τ) r
                  by_cases h17 : ((v14 >>> (a1 &&& 31)) &&& 1) = 1
                  · rw [if_pos h17] at H
                    refine xp_ok htr 6 (d + 3) 0 0 [eB false] 150 39 [some (.ref 53), some (.int a1), some (.int a2)] [.int v14, .ref 53] (hM p s15 τ) ⟨h17, ?_⟩
                    show xv l Ω (d + 3) 0 0 150 47 [some (.ref 53), some (.int a1), some (.int a2)] [.ref 53] (hM p s15 τ) r
                    exact xv_sub (L' := [some (.ref 53), some (.int a1), some (.int a2)]) ⟨rfl, ⟨rfl, ⟨rfl, trivial⟩⟩⟩ (g150_47_ok htr d p τ a1 a2 s15 r H)
                  · rw [if_neg h17] at H
                    refine xp_ok htr 6 (d + 3) 0 0 [eB true] 150 39 [some (.ref 53), some (.int a1), some (.int a2)] [.int v14, .ref 53] (hM p s15 τ) ⟨h17, ?_⟩
                    show xv l Ω (d + 3) 0 0 150 51 [some (.ref 53), some (.int a1), some (.int a2)] [.ref 53] (hM p s15 τ) r
                    refine xp_ok htr 1 (d + 3) 0 0 [] 150 51 [some (.ref 53), some (.int a1), some (.int a2)] [.ref 53] (hM p s15 τ) ?_
                    show xv l Ω (d + 3) 0 0 150 52 [some (.ref 53), some (.int a1), some (.int a2)] [.int 0, .ref 53] (hM p s15 τ) r
                    exact xv_sub (L' := [some (.ref 53), some (.int a1), some (.int a2)]) ⟨rfl, ⟨rfl, ⟨rfl, trivial⟩⟩⟩ (g150_52_ok htr d p τ a1 a2 0 s15 r H)
                · rw [q16] at H; exact False.elim H
    · rw [q3] at H; exact False.elim H
/- AccessDeskModel.takeBack -/
def g158_41 (x1 : Int32) (σ : xS) : Option ((Int32 × xS) ⊕ xQ) := some (Sum.inl ((x1 + 1), σ))
def g158_2b (x1 : Int32) (σ : xS) : Option ((Int32 × xS) ⊕ xQ) := (if 6 ≤ x1 then some (Sum.inr ((Sum.inl 0, σ))) else (bif xn x1 6 then (if (σ 58 (Int32.toNatClampNeg x1)) = 0 then g158_41 x1 σ else (bif xn (σ 59 (Int32.toNatClampNeg x1)) 8 then (match g153 (σ 55 (Int32.toNatClampNeg (σ 59 (Int32.toNatClampNeg x1)))) σ with | some (Sum.inl v5, s6) => g158_41 x1 (xh_ui s6 60 (Int32.toNatClampNeg x1) ((σ 60 (Int32.toNatClampNeg x1)) &&& v5)) | some (Sum.inr v5, s6) => none | none => none) else none)) else none))
def g158_2 (x1 : Int32) (σ : xS) : Option xQ := xlo (fun a : Int32 × xS => g158_2b a.1 a.2) 1000 (x1, σ)
def g158  (σ : xS) : xO := g158_2 0 σ
def a158_2 (l : Launch) (Ω : xo_O) (d p : Nat) (τ : Nat → Nat → Int64) (r : xv_R) : Int32 × xS → Prop := fun a => xv l Ω (d + 1) 0 0 158 2 [some (.ref 53), some (.int a.1)] [] (hM p a.2 τ) r
theorem g158_41_ok {l : Launch} {Ω : xo_O} (htr : xH l) (d : Nat) (p : Nat) (τ : Nat → Nat → Int64) (x1 : Int32) (σ : xS) (r : xv_R) (H : xo (xd (a158_2 l Ω d p τ r) (xB true p τ r)) (g158_41 x1 σ)) : xv l Ω (d + 1) 0 0 158 41 [some (.ref 53), some (.int x1)] [] (hM p σ τ) r := by
  unfold g158_41 at H
  refine xp_ok htr 2 (d + 1) 0 0 [] 158 41 [some (.ref 53), some (.int x1)] [] (hM p σ τ) ?_
  show xv l Ω (d + 1) 0 0 158 2 [some (.ref 53), some (.int (x1 + 1))] [] (hM p σ τ) r
  exact xv_sub (L' := [some (.ref 53), some (.int (x1 + 1))]) ⟨rfl, ⟨rfl, trivial⟩⟩ H
theorem g158_2b_ok {l : Launch} {Ω : xo_O} (htr : xH l) (d : Nat) (p : Nat) (τ : Nat → Nat → Int64) (x1 : Int32) (σ : xS) (r : xv_R) (H : xo (xd (a158_2 l Ω d p τ r) (xB true p τ r)) (g158_2b x1 σ)) : xv l Ω (d + 1) 0 0 158 2 [some (.ref 53), some (.int x1)] [] (hM p σ τ) r := by
  unfold g158_2b at H
  by_cases h1 : 6 ≤ x1
  · rw [if_pos h1] at H
    refine xp_ok htr 3 (d + 1) 0 0 [eB true] 158 2 [some (.ref 53), some (.int x1)] [] (hM p σ τ) ⟨h1, ?_⟩
    show xv l Ω (d + 1) 0 0 158 47 [some (.ref 53), some (.int x1)] [] (hM p σ τ) r
    exact xp_ok htr 1 (d + 1) 0 0 [] 158 47 [some (.ref 53), some (.int x1)] [] (hM p σ τ) ⟨trivial, (Eq.symm H)⟩
  · rw [if_neg h1] at H
    refine xp_ok htr 3 (d + 1) 0 0 [eB false] 158 2 [some (.ref 53), some (.int x1)] [] (hM p σ τ) ⟨h1, ?_⟩
    show xv l Ω (d + 1) 0 0 158 8 [some (.ref 53), some (.int x1)] [] (hM p σ τ) r
    cases g2 : xn x1 6 with
    | false => rw [g2, cond_false] at H; exact False.elim H
    | true =>
      rw [g2, cond_true] at H
      by_cases h3 : (σ 58 (Int32.toNatClampNeg x1)) = 0
      · rw [if_pos h3] at H
        refine xp_ok htr 5 (d + 1) 0 0 [eB true] 158 8 [some (.ref 53), some (.int x1)] [] (hM p σ τ) ⟨(xn_in g2), h3, ?_⟩
        show xv l Ω (d + 1) 0 0 158 41 [some (.ref 53), some (.int x1)] [] (hM p σ τ) r
        exact xv_sub (L' := [some (.ref 53), some (.int x1)]) ⟨rfl, ⟨rfl, trivial⟩⟩ (g158_41_ok htr d p τ x1 σ r H)
      · rw [if_neg h3] at H
        refine xp_ok htr 5 (d + 1) 0 0 [eB false] 158 8 [some (.ref 53), some (.int x1)] [] (hM p σ τ) ⟨(xn_in g2), h3, ?_⟩
        show xv l Ω (d + 1) 0 0 158 17 [some (.ref 53), some (.int x1)] [] (hM p σ τ) r
        refine xp_ok htr 8 (d + 1) 0 0 [] 158 17 [some (.ref 53), some (.int x1)] [] (hM p σ τ) ⟨(xn_in g2), ?_⟩
        show xv l Ω (d + 1) 0 0 158 29 [some (.ref 53), some (.int x1)] [.ref 55, .ref 53, .int (σ 60 (Int32.toNatClampNeg x1)), .int x1, .ref 60] (hM p σ τ) r
        cases g4 : xn (σ 59 (Int32.toNatClampNeg x1)) 8 with
        | false => rw [g4, cond_false] at H; exact False.elim H
        | true =>
          rw [g4, cond_true] at H
          cases q7 : g153 (σ 55 (Int32.toNatClampNeg (σ 59 (Int32.toNatClampNeg x1)))) σ with
          | none => rw [q7] at H; exact False.elim H
          | some q70 =>
            obtain ⟨v5 | v5, s6⟩ := q70
            · rw [q7] at H; dsimp only at H
              have hc := g153_run (Ω := Ω) htr d p τ (σ 55 (Int32.toNatClampNeg (σ 59 (Int32.toNatClampNeg x1)))) σ q7
              refine xp_ok htr 6 (d + 1) 0 0 [eC (some (.int v5)) (hM p s6 τ)] 158 29 [some (.ref 53), some (.int x1)] [.ref 55, .ref 53, .int (σ 60 (Int32.toNatClampNeg x1)), .int x1, .ref 60] (hM p σ τ) ⟨(xn_in g2), (xn_in g4), hc, ?_⟩
              show xv l Ω (d + 1) 0 0 158 39 [some (.ref 53), some (.int x1)] [.int v5, .int (σ 60 (Int32.toNatClampNeg x1)), .int x1, .ref 60] (hM p s6 τ) r
              refine xp_ok htr 2 (d + 1) 0 0 [] 158 39 [some (.ref 53), some (.int x1)] [.int v5, .int (σ 60 (Int32.toNatClampNeg x1)), .int x1, .ref 60] (hM p s6 τ) ⟨(xn_in g2), ?_⟩
              show xv l Ω (d + 1) 0 0 158 41 [some (.ref 53), some (.int x1)] [] (hM p (xh_ui s6 60 (Int32.toNatClampNeg x1) ((σ 60 (Int32.toNatClampNeg x1)) &&& v5)) τ) r
              exact xv_sub (L' := [some (.ref 53), some (.int x1)]) ⟨rfl, ⟨rfl, trivial⟩⟩ (g158_41_ok htr d p τ x1 (xh_ui s6 60 (Int32.toNatClampNeg x1) ((σ 60 (Int32.toNatClampNeg x1)) &&& v5)) r H)
            · rw [q7] at H; exact False.elim H
theorem g158_2_ok {l : Launch} {Ω : xo_O} (htr : xH l) (d : Nat) (p : Nat) (τ : Nat → Nat → Int64) (x1 : Int32) (σ : xS) (r : xv_R) (H : xo (xB true p τ r) (g158_2 x1 σ)) : xv l Ω (d + 1) 0 0 158 2 [some (.ref 53), some (.int x1)] [] (hM p σ τ) r :=
  xlo_ok (A := a158_2 l Ω d p τ r) (fun a H => g158_2b_ok htr d p τ a.1 a.2 r H) 1000 (x1, σ) H
theorem g158_run {l : Launch} {Ω : xo_O} (htr : xH l) (d : Nat) (p : Nat) (τ : Nat → Nat → Int64)  (σ : xS) {q : xQ} (hq : g158  σ = some q) : xv l Ω (d + 1) 0 0 158 0 (xs_loc (xm_l 158) [.ref 53]) [] (hM p σ τ) (xq_R true p τ q) := by
  have H : xo (xB true p τ (xq_R true p τ q)) (g158  σ) := by rw [hq]; exact rfl
  generalize xq_R true p τ q = r at H ⊢
  show xv l Ω (d + 1) 0 0 158 0 [some (.ref 53), none] [] (hM p σ τ) r
  unfold g158 at H
  refine xp_ok htr 2 (d + 1) 0 0 [] 158 0 [some (.ref 53), none] [] (hM p σ τ) ?_
  show xv l Ω (d + 1) 0 0 158 2 [some (.ref 53), some (.int 0)] [] (hM p σ τ) r
  exact xv_sub (L' := [some (.ref 53), some (.int 0)]) ⟨rfl, ⟨rfl, trivial⟩⟩ (g158_2_ok htr d p τ 0 σ r H)
/- AccessDeskModel.unsenior -/
def g157_31 (x1 : Int32) (x2 : Int32) (k1 : Int32) (σ : xS) : Option xQ := (if ((xh_ui σ 53 21 k1) 53 21) = 0 then (bif xn x1 12 then (match g158 (xh_ui (xh_ui σ 53 21 k1) 54 (Int32.toNatClampNeg x1) (((xh_ui σ 53 21 k1) 54 (Int32.toNatClampNeg x1)) &&& ((1 <<< (x2 &&& 31)) ^^^ (-1)))) with | some (Sum.inl v7, s8) => some ((Sum.inl 0, s8)) | some (Sum.inr v7, s8) => none | none => none) else none) else some ((Sum.inl 0, (xh_ui σ 53 21 k1))))
def g157 (a1 : Int32) (a2 : Int32) (σ : xS) : xO := (match g151 a1 a2 σ with | some (Sum.inl v1, s2) => (if v1 = 0 then g157_31 a1 a2 1 s2 else (bif xn a1 12 then (if (((s2 54 (Int32.toNatClampNeg a1)) >>> (a2 &&& 31)) &&& 1) = 0 then g157_31 a1 a2 2 s2 else g157_31 a1 a2 0 s2) else none)) | some (Sum.inr v1, s2) => none | none => none)
theorem g157_31_ok {l : Launch} {Ω : xo_O} (htr : xH l) (d : Nat) (p : Nat) (τ : Nat → Nat → Int64) (x1 : Int32) (x2 : Int32) (k1 : Int32) (σ : xS) (r : xv_R) (H : xo (xB true p τ r) (g157_31 x1 x2 k1 σ)) : xv l Ω (d + 2) 0 0 157 31 [some (.ref 53), some (.int x1), some (.int x2)] [.int k1, .ref 53] (hM p σ τ) r := by
  unfold g157_31 at H
  by_cases h5 : ((xh_ui σ 53 21 k1) 53 21) = 0
  · rw [if_pos h5] at H
    refine xp_ok htr 4 (d + 2) 0 0 [eB true] 157 31 [some (.ref 53), some (.int x1), some (.int x2)] [.int k1, .ref 53] (hM p σ τ) ⟨h5, ?_⟩
    show xv l Ω (d + 2) 0 0 157 42 [some (.ref 53), some (.int x1), some (.int x2)] [] (hM p (xh_ui σ 53 21 k1) τ) r
    cases g6 : xn x1 12 with
    | false => rw [g6, cond_false] at H; exact False.elim H
    | true =>
      rw [g6, cond_true] at H
      refine xp_ok htr 8 (d + 2) 0 0 [] 157 42 [some (.ref 53), some (.int x1), some (.int x2)] [] (hM p (xh_ui σ 53 21 k1) τ) ⟨(xn_in g6), ?_⟩
      show xv l Ω (d + 2) 0 0 157 52 [some (.ref 53), some (.int x1), some (.int x2)] [.int (1 <<< (x2 &&& 31)), .int ((xh_ui σ 53 21 k1) 54 (Int32.toNatClampNeg x1)), .int x1, .ref 54] (hM p (xh_ui σ 53 21 k1) τ) r
      cases q9 : g158 (xh_ui (xh_ui σ 53 21 k1) 54 (Int32.toNatClampNeg x1) (((xh_ui σ 53 21 k1) 54 (Int32.toNatClampNeg x1)) &&& ((1 <<< (x2 &&& 31)) ^^^ (-1)))) with
      | none => rw [q9] at H; exact False.elim H
      | some q90 =>
        obtain ⟨v7 | v7, s8⟩ := q90
        · rw [q9] at H; dsimp only at H
          have hc := g158_run (Ω := Ω) htr d p τ  (xh_ui (xh_ui σ 53 21 k1) 54 (Int32.toNatClampNeg x1) (((xh_ui σ 53 21 k1) 54 (Int32.toNatClampNeg x1)) &&& ((1 <<< (x2 &&& 31)) ^^^ (-1)))) q9
          refine xp_ok htr 6 (d + 2) 0 0 [eC none (hM p s8 τ)] 157 52 [some (.ref 53), some (.int x1), some (.int x2)] [.int (1 <<< (x2 &&& 31)), .int ((xh_ui σ 53 21 k1) 54 (Int32.toNatClampNeg x1)), .int x1, .ref 54] (hM p (xh_ui σ 53 21 k1) τ) ⟨(xn_in g6), hc, ?_⟩
          show xv l Ω (d + 2) 0 0 157 60 [some (.ref 53), some (.int x1), some (.int x2)] [] (hM p s8 τ) r
          exact xp_ok htr 1 (d + 2) 0 0 [] 157 60 [some (.ref 53), some (.int x1), some (.int x2)] [] (hM p s8 τ) ⟨trivial, (Eq.symm H)⟩
        · rw [q9] at H; exact False.elim H
  · rw [if_neg h5] at H
    refine xp_ok htr 4 (d + 2) 0 0 [eB false] 157 31 [some (.ref 53), some (.int x1), some (.int x2)] [.int k1, .ref 53] (hM p σ τ) ⟨h5, ?_⟩
    show xv l Ω (d + 2) 0 0 157 41 [some (.ref 53), some (.int x1), some (.int x2)] [] (hM p (xh_ui σ 53 21 k1) τ) r
    exact xp_ok htr 1 (d + 2) 0 0 [] 157 41 [some (.ref 53), some (.int x1), some (.int x2)] [] (hM p (xh_ui σ 53 21 k1) τ) ⟨trivial, (Eq.symm H)⟩
theorem g157_run {l : Launch} {Ω : xo_O} (htr : xH l) (d : Nat) (p : Nat) (τ : Nat → Nat → Int64) (a1 : Int32) (a2 : Int32) (σ : xS) {q : xQ} (hq : g157 a1 a2 σ = some q) : xv l Ω (d + 2) 0 0 157 0 (xs_loc (xm_l 157) [.ref 53, .int a1, .int a2]) [] (hM p σ τ) (xq_R true p τ q) := by
  have H : xo (xB true p τ (xq_R true p τ q)) (g157 a1 a2 σ) := by rw [hq]; exact rfl
  generalize xq_R true p τ q = r at H ⊢
  show xv l Ω (d + 2) 0 0 157 0 [some (.ref 53), some (.int a1), some (.int a2)] [] (hM p σ τ) r
  unfold g157 at H
  cases q3 : g151 a1 a2 σ with
  | none => rw [q3] at H; exact False.elim H
  | some q30 =>
    obtain ⟨v1 | v1, s2⟩ := q30
    · rw [q3] at H; dsimp only at H
      have hc := g151_run (Ω := Ω) htr d p τ a1 a2 σ q3
      refine xp_ok htr 4 (d + 2) 0 0 [eC (some (.int v1)) (hM p s2 τ)] 157 0 [some (.ref 53), some (.int a1), some (.int a2)] [] (hM p σ τ) ⟨hc, ?_⟩
      show xv l Ω (d + 2) 0 0 157 6 [some (.ref 53), some (.int a1), some (.int a2)] [.int v1, .ref 53] (hM p s2 τ) r
      by_cases h4 : v1 = 0
      · rw [if_pos h4] at H
        refine xp_ok htr 1 (d + 2) 0 0 [eB false] 157 6 [some (.ref 53), some (.int a1), some (.int a2)] [.int v1, .ref 53] (hM p s2 τ) ⟨h4, ?_⟩
        show xv l Ω (d + 2) 0 0 157 9 [some (.ref 53), some (.int a1), some (.int a2)] [.ref 53] (hM p s2 τ) r
        refine xp_ok htr 2 (d + 2) 0 0 [] 157 9 [some (.ref 53), some (.int a1), some (.int a2)] [.ref 53] (hM p s2 τ) ?_
        show xv l Ω (d + 2) 0 0 157 31 [some (.ref 53), some (.int a1), some (.int a2)] [.int 1, .ref 53] (hM p s2 τ) r
        exact xv_sub (L' := [some (.ref 53), some (.int a1), some (.int a2)]) ⟨rfl, ⟨rfl, ⟨rfl, trivial⟩⟩⟩ (g157_31_ok htr d p τ a1 a2 1 s2 r H)
      · rw [if_neg h4] at H
        refine xp_ok htr 1 (d + 2) 0 0 [eB true] 157 6 [some (.ref 53), some (.int a1), some (.int a2)] [.int v1, .ref 53] (hM p s2 τ) ⟨h4, ?_⟩
        show xv l Ω (d + 2) 0 0 157 13 [some (.ref 53), some (.int a1), some (.int a2)] [.ref 53] (hM p s2 τ) r
        cases g10 : xn a1 12 with
        | false => rw [g10, cond_false] at H; exact False.elim H
        | true =>
          rw [g10, cond_true] at H
          refine xp_ok htr 8 (d + 2) 0 0 [] 157 13 [some (.ref 53), some (.int a1), some (.int a2)] [.ref 53] (hM p s2 τ) ⟨(xn_in g10), ?_⟩
          show xv l Ω (d + 2) 0 0 157 23 [some (.ref 53), some (.int a1), some (.int a2)] [.int (((s2 54 (Int32.toNatClampNeg a1)) >>> (a2 &&& 31)) &&& 1), .ref 53] (hM p s2 τ) r
          by_cases h11 : (((s2 54 (Int32.toNatClampNeg a1)) >>> (a2 &&& 31)) &&& 1) = 0
          · rw [if_pos h11] at H
            refine xp_ok htr 1 (d + 2) 0 0 [eB false] 157 23 [some (.ref 53), some (.int a1), some (.int a2)] [.int (((s2 54 (Int32.toNatClampNeg a1)) >>> (a2 &&& 31)) &&& 1), .ref 53] (hM p s2 τ) ⟨h11, ?_⟩
            show xv l Ω (d + 2) 0 0 157 26 [some (.ref 53), some (.int a1), some (.int a2)] [.ref 53] (hM p s2 τ) r
            refine xp_ok htr 2 (d + 2) 0 0 [] 157 26 [some (.ref 53), some (.int a1), some (.int a2)] [.ref 53] (hM p s2 τ) ?_
            show xv l Ω (d + 2) 0 0 157 31 [some (.ref 53), some (.int a1), some (.int a2)] [.int 2, .ref 53] (hM p s2 τ) r
            exact xv_sub (L' := [some (.ref 53), some (.int a1), some (.int a2)]) ⟨rfl, ⟨rfl, ⟨rfl, trivial⟩⟩⟩ (g157_31_ok htr d p τ a1 a2 2 s2 r H)
          · rw [if_neg h11] at H
            refine xp_ok htr 1 (d + 2) 0 0 [eB true] 157 23 [some (.ref 53), some (.int a1), some (.int a2)] [.int (((s2 54 (Int32.toNatClampNeg a1)) >>> (a2 &&& 31)) &&& 1), .ref 53] (hM p s2 τ) ⟨h11, ?_⟩
            show xv l Ω (d + 2) 0 0 157 30 [some (.ref 53), some (.int a1), some (.int a2)] [.ref 53] (hM p s2 τ) r
            refine xp_ok htr 1 (d + 2) 0 0 [] 157 30 [some (.ref 53), some (.int a1), some (.int a2)] [.ref 53] (hM p s2 τ) ?_
            show xv l Ω (d + 2) 0 0 157 31 [some (.ref 53), some (.int a1), some (.int a2)] [.int 0, .ref 53] (hM p s2 τ) r
            exact xv_sub (L' := [some (.ref 53), some (.int a1), some (.int a2)]) ⟨rfl, ⟨rfl, ⟨rfl, trivial⟩⟩⟩ (g157_31_ok htr d p τ a1 a2 0 s2 r H)
    · rw [q3] at H; exact False.elim H
