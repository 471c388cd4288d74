/-! the methods as functions: laid by program (wip/whole/dec.py) -/
/- AccessDesk$Reader.readMatch -/
def g96_71 (p : Nat) (x1 : Int32) (x2 : Int32) (σ : xS) : Option xQ := (match g90 ((σ 20 2) + 1) σ with | some (Sum.inl v10, s11) => (match g98 (s11 20 3) s11 with | some (Sum.inl v13, s14) => (if v13 = 0 then some ((Sum.inl 0, s14)) else (match g99 s14 with | some (Sum.inl v17, s18) => (match g100 p x1 x2 v17 s18 with | some (Sum.inl v20, s21) => some ((Sum.inl 1, s21)) | some (Sum.inr v20, s21) => none | none => none) | some (Sum.inr v17, s18) => none | none => none)) | some (Sum.inr v13, s14) => none | none => none) | some (Sum.inr v10, s11) => none | none => none)
def g96_46 (p : Nat) (x1 : Int32) (x2 : Int32) (k0 : Int32) (σ : xS) : Option xQ := (if x2 = 61 then g96_71 p x1 x2 σ else (if k0 = 0 then some ((Sum.inl 0, σ)) else (if x2 = 60 then g96_71 p x1 x2 σ else (if x2 = 62 then g96_71 p x1 x2 σ else some ((Sum.inl 0, σ))))))
def g96_45 (p : Nat) (x1 : Int32) (x2 : Int32) (σ : xS) : Option xQ := g96_46 p x1 x2 0 σ
def g96 (p : Nat)  (σ : xS) : xO := (match g97 (σ 20 3) σ with | some (Sum.inl v1, s2) => (if v1 = 0 then some ((Sum.inl 0, s2)) else (match g90 ((s2 20 2) + 1) s2 with | some (Sum.inl v5, s6) => (if (σ 20 3) = 114 then g96_45 p (σ 20 3) (s6 20 3) s6 else (if (σ 20 3) = 117 then g96_45 p (σ 20 3) (s6 20 3) s6 else g96_46 p (σ 20 3) (s6 20 3) 1 s6)) | some (Sum.inr v5, s6) => none | none => none)) | some (Sum.inr v1, s2) => none | none => none)
theorem g96_71_ok_23 {l : Launch} {Ω : xo_O} (htr : xH l) (d : Nat) (τ : Nat → Nat → Int64) (x1 : Int32) (x2 : Int32) (σ : xS) (r : xv_R) (H : xo (xB false 23 τ r) (g96_71 23 x1 x2 σ)) : xv l Ω (d + 2) 0 0 96 71 [some (.ref 20), some (.int x1), some (.int x2), none] [] (hM 23 σ τ) r := by
  unfold g96_71 at H
  cases q12 : g90 ((σ 20 2) + 1) σ with
  | none => rw [q12] at H; exact False.elim H
  | some q120 =>
    obtain ⟨v10 | v10, s11⟩ := q120
    · rw [q12] at H; dsimp only at H
      have hc := g90_run (Ω := Ω) htr (d + 1) 23 τ ((σ 20 2) + 1) σ q12
      refine xp_ok htr 6 (d + 2) 0 0 [eC none (hM 23 s11 τ)] 96 71 [some (.ref 20), some (.int x1), some (.int x2), none] [] (hM 23 σ τ) ⟨hc, ?_⟩
      show xv l Ω (d + 2) 0 0 96 81 [some (.ref 20), some (.int x1), some (.int x2), none] [] (hM 23 s11 τ) r
      cases q15 : g98 (s11 20 3) s11 with
      | none => rw [q15] at H; exact False.elim H
      | some q150 =>
        obtain ⟨v13 | v13, s14⟩ := q150
        · rw [q15] at H; dsimp only at H
          have hc := g98_run (Ω := Ω) htr (d + 1) 23 τ (s11 20 3) s11 q15
          refine xp_ok htr 3 (d + 2) 0 0 [eC (some (.int v13)) (hM 23 s14 τ)] 96 81 [some (.ref 20), some (.int x1), some (.int x2), none] [] (hM 23 s11 τ) ⟨hc, ?_⟩
          show xv l Ω (d + 2) 0 0 96 88 [some (.ref 20), some (.int x1), some (.int x2), none] [.int v13] (hM 23 s14 τ) r
          by_cases h16 : v13 = 0
          · rw [if_pos h16] at H
            refine xp_ok htr 1 (d + 2) 0 0 [eB false] 96 88 [some (.ref 20), some (.int x1), some (.int x2), none] [.int v13] (hM 23 s14 τ) ⟨h16, ?_⟩
            show xv l Ω (d + 2) 0 0 96 91 [some (.ref 20), some (.int x1), some (.int x2), none] [] (hM 23 s14 τ) r
            exact xp_ok htr 2 (d + 2) 0 0 [] 96 91 [some (.ref 20), some (.int x1), some (.int x2), none] [] (hM 23 s14 τ) ⟨Or.inl rfl, (Eq.symm H)⟩
          · rw [if_neg h16] at H
            refine xp_ok htr 1 (d + 2) 0 0 [eB true] 96 88 [some (.ref 20), some (.int x1), some (.int x2), none] [.int v13] (hM 23 s14 τ) ⟨h16, ?_⟩
            show xv l Ω (d + 2) 0 0 96 93 [some (.ref 20), some (.int x1), some (.int x2), none] [] (hM 23 s14 τ) r
            cases q19 : g99 s14 with
            | none => rw [q19] at H; exact False.elim H
            | some q190 =>
              obtain ⟨v17 | v17, s18⟩ := q190
              · rw [q19] at H; dsimp only at H
                have hc := g99_run (Ω := Ω) htr d 23 τ  s14 q19
                refine xp_ok htr 6 (d + 2) 0 0 [eC (some (.int v17)) (hM 23 s18 τ)] 96 93 [some (.ref 20), some (.int x1), some (.int x2), none] [] (hM 23 s14 τ) ⟨hc, ?_⟩
                show xv l Ω (d + 2) 0 0 96 103 [some (.ref 20), some (.int x1), some (.int x2), none] [.int v17, .int x2, .int x1, .ref 23] (hM 23 s18 τ) r
                cases q22 : g100 23 x1 x2 v17 s18 with
                | none => rw [q22] at H; exact False.elim H
                | some q220 =>
                  obtain ⟨v20 | v20, s21⟩ := q220
                  · rw [q22] at H; dsimp only at H
                    have hc := g100_run_23 (Ω := Ω) htr (d + 1) 23 τ x1 x2 v17 s18 q22
                    refine xp_ok htr 1 (d + 2) 0 0 [eC none (hM 23 s21 τ)] 96 103 [some (.ref 20), some (.int x1), some (.int x2), none] [.int v17, .int x2, .int x1, .ref 23] (hM 23 s18 τ) ⟨hc, ?_⟩
                    show xv l Ω (d + 2) 0 0 96 106 [some (.ref 20), some (.int x1), some (.int x2), none] [] (hM 23 s21 τ) r
                    exact xp_ok htr 2 (d + 2) 0 0 [] 96 106 [some (.ref 20), some (.int x1), some (.int x2), none] [] (hM 23 s21 τ) ⟨Or.inr rfl, (Eq.symm H)⟩
                  · rw [q22] at H; exact False.elim H
              · rw [q19] at H; exact False.elim H
        · rw [q15] at H; exact False.elim H
    · rw [q12] at H; exact False.elim H
theorem g96_46_ok_23 {l : Launch} {Ω : xo_O} (htr : xH l) (d : Nat) (τ : Nat → Nat → Int64) (x1 : Int32) (x2 : Int32) (k0 : Int32) (σ : xS) (r : xv_R) (H : xo (xB false 23 τ r) (g96_46 23 x1 x2 k0 σ)) : xv l Ω (d + 2) 0 0 96 46 [some (.ref 20), some (.int x1), some (.int x2), none] [.int k0] (hM 23 σ τ) r := by
  unfold g96_46 at H
  by_cases h9 : x2 = 61
  · rw [if_pos h9] at H
    refine xp_ok htr 4 (d + 2) 0 0 [eB true] 96 46 [some (.ref 20), some (.int x1), some (.int x2), none] [.int k0] (hM 23 σ τ) ⟨h9, ?_⟩
    show xv l Ω (d + 2) 0 0 96 71 [some (.ref 20), some (.int x1), some (.int x2), some (.int k0)] [] (hM 23 σ τ) r
    exact xv_sub (L' := [some (.ref 20), some (.int x1), some (.int x2), none]) ⟨rfl, ⟨rfl, ⟨rfl, trivial⟩⟩⟩ (g96_71_ok_23 htr d  τ x1 x2 σ r H)
  · rw [if_neg h9] at H
    refine xp_ok htr 4 (d + 2) 0 0 [eB false] 96 46 [some (.ref 20), some (.int x1), some (.int x2), none] [.int k0] (hM 23 σ τ) ⟨h9, ?_⟩
    show xv l Ω (d + 2) 0 0 96 53 [some (.ref 20), some (.int x1), some (.int x2), some (.int k0)] [] (hM 23 σ τ) r
    by_cases h23 : k0 = 0
    · rw [if_pos h23] at H
      refine xp_ok htr 2 (d + 2) 0 0 [eB true] 96 53 [some (.ref 20), some (.int x1), some (.int x2), some (.int k0)] [] (hM 23 σ τ) ⟨h23, ?_⟩
      show xv l Ω (d + 2) 0 0 96 69 [some (.ref 20), some (.int x1), some (.int x2), some (.int k0)] [] (hM 23 σ τ) r
      exact xp_ok htr 2 (d + 2) 0 0 [] 96 69 [some (.ref 20), some (.int x1), some (.int x2), some (.int k0)] [] (hM 23 σ τ) ⟨Or.inl rfl, (Eq.symm H)⟩
    · rw [if_neg h23] at H
      refine xp_ok htr 2 (d + 2) 0 0 [eB false] 96 53 [some (.ref 20), some (.int x1), some (.int x2), some (.int k0)] [] (hM 23 σ τ) ⟨h23, ?_⟩
      show xv l Ω (d + 2) 0 0 96 57 [some (.ref 20), some (.int x1), some (.int x2), some (.int k0)] [] (hM 23 σ τ) r
      by_cases h24 : x2 = 60
      · rw [if_pos h24] at H
        refine xp_ok htr 3 (d + 2) 0 0 [eB true] 96 57 [some (.ref 20), some (.int x1), some (.int x2), some (.int k0)] [] (hM 23 σ τ) ⟨h24, ?_⟩
        show xv l Ω (d + 2) 0 0 96 71 [some (.ref 20), some (.int x1), some (.int x2), some (.int k0)] [] (hM 23 σ τ) r
        exact xv_sub (L' := [some (.ref 20), some (.int x1), some (.int x2), none]) ⟨rfl, ⟨rfl, ⟨rfl, trivial⟩⟩⟩ (g96_71_ok_23 htr d  τ x1 x2 σ r H)
      · rw [if_neg h24] at H
        refine xp_ok htr 3 (d + 2) 0 0 [eB false] 96 57 [some (.ref 20), some (.int x1), some (.int x2), some (.int k0)] [] (hM 23 σ τ) ⟨h24, ?_⟩
        show xv l Ω (d + 2) 0 0 96 63 [some (.ref 20), some (.int x1), some (.int x2), some (.int k0)] [] (hM 23 σ τ) r
        by_cases h25 : x2 = 62
        · rw [if_pos h25] at H
          refine xp_ok htr 3 (d + 2) 0 0 [eB true] 96 63 [some (.ref 20), some (.int x1), some (.int x2), some (.int k0)] [] (hM 23 σ τ) ⟨h25, ?_⟩
          show xv l Ω (d + 2) 0 0 96 71 [some (.ref 20), some (.int x1), some (.int x2), some (.int k0)] [] (hM 23 σ τ) r
          exact xv_sub (L' := [some (.ref 20), some (.int x1), some (.int x2), none]) ⟨rfl, ⟨rfl, ⟨rfl, trivial⟩⟩⟩ (g96_71_ok_23 htr d  τ x1 x2 σ r H)
        · rw [if_neg h25] at H
          refine xp_ok htr 3 (d + 2) 0 0 [eB false] 96 63 [some (.ref 20), some (.int x1), some (.int x2), some (.int k0)] [] (hM 23 σ τ) ⟨h25, ?_⟩
          show xv l Ω (d + 2) 0 0 96 69 [some (.ref 20), some (.int x1), some (.int x2), some (.int k0)] [] (hM 23 σ τ) r
          exact xp_ok htr 2 (d + 2) 0 0 [] 96 69 [some (.ref 20), some (.int x1), some (.int x2), some (.int k0)] [] (hM 23 σ τ) ⟨Or.inl rfl, (Eq.symm H)⟩
theorem g96_45_ok_23 {l : Launch} {Ω : xo_O} (htr : xH l) (d : Nat) (τ : Nat → Nat → Int64) (x1 : Int32) (x2 : Int32) (σ : xS) (r : xv_R) (H : xo (xB false 23 τ r) (g96_45 23 x1 x2 σ)) : xv l Ω (d + 2) 0 0 96 45 [some (.ref 20), some (.int x1), some (.int x2), none] [] (hM 23 σ τ) r := by
  unfold g96_45 at H
  refine xp_ok htr 1 (d + 2) 0 0 [] 96 45 [some (.ref 20), some (.int x1), some (.int x2), none] [] (hM 23 σ τ) ?_
  exact xv_sub (L' := [some (.ref 20), some (.int x1), some (.int x2), none]) ⟨rfl, ⟨rfl, ⟨rfl, trivial⟩⟩⟩ (g96_46_ok_23 htr d  τ x1 x2 0 σ r H)
theorem g96_run_23 {l : Launch} {Ω : xo_O} (htr : xH l) (d : Nat) (τ : Nat → Nat → Int64)  (σ : xS) {q : xQ} (hq : g96 23  σ = some q) : xv l Ω (d + 2) 0 0 96 0 (xs_loc (xm_l 96) [.ref 20]) [] (hM 23 σ τ) (xq_R false 23 τ q) := by
  have H : xo (xB false 23 τ (xq_R false 23 τ q)) (g96 23  σ) := by rw [hq]; exact rfl
  generalize xq_R false 23 τ q = r at H ⊢
  show xv l Ω (d + 2) 0 0 96 0 [some (.ref 20), none, none, none] [] (hM 23 σ τ) r
  unfold g96 at H
  cases q3 : g97 (σ 20 3) σ with
  | none => rw [q3] at H; exact False.elim H
  | some q30 =>
    obtain ⟨v1 | v1, s2⟩ := q30
    · rw [q3] at H; dsimp only at H
      have hc := g97_run (Ω := Ω) htr (d + 1) 23 τ (σ 20 3) σ q3
      refine xp_ok htr 5 (d + 2) 0 0 [eC (some (.int v1)) (hM 23 s2 τ)] 96 0 [some (.ref 20), none, none, none] [] (hM 23 σ τ) ⟨hc, ?_⟩
      show xv l Ω (d + 2) 0 0 96 9 [some (.ref 20), some (.int (σ 20 3)), none, none] [.int v1] (hM 23 s2 τ) r
      by_cases h4 : v1 = 0
      · rw [if_pos h4] at H
        refine xp_ok htr 1 (d + 2) 0 0 [eB false] 96 9 [some (.ref 20), some (.int (σ 20 3)), none, none] [.int v1] (hM 23 s2 τ) ⟨h4, ?_⟩
        show xv l Ω (d + 2) 0 0 96 12 [some (.ref 20), some (.int (σ 20 3)), none, none] [] (hM 23 s2 τ) r
        exact xp_ok htr 2 (d + 2) 0 0 [] 96 12 [some (.ref 20), some (.int (σ 20 3)), none, none] [] (hM 23 s2 τ) ⟨Or.inl rfl, (Eq.symm H)⟩
      · rw [if_neg h4] at H
        refine xp_ok htr 1 (d + 2) 0 0 [eB true] 96 9 [some (.ref 20), some (.int (σ 20 3)), none, none] [.int v1] (hM 23 s2 τ) ⟨h4, ?_⟩
        show xv l Ω (d + 2) 0 0 96 14 [some (.ref 20), some (.int (σ 20 3)), none, none] [] (hM 23 s2 τ) r
        cases q7 : g90 ((s2 20 2) + 1) s2 with
        | none => rw [q7] at H; exact False.elim H
        | some q70 =>
          obtain ⟨v5 | v5, s6⟩ := q70
          · rw [q7] at H; dsimp only at H
            have hc := g90_run (Ω := Ω) htr (d + 1) 23 τ ((s2 20 2) + 1) s2 q7
            refine xp_ok htr 6 (d + 2) 0 0 [eC none (hM 23 s6 τ)] 96 14 [some (.ref 20), some (.int (σ 20 3)), none, none] [] (hM 23 s2 τ) ⟨hc, ?_⟩
            show xv l Ω (d + 2) 0 0 96 24 [some (.ref 20), some (.int (σ 20 3)), none, none] [] (hM 23 s6 τ) r
            by_cases h8 : (σ 20 3) = 114
            · rw [if_pos h8] at H
              refine xp_ok htr 6 (d + 2) 0 0 [eB true] 96 24 [some (.ref 20), some (.int (σ 20 3)), none, none] [] (hM 23 s6 τ) ⟨h8, ?_⟩
              show xv l Ω (d + 2) 0 0 96 45 [some (.ref 20), some (.int (σ 20 3)), some (.int (s6 20 3)), none] [] (hM 23 s6 τ) r
              exact xv_sub (L' := [some (.ref 20), some (.int (σ 20 3)), some (.int (s6 20 3)), none]) ⟨rfl, ⟨rfl, ⟨rfl, trivial⟩⟩⟩ (g96_45_ok_23 htr d  τ (σ 20 3) (s6 20 3) s6 r H)
            · rw [if_neg h8] at H
              refine xp_ok htr 6 (d + 2) 0 0 [eB false] 96 24 [some (.ref 20), some (.int (σ 20 3)), none, none] [] (hM 23 s6 τ) ⟨h8, ?_⟩
              show xv l Ω (d + 2) 0 0 96 35 [some (.ref 20), some (.int (σ 20 3)), some (.int (s6 20 3)), none] [] (hM 23 s6 τ) r
              by_cases h26 : (σ 20 3) = 117
              · rw [if_pos h26] at H
                refine xp_ok htr 3 (d + 2) 0 0 [eB true] 96 35 [some (.ref 20), some (.int (σ 20 3)), some (.int (s6 20 3)), none] [] (hM 23 s6 τ) ⟨h26, ?_⟩
                show xv l Ω (d + 2) 0 0 96 45 [some (.ref 20), some (.int (σ 20 3)), some (.int (s6 20 3)), none] [] (hM 23 s6 τ) r
                exact xv_sub (L' := [some (.ref 20), some (.int (σ 20 3)), some (.int (s6 20 3)), none]) ⟨rfl, ⟨rfl, ⟨rfl, trivial⟩⟩⟩ (g96_45_ok_23 htr d  τ (σ 20 3) (s6 20 3) s6 r H)
              · rw [if_neg h26] at H
                refine xp_ok htr 3 (d + 2) 0 0 [eB false] 96 35 [some (.ref 20), some (.int (σ 20 3)), some (.int (s6 20 3)), none] [] (hM 23 s6 τ) ⟨h26, ?_⟩
                show xv l Ω (d + 2) 0 0 96 41 [some (.ref 20), some (.int (σ 20 3)), some (.int (s6 20 3)), none] [] (hM 23 s6 τ) r
                refine xp_ok htr 2 (d + 2) 0 0 [] 96 41 [some (.ref 20), some (.int (σ 20 3)), some (.int (s6 20 3)), none] [] (hM 23 s6 τ) ?_
                exact xv_sub (L' := [some (.ref 20), some (.int (σ 20 3)), some (.int (s6 20 3)), none]) ⟨rfl, ⟨rfl, ⟨rfl, trivial⟩⟩⟩ (g96_46_ok_23 htr d  τ (σ 20 3) (s6 20 3) 1 s6 r H)
          · rw [q7] at H; exact False.elim H
    · rw [q3] at H; exact False.elim H
theorem g96_71_ok_36 {l : Launch} {Ω : xo_O} (htr : xH l) (d : Nat) (τ : Nat → Nat → Int64) (x1 : Int32) (x2 : Int32) (σ : xS) (r : xv_R) (H : xo (xB false 36 τ r) (g96_71 36 x1 x2 σ)) : xv l Ω (d + 2) 0 0 96 71 [some (.ref 20), some (.int x1), some (.int x2), none] [] (hM 36 σ τ) r := by
  unfold g96_71 at H
  cases q12 : g90 ((σ 20 2) + 1) σ with
  | none => rw [q12] at H; exact False.elim H
  | some q120 =>
    obtain ⟨v10 | v10, s11⟩ := q120
    · rw [q12] at H; dsimp only at H
      have hc := g90_run (Ω := Ω) htr (d + 1) 36 τ ((σ 20 2) + 1) σ q12
      refine xp_ok htr 6 (d + 2) 0 0 [eC none (hM 36 s11 τ)] 96 71 [some (.ref 20), some (.int x1), some (.int x2), none] [] (hM 36 σ τ) ⟨hc, ?_⟩
      show xv l Ω (d + 2) 0 0 96 81 [some (.ref 20), some (.int x1), some (.int x2), none] [] (hM 36 s11 τ) r
      cases q15 : g98 (s11 20 3) s11 with
      | none => rw [q15] at H; exact False.elim H
      | some q150 =>
        obtain ⟨v13 | v13, s14⟩ := q150
        · rw [q15] at H; dsimp only at H
          have hc := g98_run (Ω := Ω) htr (d + 1) 36 τ (s11 20 3) s11 q15
          refine xp_ok htr 3 (d + 2) 0 0 [eC (some (.int v13)) (hM 36 s14 τ)] 96 81 [some (.ref 20), some (.int x1), some (.int x2), none] [] (hM 36 s11 τ) ⟨hc, ?_⟩
          show xv l Ω (d + 2) 0 0 96 88 [some (.ref 20), some (.int x1), some (.int x2), none] [.int v13] (hM 36 s14 τ) r
          by_cases h16 : v13 = 0
          · rw [if_pos h16] at H
            refine xp_ok htr 1 (d + 2) 0 0 [eB false] 96 88 [some (.ref 20), some (.int x1), some (.int x2), none] [.int v13] (hM 36 s14 τ) ⟨h16, ?_⟩
            show xv l Ω (d + 2) 0 0 96 91 [some (.ref 20), some (.int x1), some (.int x2), none] [] (hM 36 s14 τ) r
            exact xp_ok htr 2 (d + 2) 0 0 [] 96 91 [some (.ref 20), some (.int x1), some (.int x2), none] [] (hM 36 s14 τ) ⟨Or.inl rfl, (Eq.symm H)⟩
          · rw [if_neg h16] at H
            refine xp_ok htr 1 (d + 2) 0 0 [eB true] 96 88 [some (.ref 20), some (.int x1), some (.int x2), none] [.int v13] (hM 36 s14 τ) ⟨h16, ?_⟩
            show xv l Ω (d + 2) 0 0 96 93 [some (.ref 20), some (.int x1), some (.int x2), none] [] (hM 36 s14 τ) r
            cases q19 : g99 s14 with
            | none => rw [q19] at H; exact False.elim H
            | some q190 =>
              obtain ⟨v17 | v17, s18⟩ := q190
              · rw [q19] at H; dsimp only at H
                have hc := g99_run (Ω := Ω) htr d 36 τ  s14 q19
                refine xp_ok htr 6 (d + 2) 0 0 [eC (some (.int v17)) (hM 36 s18 τ)] 96 93 [some (.ref 20), some (.int x1), some (.int x2), none] [] (hM 36 s14 τ) ⟨hc, ?_⟩
                show xv l Ω (d + 2) 0 0 96 103 [some (.ref 20), some (.int x1), some (.int x2), none] [.int v17, .int x2, .int x1, .ref 36] (hM 36 s18 τ) r
                cases q22 : g100 36 x1 x2 v17 s18 with
                | none => rw [q22] at H; exact False.elim H
                | some q220 =>
                  obtain ⟨v20 | v20, s21⟩ := q220
                  · rw [q22] at H; dsimp only at H
                    have hc := g100_run_36 (Ω := Ω) htr (d + 1) 36 τ x1 x2 v17 s18 q22
                    refine xp_ok htr 1 (d + 2) 0 0 [eC none (hM 36 s21 τ)] 96 103 [some (.ref 20), some (.int x1), some (.int x2), none] [.int v17, .int x2, .int x1, .ref 36] (hM 36 s18 τ) ⟨hc, ?_⟩
                    show xv l Ω (d + 2) 0 0 96 106 [some (.ref 20), some (.int x1), some (.int x2), none] [] (hM 36 s21 τ) r
                    exact xp_ok htr 2 (d + 2) 0 0 [] 96 106 [some (.ref 20), some (.int x1), some (.int x2), none] [] (hM 36 s21 τ) ⟨Or.inr rfl, (Eq.symm H)⟩
                  · rw [q22] at H; exact False.elim H
              · rw [q19] at H; exact False.elim H
        · rw [q15] at H; exact False.elim H
    · rw [q12] at H; exact False.elim H
theorem g96_46_ok_36 {l : Launch} {Ω : xo_O} (htr : xH l) (d : Nat) (τ : Nat → Nat → Int64) (x1 : Int32) (x2 : Int32) (k0 : Int32) (σ : xS) (r : xv_R) (H : xo (xB false 36 τ r) (g96_46 36 x1 x2 k0 σ)) : xv l Ω (d + 2) 0 0 96 46 [some (.ref 20), some (.int x1), some (.int x2), none] [.int k0] (hM 36 σ τ) r := by
  unfold g96_46 at H
  by_cases h9 : x2 = 61
  · rw [if_pos h9] at H
    refine xp_ok htr 4 (d + 2) 0 0 [eB true] 96 46 [some (.ref 20), some (.int x1), some (.int x2), none] [.int k0] (hM 36 σ τ) ⟨h9, ?_⟩
    show xv l Ω (d + 2) 0 0 96 71 [some (.ref 20), some (.int x1), some (.int x2), some (.int k0)] [] (hM 36 σ τ) r
    exact xv_sub (L' := [some (.ref 20), some (.int x1), some (.int x2), none]) ⟨rfl, ⟨rfl, ⟨rfl, trivial⟩⟩⟩ (g96_71_ok_36 htr d  τ x1 x2 σ r H)
  · rw [if_neg h9] at H
    refine xp_ok htr 4 (d + 2) 0 0 [eB false] 96 46 [some (.ref 20), some (.int x1), some (.int x2), none] [.int k0] (hM 36 σ τ) ⟨h9, ?_⟩
    show xv l Ω (d + 2) 0 0 96 53 [some (.ref 20), some (.int x1), some (.int x2), some (.int k0)] [] (hM 36 σ τ) r
    by_cases h23 : k0 = 0
    · rw [if_pos h23] at H
      refine xp_ok htr 2 (d + 2) 0 0 [eB true] 96 53 [some (.ref 20), some (.int x1), some (.int x2), some (.int k0)] [] (hM 36 σ τ) ⟨h23, ?_⟩
      show xv l Ω (d + 2) 0 0 96 69 [some (.ref 20), some (.int x1), some (.int x2), some (.int k0)] [] (hM 36 σ τ) r
      exact xp_ok htr 2 (d + 2) 0 0 [] 96 69 [some (.ref 20), some (.int x1), some (.int x2), some (.int k0)] [] (hM 36 σ τ) ⟨Or.inl rfl, (Eq.symm H)⟩
    · rw [if_neg h23] at H
      refine xp_ok htr 2 (d + 2) 0 0 [eB false] 96 53 [some (.ref 20), some (.int x1), some (.int x2), some (.int k0)] [] (hM 36 σ τ) ⟨h23, ?_⟩
      show xv l Ω (d + 2) 0 0 96 57 [some (.ref 20), some (.int x1), some (.int x2), some (.int k0)] [] (hM 36 σ τ) r
      by_cases h24 : x2 = 60
      · rw [if_pos h24] at H
        refine xp_ok htr 3 (d + 2) 0 0 [eB true] 96 57 [some (.ref 20), some (.int x1), some (.int x2), some (.int k0)] [] (hM 36 σ τ) ⟨h24, ?_⟩
        show xv l Ω (d + 2) 0 0 96 71 [some (.ref 20), some (.int x1), some (.int x2), some (.int k0)] [] (hM 36 σ τ) r
        exact xv_sub (L' := [some (.ref 20), some (.int x1), some (.int x2), none]) ⟨rfl, ⟨rfl, ⟨rfl, trivial⟩⟩⟩ (g96_71_ok_36 htr d  τ x1 x2 σ r H)
      · rw [if_neg h24] at H
        refine xp_ok htr 3 (d + 2) 0 0 [eB false] 96 57 [some (.ref 20), some (.int x1), some (.int x2), some (.int k0)] [] (hM 36 σ τ) ⟨h24, ?_⟩
        show xv l Ω (d + 2) 0 0 96 63 [some (.ref 20), some (.int x1), some (.int x2), some (.int k0)] [] (hM 36 σ τ) r
        by_cases h25 : x2 = 62
        · rw [if_pos h25] at H
          refine xp_ok htr 3 (d + 2) 0 0 [eB true] 96 63 [some (.ref 20), some (.int x1), some (.int x2), some (.int k0)] [] (hM 36 σ τ) ⟨h25, ?_⟩
          show xv l Ω (d + 2) 0 0 96 71 [some (.ref 20), some (.int x1), some (.int x2), some (.int k0)] [] (hM 36 σ τ) r
          exact xv_sub (L' := [some (.ref 20), some (.int x1), some (.int x2), none]) ⟨rfl, ⟨rfl, ⟨rfl, trivial⟩⟩⟩ (g96_71_ok_36 htr d  τ x1 x2 σ r H)
        · rw [if_neg h25] at H
          refine xp_ok htr 3 (d + 2) 0 0 [eB false] 96 63 [some (.ref 20), some (.int x1), some (.int x2), some (.int k0)] [] (hM 36 σ τ) ⟨h25, ?_⟩
          show xv l Ω (d + 2) 0 0 96 69 [some (.ref 20), some (.int x1), some (.int x2), some (.int k0)] [] (hM 36 σ τ) r
          exact xp_ok htr 2 (d + 2) 0 0 [] 96 69 [some (.ref 20), some (.int x1), some (.int x2), some (.int k0)] [] (hM 36 σ τ) ⟨Or.inl rfl, (Eq.symm H)⟩
theorem g96_45_ok_36 {l : Launch} {Ω : xo_O} (htr : xH l) (d : Nat) (τ : Nat → Nat → Int64) (x1 : Int32) (x2 : Int32) (σ : xS) (r : xv_R) (H : xo (xB false 36 τ r) (g96_45 36 x1 x2 σ)) : xv l Ω (d + 2) 0 0 96 45 [some (.ref 20), some (.int x1), some (.int x2), none] [] (hM 36 σ τ) r := by
  unfold g96_45 at H
  refine xp_ok htr 1 (d + 2) 0 0 [] 96 45 [some (.ref 20), some (.int x1), some (.int x2), none] [] (hM 36 σ τ) ?_
  exact xv_sub (L' := [some (.ref 20), some (.int x1), some (.int x2), none]) ⟨rfl, ⟨rfl, ⟨rfl, trivial⟩⟩⟩ (g96_46_ok_36 htr d  τ x1 x2 0 σ r H)
theorem g96_run_36 {l : Launch} {Ω : xo_O} (htr : xH l) (d : Nat) (τ : Nat → Nat → Int64)  (σ : xS) {q : xQ} (hq : g96 36  σ = some q) : xv l Ω (d + 2) 0 0 96 0 (xs_loc (xm_l 96) [.ref 20]) [] (hM 36 σ τ) (xq_R false 36 τ q) := by
  have H : xo (xB false 36 τ (xq_R false 36 τ q)) (g96 36  σ) := by rw [hq]; exact rfl
  generalize xq_R false 36 τ q = r at H ⊢
  show xv l Ω (d + 2) 0 0 96 0 [some (.ref 20), none, none, none] [] (hM 36 σ τ) r
  unfold g96 at H
  cases q3 : g97 (σ 20 3) σ with
  | none => rw [q3] at H; exact False.elim H
  | some q30 =>
    obtain ⟨v1 | v1, s2⟩ := q30
    · rw [q3] at H; dsimp only at H
      have hc := g97_run (Ω := Ω) htr (d + 1) 36 τ (σ 20 3) σ q3
      refine xp_ok htr 5 (d + 2) 0 0 [eC (some (.int v1)) (hM 36 s2 τ)] 96 0 [some (.ref 20), none, none, none] [] (hM 36 σ τ) ⟨hc, ?_⟩
      show xv l Ω (d + 2) 0 0 96 9 [some (.ref 20), some (.int (σ 20 3)), none, none] [.int v1] (hM 36 s2 τ) r
      by_cases h4 : v1 = 0
      · rw [if_pos h4] at H
        refine xp_ok htr 1 (d + 2) 0 0 [eB false] 96 9 [some (.ref 20), some (.int (σ 20 3)), none, none] [.int v1] (hM 36 s2 τ) ⟨h4, ?_⟩
        show xv l Ω (d + 2) 0 0 96 12 [some (.ref 20), some (.int (σ 20 3)), none, none] [] (hM 36 s2 τ) r
        exact xp_ok htr 2 (d + 2) 0 0 [] 96 12 [some (.ref 20), some (.int (σ 20 3)), none, none] [] (hM 36 s2 τ) ⟨Or.inl rfl, (Eq.symm H)⟩
      · rw [if_neg h4] at H
        refine xp_ok htr 1 (d + 2) 0 0 [eB true] 96 9 [some (.ref 20), some (.int (σ 20 3)), none, none] [.int v1] (hM 36 s2 τ) ⟨h4, ?_⟩
        show xv l Ω (d + 2) 0 0 96 14 [some (.ref 20), some (.int (σ 20 3)), none, none] [] (hM 36 s2 τ) r
        cases q7 : g90 ((s2 20 2) + 1) s2 with
        | none => rw [q7] at H; exact False.elim H
        | some q70 =>
          obtain ⟨v5 | v5, s6⟩ := q70
          · rw [q7] at H; dsimp only at H
            have hc := g90_run (Ω := Ω) htr (d + 1) 36 τ ((s2 20 2) + 1) s2 q7
            refine xp_ok htr 6 (d + 2) 0 0 [eC none (hM 36 s6 τ)] 96 14 [some (.ref 20), some (.int (σ 20 3)), none, none] [] (hM 36 s2 τ) ⟨hc, ?_⟩
            show xv l Ω (d + 2) 0 0 96 24 [some (.ref 20), some (.int (σ 20 3)), none, none] [] (hM 36 s6 τ) r
            by_cases h8 : (σ 20 3) = 114
            · rw [if_pos h8] at H
              refine xp_ok htr 6 (d + 2) 0 0 [eB true] 96 24 [some (.ref 20), some (.int (σ 20 3)), none, none] [] (hM 36 s6 τ) ⟨h8, ?_⟩
              show xv l Ω (d + 2) 0 0 96 45 [some (.ref 20), some (.int (σ 20 3)), some (.int (s6 20 3)), none] [] (hM 36 s6 τ) r
              exact xv_sub (L' := [some (.ref 20), some (.int (σ 20 3)), some (.int (s6 20 3)), none]) ⟨rfl, ⟨rfl, ⟨rfl, trivial⟩⟩⟩ (g96_45_ok_36 htr d  τ (σ 20 3) (s6 20 3) s6 r H)
            · rw [if_neg h8] at H
              refine xp_ok htr 6 (d + 2) 0 0 [eB false] 96 24 [some (.ref 20), some (.int (σ 20 3)), none, none] [] (hM 36 s6 τ) ⟨h8, ?_⟩
              show xv l Ω (d + 2) 0 0 96 35 [some (.ref 20), some (.int (σ 20 3)), some (.int (s6 20 3)), none] [] (hM 36 s6 τ) r
              by_cases h26 : (σ 20 3) = 117
              · rw [if_pos h26] at H
                refine xp_ok htr 3 (d + 2) 0 0 [eB true] 96 35 [some (.ref 20), some (.int (σ 20 3)), some (.int (s6 20 3)), none] [] (hM 36 s6 τ) ⟨h26, ?_⟩
                show xv l Ω (d + 2) 0 0 96 45 [some (.ref 20), some (.int (σ 20 3)), some (.int (s6 20 3)), none] [] (hM 36 s6 τ) r
                exact xv_sub (L' := [some (.ref 20), some (.int (σ 20 3)), some (.int (s6 20 3)), none]) ⟨rfl, ⟨rfl, ⟨rfl, trivial⟩⟩⟩ (g96_45_ok_36 htr d  τ (σ 20 3) (s6 20 3) s6 r H)
              · rw [if_neg h26] at H
                refine xp_ok htr 3 (d + 2) 0 0 [eB false] 96 35 [some (.ref 20), some (.int (σ 20 3)), some (.int (s6 20 3)), none] [] (hM 36 s6 τ) ⟨h26, ?_⟩
                show xv l Ω (d + 2) 0 0 96 41 [some (.ref 20), some (.int (σ 20 3)), some (.int (s6 20 3)), none] [] (hM 36 s6 τ) r
                refine xp_ok htr 2 (d + 2) 0 0 [] 96 41 [some (.ref 20), some (.int (σ 20 3)), some (.int (s6 20 3)), none] [] (hM 36 s6 τ) ?_
                exact xv_sub (L' := [some (.ref 20), some (.int (σ 20 3)), some (.int (s6 20 3)), none]) ⟨rfl, ⟨rfl, ⟨rfl, trivial⟩⟩⟩ (g96_46_ok_36 htr d  τ (σ 20 3) (s6 20 3) 1 s6 r H)
          · rw [q7] at H; exact False.elim H
    · rw [q3] at H; exact False.elim H
/- AccessDesk$Reader.isBehindMatch -/
def g101 (a0 : Int32) (σ : xS) : xO := (if a0 = 44 then some ((Sum.inl 1, σ)) else (if a0 = 124 then some ((Sum.inl 1, σ)) else (if a0 = 38 then some ((Sum.inl 1, σ)) else (if a0 = 93 then some ((Sum.inl 1, σ)) else some ((Sum.inl 0, σ))))))
theorem g101_run {l : Launch} {Ω : xo_O} (htr : xH l) (d : Nat) (p : Nat) (τ : Nat → Nat → Int64) (a0 : Int32) (σ : xS) {q : xQ} (hq : g101 a0 σ = some q) : xv l Ω d 0 0 101 0 (xs_loc (xm_l 101) [.int a0]) [] (hM p σ τ) (xq_R false p τ q) := by
  have H : xo (xB false p τ (xq_R false p τ q)) (g101 a0 σ) := by rw [hq]; exact rfl
  generalize xq_R false p τ q = r at H ⊢
  show xv l Ω d 0 0 101 0 [some (.int a0)] [] (hM p σ τ) r
  unfold g101 at H
  by_cases h1 : a0 = 44
  · rw [if_pos h1] at H
    refine xp_ok htr 3 d 0 0 [eB true] 101 0 [some (.int a0)] [] (hM p σ τ) ⟨h1, ?_⟩
    show xv l Ω d 0 0 101 24 [some (.int a0)] [] (hM p σ τ) r
    exact xp_ok htr 3 d 0 0 [] 101 24 [some (.int a0)] [] (hM p σ τ) ⟨Or.inr rfl, (Eq.symm H)⟩
  · rw [if_neg h1] at H
    refine xp_ok htr 3 d 0 0 [eB false] 101 0 [some (.int a0)] [] (hM p σ τ) ⟨h1, ?_⟩
    show xv l Ω d 0 0 101 6 [some (.int a0)] [] (hM p σ τ) r
    by_cases h2 : a0 = 124
    · rw [if_pos h2] at H
      refine xp_ok htr 3 d 0 0 [eB true] 101 6 [some (.int a0)] [] (hM p σ τ) ⟨h2, ?_⟩
      show xv l Ω d 0 0 101 24 [some (.int a0)] [] (hM p σ τ) r
      exact xp_ok htr 3 d 0 0 [] 101 24 [some (.int a0)] [] (hM p σ τ) ⟨Or.inr rfl, (Eq.symm H)⟩
    · rw [if_neg h2] at H
      refine xp_ok htr 3 d 0 0 [eB false] 101 6 [some (.int a0)] [] (hM p σ τ) ⟨h2, ?_⟩
      show xv l Ω d 0 0 101 12 [some (.int a0)] [] (hM p σ τ) r
      by_cases h3 : a0 = 38
      · rw [if_pos h3] at H
        refine xp_ok htr 3 d 0 0 [eB true] 101 12 [some (.int a0)] [] (hM p σ τ) ⟨h3, ?_⟩
        show xv l Ω d 0 0 101 24 [some (.int a0)] [] (hM p σ τ) r
        exact xp_ok htr 3 d 0 0 [] 101 24 [some (.int a0)] [] (hM p σ τ) ⟨Or.inr rfl, (Eq.symm H)⟩
      · rw [if_neg h3] at H
        refine xp_ok htr 3 d 0 0 [eB false] 101 12 [some (.int a0)] [] (hM p σ τ) ⟨h3, ?_⟩
        show xv l Ω d 0 0 101 18 [some (.int a0)] [] (hM p σ τ) r
        by_cases h4 : a0 = 93
        · rw [if_pos h4] at H
          refine xp_ok htr 3 d 0 0 [eB false] 101 18 [some (.int a0)] [] (hM p σ τ) ⟨h4, ?_⟩
          show xv l Ω d 0 0 101 24 [some (.int a0)] [] (hM p σ τ) r
          exact xp_ok htr 3 d 0 0 [] 101 24 [some (.int a0)] [] (hM p σ τ) ⟨Or.inr rfl, (Eq.symm H)⟩
        · rw [if_neg h4] at H
          refine xp_ok htr 3 d 0 0 [eB true] 101 18 [some (.int a0)] [] (hM p σ τ) ⟨h4, ?_⟩
          show xv l Ω d 0 0 101 28 [some (.int a0)] [] (hM p σ τ) r
          exact xp_ok htr 2 d 0 0 [] 101 28 [some (.int a0)] [] (hM p σ τ) ⟨Or.inl rfl, (Eq.symm H)⟩
/- AccessDesk$Reader.skip -/
def g102 (a1 : Int32) (σ : xS) : xO := (if (σ 20 3) = a1 then (match g90 ((σ 20 2) + 1) σ with | some (Sum.inl v2, s3) => some ((Sum.inl 1, s3)) | some (Sum.inr v2, s3) => none | none => none) else some ((Sum.inl 0, σ)))
theorem g102_run {l : Launch} {Ω : xo_O} (htr : xH l) (d : Nat) (p : Nat) (τ : Nat → Nat → Int64) (a1 : Int32) (σ : xS) {q : xQ} (hq : g102 a1 σ = some q) : xv l Ω (d + 1) 0 0 102 0 (xs_loc (xm_l 102) [.ref 20, .int a1]) [] (hM p σ τ) (xq_R false p τ q) := by
  have H : xo (xB false p τ (xq_R false p τ q)) (g102 a1 σ) := by rw [hq]; exact rfl
  generalize xq_R false p τ q = r at H ⊢
  show xv l Ω (d + 1) 0 0 102 0 [some (.ref 20), some (.int a1)] [] (hM p σ τ) r
  unfold g102 at H
  by_cases h1 : (σ 20 3) = a1
  · rw [if_pos h1] at H
    refine xp_ok htr 4 (d + 1) 0 0 [eB true] 102 0 [some (.ref 20), some (.int a1)] [] (hM p σ τ) ⟨h1, ?_⟩
    show xv l Ω (d + 1) 0 0 102 10 [some (.ref 20), some (.int a1)] [] (hM p σ τ) r
    cases q4 : g90 ((σ 20 2) + 1) σ with
    | none => rw [q4] at H; exact False.elim H
    | some q40 =>
      obtain ⟨v2 | v2, s3⟩ := q40
      · rw [q4] at H; dsimp only at H
        have hc := g90_run (Ω := Ω) htr d p τ ((σ 20 2) + 1) σ q4
        refine xp_ok htr 6 (d + 1) 0 0 [eC none (hM p s3 τ)] 102 10 [some (.ref 20), some (.int a1)] [] (hM p σ τ) ⟨hc, ?_⟩
        show xv l Ω (d + 1) 0 0 102 20 [some (.ref 20), some (.int a1)] [] (hM p s3 τ) r
        exact xp_ok htr 2 (d + 1) 0 0 [] 102 20 [some (.ref 20), some (.int a1)] [] (hM p s3 τ) ⟨Or.inr rfl, (Eq.symm H)⟩
      · rw [q4] at H; exact False.elim H
  · rw [if_neg h1] at H
    refine xp_ok htr 4 (d + 1) 0 0 [eB false] 102 0 [some (.ref 20), some (.int a1)] [] (hM p σ τ) ⟨h1, ?_⟩
    show xv l Ω (d + 1) 0 0 102 8 [some (.ref 20), some (.int a1)] [] (hM p σ τ) r
    exact xp_ok htr 2 (d + 1) 0 0 [] 102 8 [some (.ref 20), some (.int a1)] [] (hM p σ τ) ⟨Or.inl rfl, (Eq.symm H)⟩
/- AccessDesk$Reader.readTarget -/
def g95_91 (p : Nat) (x1 : Int32) (σ : xS) : Option xQ := (bif xn x1 40 then some ((Sum.inl 1, (xh_ui σ (p + 6) (Int32.toNatClampNeg x1) (σ p 11)))) else none)
def g95_84 (p : Nat) (x1 : Int32) (x3 : Int32) (k0 : Int32) (σ : xS) : Option ((Int32 × Int32 × Int32 × xS) ⊕ xQ) := some (Sum.inl (x1, k0, (x3 + 1), σ))
def g95_17b (p : Nat) (x1 : Int32) (x2 : Int32) (x3 : Int32) (σ : xS) : Option ((Int32 × Int32 × Int32 × xS) ⊕ xQ) := (if 300 ≤ x3 then Option.map Sum.inr (g95_91 p x1 σ) else (if x2 = 0 then Option.map Sum.inr (g95_91 p x1 σ) else (match g90 ((σ 20 2) + 1) σ with | some (Sum.inl v5, s6) => (match g96 p s6 with | some (Sum.inl v8, s9) => (if v8 = 0 then some (Sum.inr ((Sum.inl 0, s9))) else (match g101 (s9 20 3) s9 with | some (Sum.inl v12, s13) => (if v12 = 0 then some (Sum.inr ((Sum.inl 0, s13))) else (match g100 p (s13 20 3) 0 0 s13 with | some (Sum.inl v16, s17) => (match g102 93 s17 with | some (Sum.inl v19, s20) => (if v19 = 0 then g95_84 p x1 x3 1 s20 else g95_84 p x1 x3 0 s20) | some (Sum.inr v19, s20) => none | none => none) | some (Sum.inr v16, s17) => none | none => none)) | some (Sum.inr v12, s13) => none | none => none)) | some (Sum.inr v8, s9) => none | none => none) | some (Sum.inr v5, s6) => none | none => none)))
def g95_17 (p : Nat) (x1 : Int32) (x2 : Int32) (x3 : Int32) (σ : xS) : Option xQ := xlo (fun a : Int32 × Int32 × Int32 × xS => g95_17b p a.1 a.2.1 a.2.2.1 a.2.2.2) 1000 (x1, x2, x3, σ)
def g95_14 (p : Nat) (x1 : Int32) (k0 : Int32) (σ : xS) : Option xQ := g95_17 p x1 k0 0 σ
def g95 (p : Nat) (a1 : Int32) (σ : xS) : xO := (if (σ 20 3) = 91 then g95_14 p a1 1 σ else g95_14 p a1 0 σ)
def a95_17 (l : Launch) (Ω : xo_O) (d p : Nat) (τ : Nat → Nat → Int64) (r : xv_R) : Int32 × Int32 × Int32 × xS → Prop := fun a => xv l Ω (d + 3) 0 0 95 17 [some (.ref 20), some (.int a.1), some (.int a.2.1), some (.int a.2.2.1)] [] (hM p a.2.2.2 τ) r
theorem g95_91_ok_23 {l : Launch} {Ω : xo_O} (htr : xH l) (d : Nat) (τ : Nat → Nat → Int64) (x1 : Int32) (σ : xS) (r : xv_R) (H : xo (xB false 23 τ r) (g95_91 23 x1 σ)) : xv l Ω (d + 3) 0 0 95 91 [some (.ref 20), some (.int x1), none, none] [] (hM 23 σ τ) r := by
  unfold g95_91 at H
  cases g3 : xn x1 40 with
  | false => rw [g3, cond_false] at H; exact False.elim H
  | true =>
    rw [g3, cond_true] at H
    refine xp_ok htr 8 (d + 3) 0 0 [] 95 91 [some (.ref 20), some (.int x1), none, none] [] (hM 23 σ τ) ⟨(xn_in g3), ?_⟩
    show xv l Ω (d + 3) 0 0 95 107 [some (.ref 20), some (.int x1), none, none] [] (hM 23 (xh_ui σ (23 + 6) (Int32.toNatClampNeg x1) (σ 23 11)) τ) r
    exact xp_ok htr 2 (d + 3) 0 0 [] 95 107 [some (.ref 20), some (.int x1), none, none] [] (hM 23 (xh_ui σ (23 + 6) (Int32.toNatClampNeg x1) (σ 23 11)) τ) ⟨Or.inr rfl, (Eq.symm H)⟩
theorem g95_84_ok_23 {l : Launch} {Ω : xo_O} (htr : xH l) (d : Nat) (τ : Nat → Nat → Int64) (x1 : Int32) (x3 : Int32) (k0 : Int32) (σ : xS) (r : xv_R) (H : xo (xd (a95_17 l Ω d 23 τ r) (xB false 23 τ r)) (g95_84 23 x1 x3 k0 σ)) : xv l Ω (d + 3) 0 0 95 84 [some (.ref 20), some (.int x1), none, some (.int x3)] [.int k0] (hM 23 σ τ) r := by
  unfold g95_84 at H
  refine xp_ok htr 3 (d + 3) 0 0 [] 95 84 [some (.ref 20), some (.int x1), none, some (.int x3)] [.int k0] (hM 23 σ τ) ?_
  exact xv_sub (L' := [some (.ref 20), some (.int x1), some (.int k0), some (.int (x3 + 1))]) ⟨rfl, ⟨rfl, ⟨rfl, ⟨rfl, trivial⟩⟩⟩⟩ H
theorem g95_17b_ok_23 {l : Launch} {Ω : xo_O} (htr : xH l) (d : Nat) (τ : Nat → Nat → Int64) (x1 : Int32) (x2 : Int32) (x3 : Int32) (σ : xS) (r : xv_R) (H : xo (xd (a95_17 l Ω d 23 τ r) (xB false 23 τ r)) (g95_17b 23 x1 x2 x3 σ)) : xv l Ω (d + 3) 0 0 95 17 [some (.ref 20), some (.int x1), some (.int x2), some (.int x3)] [] (hM 23 σ τ) r := by
  unfold g95_17b at H
  by_cases h2 : 300 ≤ x3
  · rw [if_pos h2] at H
    refine xp_ok htr 3 (d + 3) 0 0 [eB true] 95 17 [some (.ref 20), some (.int x1), some (.int x2), some (.int x3)] [] (hM 23 σ τ) ⟨h2, ?_⟩
    show xv l Ω (d + 3) 0 0 95 91 [some (.ref 20), some (.int x1), some (.int x2), some (.int x3)] [] (hM 23 σ τ) r
    exact xv_sub (L' := [some (.ref 20), some (.int x1), none, none]) ⟨rfl, ⟨rfl, trivial⟩⟩ (g95_91_ok_23 htr d  τ x1 σ r (xo_map H))
  · rw [if_neg h2] at H
    refine xp_ok htr 3 (d + 3) 0 0 [eB false] 95 17 [some (.ref 20), some (.int x1), some (.int x2), some (.int x3)] [] (hM 23 σ τ) ⟨h2, ?_⟩
    show xv l Ω (d + 3) 0 0 95 24 [some (.ref 20), some (.int x1), some (.int x2), some (.int x3)] [] (hM 23 σ τ) r
    by_cases h4 : x2 = 0
    · rw [if_pos h4] at H
      refine xp_ok htr 2 (d + 3) 0 0 [eB true] 95 24 [some (.ref 20), some (.int x1), some (.int x2), some (.int x3)] [] (hM 23 σ τ) ⟨h4, ?_⟩
      show xv l Ω (d + 3) 0 0 95 91 [some (.ref 20), some (.int x1), some (.int x2), some (.int x3)] [] (hM 23 σ τ) r
      exact xv_sub (L' := [some (.ref 20), some (.int x1), none, none]) ⟨rfl, ⟨rfl, trivial⟩⟩ (g95_91_ok_23 htr d  τ x1 σ r (xo_map H))
    · rw [if_neg h4] at H
      refine xp_ok htr 2 (d + 3) 0 0 [eB false] 95 24 [some (.ref 20), some (.int x1), some (.int x2), some (.int x3)] [] (hM 23 σ τ) ⟨h4, ?_⟩
      show xv l Ω (d + 3) 0 0 95 28 [some (.ref 20), some (.int x1), some (.int x2), some (.int x3)] [] (hM 23 σ τ) r
      cases q7 : g90 ((σ 20 2) + 1) σ with
      | none => rw [q7] at H; exact False.elim H
      | some q70 =>
        obtain ⟨v5 | v5, s6⟩ := q70
        · rw [q7] at H; dsimp only at H
          have hc := g90_run (Ω := Ω) htr (d + 2) 23 τ ((σ 20 2) + 1) σ q7
          refine xp_ok htr 6 (d + 3) 0 0 [eC none (hM 23 s6 τ)] 95 28 [some (.ref 20), some (.int x1), some (.int x2), some (.int x3)] [] (hM 23 σ τ) ⟨hc, ?_⟩
          show xv l Ω (d + 3) 0 0 95 38 [some (.ref 20), some (.int x1), some (.int x2), some (.int x3)] [] (hM 23 s6 τ) r
          cases q10 : g96 23 s6 with
          | none => rw [q10] at H; exact False.elim H
          | some q100 =>
            obtain ⟨v8 | v8, s9⟩ := q100
            · rw [q10] at H; dsimp only at H
              have hc := g96_run_23 (Ω := Ω) htr d  τ  s6 q10
              refine xp_ok htr 2 (d + 3) 0 0 [eC (some (.int v8)) (hM 23 s9 τ)] 95 38 [some (.ref 20), some (.int x1), some (.int x2), some (.int x3)] [] (hM 23 s6 τ) ⟨hc, ?_⟩
              show xv l Ω (d + 3) 0 0 95 42 [some (.ref 20), some (.int x1), some (.int x2), some (.int x3)] [.int v8] (hM 23 s9 τ) r
              by_cases h11 : v8 = 0
              · rw [if_pos h11] at H
                refine xp_ok htr 1 (d + 3) 0 0 [eB true] 95 42 [some (.ref 20), some (.int x1), some (.int x2), some (.int x3)] [.int v8] (hM 23 s9 τ) ⟨h11, ?_⟩
                show xv l Ω (d + 3) 0 0 95 55 [some (.ref 20), some (.int x1), some (.int x2), some (.int x3)] [] (hM 23 s9 τ) r
                exact xp_ok htr 2 (d + 3) 0 0 [] 95 55 [some (.ref 20), some (.int x1), some (.int x2), some (.int x3)] [] (hM 23 s9 τ) ⟨Or.inl rfl, (Eq.symm H)⟩
              · rw [if_neg h11] at H
                refine xp_ok htr 1 (d + 3) 0 0 [eB false] 95 42 [some (.ref 20), some (.int x1), some (.int x2), some (.int x3)] [.int v8] (hM 23 s9 τ) ⟨h11, ?_⟩
                show xv l Ω (d + 3) 0 0 95 45 [some (.ref 20), some (.int x1), some (.int x2), some (.int x3)] [] (hM 23 s9 τ) r
                cases q14 : g101 (s9 20 3) s9 with
                | none => rw [q14] at H; exact False.elim H
                | some q140 =>
                  obtain ⟨v12 | v12, s13⟩ := q140
                  · rw [q14] at H; dsimp only at H
                    have hc := g101_run (Ω := Ω) htr (d + 2) 23 τ (s9 20 3) s9 q14
                    refine xp_ok htr 3 (d + 3) 0 0 [eC (some (.int v12)) (hM 23 s13 τ)] 95 45 [some (.ref 20), some (.int x1), some (.int x2), some (.int x3)] [] (hM 23 s9 τ) ⟨hc, ?_⟩
                    show xv l Ω (d + 3) 0 0 95 52 [some (.ref 20), some (.int x1), some (.int x2), some (.int x3)] [.int v12] (hM 23 s13 τ) r
                    by_cases h15 : v12 = 0
                    · rw [if_pos h15] at H
                      refine xp_ok htr 1 (d + 3) 0 0 [eB false] 95 52 [some (.ref 20), some (.int x1), some (.int x2), some (.int x3)] [.int v12] (hM 23 s13 τ) ⟨h15, ?_⟩
                      show xv l Ω (d + 3) 0 0 95 55 [some (.ref 20), some (.int x1), some (.int x2), some (.int x3)] [] (hM 23 s13 τ) r
                      exact xp_ok htr 2 (d + 3) 0 0 [] 95 55 [some (.ref 20), some (.int x1), some (.int x2), some (.int x3)] [] (hM 23 s13 τ) ⟨Or.inl rfl, (Eq.symm H)⟩
                    · rw [if_neg h15] at H
                      refine xp_ok htr 1 (d + 3) 0 0 [eB true] 95 52 [some (.ref 20), some (.int x1), some (.int x2), some (.int x3)] [.int v12] (hM 23 s13 τ) ⟨h15, ?_⟩
                      show xv l Ω (d + 3) 0 0 95 57 [some (.ref 20), some (.int x1), some (.int x2), some (.int x3)] [] (hM 23 s13 τ) r
                      cases q18 : g100 23 (s13 20 3) 0 0 s13 with
                      | none => rw [q18] at H; exact False.elim H
                      | some q180 =>
                        obtain ⟨v16 | v16, s17⟩ := q180
                        · rw [q18] at H; dsimp only at H
                          have hc := g100_run_23 (Ω := Ω) htr (d + 2) 23 τ (s13 20 3) 0 0 s13 q18
                          refine xp_ok htr 7 (d + 3) 0 0 [eC none (hM 23 s17 τ)] 95 57 [some (.ref 20), some (.int x1), some (.int x2), some (.int x3)] [] (hM 23 s13 τ) ⟨hc, ?_⟩
                          show xv l Ω (d + 3) 0 0 95 70 [some (.ref 20), some (.int x1), some (.int x2), some (.int x3)] [] (hM 23 s17 τ) r
                          cases q21 : g102 93 s17 with
                          | none => rw [q21] at H; exact False.elim H
                          | some q210 =>
                            obtain ⟨v19 | v19, s20⟩ := q210
                            · rw [q21] at H; dsimp only at H
                              have hc := g102_run (Ω := Ω) htr (d + 1) 23 τ 93 s17 q21
                              refine xp_ok htr 3 (d + 3) 0 0 [eC (some (.int v19)) (hM 23 s20 τ)] 95 70 [some (.ref 20), some (.int x1), some (.int x2), some (.int x3)] [] (hM 23 s17 τ) ⟨hc, ?_⟩
                              show xv l Ω (d + 3) 0 0 95 76 [some (.ref 20), some (.int x1), some (.int x2), some (.int x3)] [.int v19] (hM 23 s20 τ) r
                              by_cases h22 : v19 = 0
                              · rw [if_pos h22] at H
                                refine xp_ok htr 1 (d + 3) 0 0 [eB false] 95 76 [some (.ref 20), some (.int x1), some (.int x2), some (.int x3)] [.int v19] (hM 23 s20 τ) ⟨h22, ?_⟩
                                show xv l Ω (d + 3) 0 0 95 79 [some (.ref 20), some (.int x1), some (.int x2), some (.int x3)] [] (hM 23 s20 τ) r
                                refine xp_ok htr 2 (d + 3) 0 0 [] 95 79 [some (.ref 20), some (.int x1), some (.int x2), some (.int x3)] [] (hM 23 s20 τ) ?_
                                exact xv_sub (L' := [some (.ref 20), some (.int x1), none, some (.int x3)]) ⟨rfl, ⟨rfl, ⟨rfl, trivial⟩⟩⟩ (g95_84_ok_23 htr d  τ x1 x3 1 s20 r H)
                              · rw [if_neg h22] at H
                                refine xp_ok htr 1 (d + 3) 0 0 [eB true] 95 76 [some (.ref 20), some (.int x1), some (.int x2), some (.int x3)] [.int v19] (hM 23 s20 τ) ⟨h22, ?_⟩
                                show xv l Ω (d + 3) 0 0 95 83 [some (.ref 20), some (.int x1), some (.int x2), some (.int x3)] [] (hM 23 s20 τ) r
                                refine xp_ok htr 1 (d + 3) 0 0 [] 95 83 [some (.ref 20), some (.int x1), some (.int x2), some (.int x3)] [] (hM 23 s20 τ) ?_
                                exact xv_sub (L' := [some (.ref 20), some (.int x1), none, some (.int x3)]) ⟨rfl, ⟨rfl, ⟨rfl, trivial⟩⟩⟩ (g95_84_ok_23 htr d  τ x1 x3 0 s20 r H)
                            · rw [q21] at H; exact False.elim H
                        · rw [q18] at H; exact False.elim H
                  · rw [q14] at H; exact False.elim H
            · rw [q10] at H; exact False.elim H
        · rw [q7] at H; exact False.elim H
theorem g95_17_ok_23 {l : Launch} {Ω : xo_O} (htr : xH l) (d : Nat) (τ : Nat → Nat → Int64) (x1 : Int32) (x2 : Int32) (x3 : Int32) (σ : xS) (r : xv_R) (H : xo (xB false 23 τ r) (g95_17 23 x1 x2 x3 σ)) : xv l Ω (d + 3) 0 0 95 17 [some (.ref 20), some (.int x1), some (.int x2), some (.int x3)] [] (hM 23 σ τ) r :=
  xlo_ok (A := a95_17 l Ω d 23 τ r) (fun a H => g95_17b_ok_23 htr d  τ a.1 a.2.1 a.2.2.1 a.2.2.2 r H) 1000 (x1, x2, x3, σ) H
theorem g95_14_ok_23 {l : Launch} {Ω : xo_O} (htr : xH l) (d : Nat) (τ : Nat → Nat → Int64) (x1 : Int32) (k0 : Int32) (σ : xS) (r : xv_R) (H : xo (xB false 23 τ r) (g95_14 23 x1 k0 σ)) : xv l Ω (d + 3) 0 0 95 14 [some (.ref 20), some (.int x1), none, none] [.int k0] (hM 23 σ τ) r := by
  unfold g95_14 at H
  refine xp_ok htr 3 (d + 3) 0 0 [] 95 14 [some (.ref 20), some (.int x1), none, none] [.int k0] (hM 23 σ τ) ?_
  exact xv_sub (L' := [some (.ref 20), some (.int x1), some (.int k0), some (.int 0)]) ⟨rfl, ⟨rfl, ⟨rfl, ⟨rfl, trivial⟩⟩⟩⟩ (g95_17_ok_23 htr d  τ x1 k0 0 σ r H)
theorem g95_run_23 {l : Launch} {Ω : xo_O} (htr : xH l) (d : Nat) (τ : Nat → Nat → Int64) (a1 : Int32) (σ : xS) {q : xQ} (hq : g95 23 a1 σ = some q) : xv l Ω (d + 3) 0 0 95 0 (xs_loc (xm_l 95) [.ref 20, .int a1]) [] (hM 23 σ τ) (xq_R false 23 τ q) := by
  have H : xo (xB false 23 τ (xq_R false 23 τ q)) (g95 23 a1 σ) := by rw [hq]; exact rfl
  generalize xq_R false 23 τ q = r at H ⊢
  show xv l Ω (d + 3) 0 0 95 0 [some (.ref 20), some (.int a1), none, none] [] (hM 23 σ τ) r
  unfold g95 at H
  by_cases h1 : (σ 20 3) = 91
  · rw [if_pos h1] at H
    refine xp_ok htr 4 (d + 3) 0 0 [eB false] 95 0 [some (.ref 20), some (.int a1), none, none] [] (hM 23 σ τ) ⟨h1, ?_⟩
    show xv l Ω (d + 3) 0 0 95 9 [some (.ref 20), some (.int a1), none, none] [] (hM 23 σ τ) r
    refine xp_ok htr 2 (d + 3) 0 0 [] 95 9 [some (.ref 20), some (.int a1), none, none] [] (hM 23 σ τ) ?_
    exact xv_sub (L' := [some (.ref 20), some (.int a1), none, none]) ⟨rfl, ⟨rfl, trivial⟩⟩ (g95_14_ok_23 htr d  τ a1 1 σ r H)
  · rw [if_neg h1] at H
    refine xp_ok htr 4 (d + 3) 0 0 [eB true] 95 0 [some (.ref 20), some (.int a1), none, none] [] (hM 23 σ τ) ⟨h1, ?_⟩
    show xv l Ω (d + 3) 0 0 95 13 [some (.ref 20), some (.int a1), none, none] [] (hM 23 σ τ) r
    refine xp_ok htr 1 (d + 3) 0 0 [] 95 13 [some (.ref 20), some (.int a1), none, none] [] (hM 23 σ τ) ?_
    exact xv_sub (L' := [some (.ref 20), some (.int a1), none, none]) ⟨rfl, ⟨rfl, trivial⟩⟩ (g95_14_ok_23 htr d  τ a1 0 σ r H)
theorem g95_91_ok_36 {l : Launch} {Ω : xo_O} (htr : xH l) (d : Nat) (τ : Nat → Nat → Int64) (x1 : Int32) (σ : xS) (r : xv_R) (H : xo (xB false 36 τ r) (g95_91 36 x1 σ)) : xv l Ω (d + 3) 0 0 95 91 [some (.ref 20), some (.int x1), none, none] [] (hM 36 σ τ) r := by
  unfold g95_91 at H
  cases g3 : xn x1 40 with
  | false => rw [g3, cond_false] at H; exact False.elim H
  | true =>
    rw [g3, cond_true] at H
    refine xp_ok htr 8 (d + 3) 0 0 [] 95 91 [some (.ref 20), some (.int x1), none, none] [] (hM 36 σ τ) ⟨(xn_in g3), ?_⟩
    show xv l Ω (d + 3) 0 0 95 107 [some (.ref 20), some (.int x1), none, none] [] (hM 36 (xh_ui σ (36 + 6) (Int32.toNatClampNeg x1) (σ 36 11)) τ) r
    exact xp_ok htr 2 (d + 3) 0 0 [] 95 107 [some (.ref 20), some (.int x1), none, none] [] (hM 36 (xh_ui σ (36 + 6) (Int32.toNatClampNeg x1) (σ 36 11)) τ) ⟨Or.inr rfl, (Eq.symm H)⟩
theorem g95_84_ok_36 {l : Launch} {Ω : xo_O} (htr : xH l) (d : Nat) (τ : Nat → Nat → Int64) (x1 : Int32) (x3 : Int32) (k0 : Int32) (σ : xS) (r : xv_R) (H : xo (xd (a95_17 l Ω d 36 τ r) (xB false 36 τ r)) (g95_84 36 x1 x3 k0 σ)) : xv l Ω (d + 3) 0 0 95 84 [some (.ref 20), some (.int x1), none, some (.int x3)] [.int k0] (hM 36 σ τ) r := by
  unfold g95_84 at H
  refine xp_ok htr 3 (d + 3) 0 0 [] 95 84 [some (.ref 20), some (.int x1), none, some (.int x3)] [.int k0] (hM 36 σ τ) ?_
  exact xv_sub (L' := [some (.ref 20), some (.int x1), some (.int k0), some (.int (x3 + 1))]) ⟨rfl, ⟨rfl, ⟨rfl, ⟨rfl, trivial⟩⟩⟩⟩ H
theorem g95_17b_ok_36 {l : Launch} {Ω : xo_O} (htr : xH l) (d : Nat) (τ : Nat → Nat → Int64) (x1 : Int32) (x2 : Int32) (x3 : Int32) (σ : xS) (r : xv_R) (H : xo (xd (a95_17 l Ω d 36 τ r) (xB false 36 τ r)) (g95_17b 36 x1 x2 x3 σ)) : xv l Ω (d + 3) 0 0 95 17 [some (.ref 20), some (.int x1), some (.int x2), some (.int x3)] [] (hM 36 σ τ) r := by
  unfold g95_17b at H
  by_cases h2 : 300 ≤ x3
  · rw [if_pos h2] at H
    refine xp_ok htr 3 (d + 3) 0 0 [eB true] 95 17 [some (.ref 20), some (.int x1), some (.int x2), some (.int x3)] [] (hM 36 σ τ) ⟨h2, ?_⟩
    show xv l Ω (d + 3) 0 0 95 91 [some (.ref 20), some (.int x1), some (.int x2), some (.int x3)] [] (hM 36 σ τ) r
    exact xv_sub (L' := [some (.ref 20), some (.int x1), none, none]) ⟨rfl, ⟨rfl, trivial⟩⟩ (g95_91_ok_36 htr d  τ x1 σ r (xo_map H))
  · rw [if_neg h2] at H
    refine xp_ok htr 3 (d + 3) 0 0 [eB false] 95 17 [some (.ref 20), some (.int x1), some (.int x2), some (.int x3)] [] (hM 36 σ τ) ⟨h2, ?_⟩
    show xv l Ω (d + 3) 0 0 95 24 [some (.ref 20), some (.int x1), some (.int x2), some (.int x3)] [] (hM 36 σ τ) r
    by_cases h4 : x2 = 0
    · rw [if_pos h4] at H
      refine xp_ok htr 2 (d + 3) 0 0 [eB true] 95 24 [some (.ref 20), some (.int x1), some (.int x2), some (.int x3)] [] (hM 36 σ τ) ⟨h4, ?_⟩
      show xv l Ω (d + 3) 0 0 95 91 [some (.ref 20), some (.int x1), some (.int x2), some (.int x3)] [] (hM 36 σ τ) r
      exact xv_sub (L' := [some (.ref 20), some (.int x1), none, none]) ⟨rfl, ⟨rfl, trivial⟩⟩ (g95_91_ok_36 htr d  τ x1 σ r (xo_map H))
    · rw [if_neg h4] at H
      refine xp_ok htr 2 (d + 3) 0 0 [eB false] 95 24 [some (.ref 20), some (.int x1), some (.int x2), some (.int x3)] [] (hM 36 σ τ) ⟨h4, ?_⟩
      show xv l Ω (d + 3) 0 0 95 28 [some (.ref 20), some (.int x1), some (.int x2), some (.int x3)] [] (hM 36 σ τ) r
      cases q7 : g90 ((σ 20 2) + 1) σ with
      | none => rw [q7] at H; exact False.elim H
      | some q70 =>
        obtain ⟨v5 | v5, s6⟩ := q70
        · rw [q7] at H; dsimp only at H
          have hc := g90_run (Ω := Ω) htr (d + 2) 36 τ ((σ 20 2) + 1) σ q7
          refine xp_ok htr 6 (d + 3) 0 0 [eC none (hM 36 s6 τ)] 95 28 [some (.ref 20), some (.int x1), some (.int x2), some (.int x3)] [] (hM 36 σ τ) ⟨hc, ?_⟩
          show xv l Ω (d + 3) 0 0 95 38 [some (.ref 20), some (.int x1), some (.int x2), some (.int x3)] [] (hM 36 s6 τ) r
          cases q10 : g96 36 s6 with
          | none => rw [q10] at H; exact False.elim H
          | some q100 =>
            obtain ⟨v8 | v8, s9⟩ := q100
            · rw [q10] at H; dsimp only at H
              have hc := g96_run_36 (Ω := Ω) htr d  τ  s6 q10
              refine xp_ok htr 2 (d + 3) 0 0 [eC (some (.int v8)) (hM 36 s9 τ)] 95 38 [some (.ref 20), some (.int x1), some (.int x2), some (.int x3)] [] (hM 36 s6 τ) ⟨hc, ?_⟩
              show xv l Ω (d + 3) 0 0 95 42 [some (.ref 20), some (.int x1), some (.int x2), some (.int x3)] [.int v8] (hM 36 s9 τ) r
              by_cases h11 : v8 = 0
              · rw [if_pos h11] at H
                refine xp_ok htr 1 (d + 3) 0 0 [eB true] 95 42 [some (.ref 20), some (.int x1), some (.int x2), some (.int x3)] [.int v8] (hM 36 s9 τ) ⟨h11, ?_⟩
                show xv l Ω (d + 3) 0 0 95 55 [some (.ref 20), some (.int x1), some (.int x2), some (.int x3)] [] (hM 36 s9 τ) r
                exact xp_ok htr 2 (d + 3) 0 0 [] 95 55 [some (.ref 20), some (.int x1), some (.int x2), some (.int x3)] [] (hM 36 s9 τ) ⟨Or.inl rfl, (Eq.symm H)⟩
              · rw [if_neg h11] at H
                refine xp_ok htr 1 (d + 3) 0 0 [eB false] 95 42 [some (.ref 20), some (.int x1), some (.int x2), some (.int x3)] [.int v8] (hM 36 s9 τ) ⟨h11, ?_⟩
                show xv l Ω (d + 3) 0 0 95 45 [some (.ref 20), some (.int x1), some (.int x2), some (.int x3)] [] (hM 36 s9 τ) r
                cases q14 : g101 (s9 20 3) s9 with
                | none => rw [q14] at H; exact False.elim H
                | some q140 =>
                  obtain ⟨v12 | v12, s13⟩ := q140
                  · rw [q14] at H; dsimp only at H
                    have hc := g101_run (Ω := Ω) htr (d + 2) 36 τ (s9 20 3) s9 q14
                    refine xp_ok htr 3 (d + 3) 0 0 [eC (some (.int v12)) (hM 36 s13 τ)] 95 45 [some (.ref 20), some (.int x1), some (.int x2), some (.int x3)] [] (hM 36 s9 τ) ⟨hc, ?_⟩
                    show xv l Ω (d + 3) 0 0 95 52 [some (.ref 20), some (.int x1), some (.int x2), some (.int x3)] [.int v12] (hM 36 s13 τ) r
                    by_cases h15 : v12 = 0
                    · rw [if_pos h15] at H
                      refine xp_ok htr 1 (d + 3) 0 0 [eB false] 95 52 [some (.ref 20), some (.int x1), some (.int x2), some (.int x3)] [.int v12] (hM 36 s13 τ) ⟨h15, ?_⟩
                      show xv l Ω (d + 3) 0 0 95 55 [some (.ref 20), some (.int x1), some (.int x2), some (.int x3)] [] (hM 36 s13 τ) r
                      exact xp_ok htr 2 (d + 3) 0 0 [] 95 55 [some (.ref 20), some (.int x1), some (.int x2), some (.int x3)] [] (hM 36 s13 τ) ⟨Or.inl rfl, (Eq.symm H)⟩
                    · rw [if_neg h15] at H
                      refine xp_ok htr 1 (d + 3) 0 0 [eB true] 95 52 [some (.ref 20), some (.int x1), some (.int x2), some (.int x3)] [.int v12] (hM 36 s13 τ) ⟨h15, ?_⟩
                      show xv l Ω (d + 3) 0 0 95 57 [some (.ref 20), some (.int x1), some (.int x2), some (.int x3)] [] (hM 36 s13 τ) r
                      cases q18 : g100 36 (s13 20 3) 0 0 s13 with
                      | none => rw [q18] at H; exact False.elim H
                      | some q180 =>
                        obtain ⟨v16 | v16, s17⟩ := q180
                        · rw [q18] at H; dsimp only at H
                          have hc := g100_run_36 (Ω := Ω) htr (d + 2) 36 τ (s13 20 3) 0 0 s13 q18
                          refine xp_ok htr 7 (d + 3) 0 0 [eC none (hM 36 s17 τ)] 95 57 [some (.ref 20), some (.int x1), some (.int x2), some (.int x3)] [] (hM 36 s13 τ) ⟨hc, ?_⟩
                          show xv l Ω (d + 3) 0 0 95 70 [some (.ref 20), some (.int x1), some (.int x2), some (.int x3)] [] (hM 36 s17 τ) r
                          cases q21 : g102 93 s17 with
                          | none => rw [q21] at H; exact False.elim H
                          | some q210 =>
                            obtain ⟨v19 | v19, s20⟩ := q210
                            · rw [q21] at H; dsimp only at H
                              have hc := g102_run (Ω := Ω) htr (d + 1) 36 τ 93 s17 q21
                              refine xp_ok htr 3 (d + 3) 0 0 [eC (some (.int v19)) (hM 36 s20 τ)] 95 70 [some (.ref 20), some (.int x1), some (.int x2), some (.int x3)] [] (hM 36 s17 τ) ⟨hc, ?_⟩
                              show xv l Ω (d + 3) 0 0 95 76 [some (.ref 20), some (.int x1), some (.int x2), some (.int x3)] [.int v19] (hM 36 s20 τ) r
                              by_cases h22 : v19 = 0
                              · rw [if_pos h22] at H
                                refine xp_ok htr 1 (d + 3) 0 0 [eB false] 95 76 [some (.ref 20), some (.int x1), some (.int x2), some (.int x3)] [.int v19] (hM 36 s20 τ) ⟨h22, ?_⟩
                                show xv l Ω (d + 3) 0 0 95 79 [some (.ref 20), some (.int x1), some (.int x2), some (.int x3)] [] (hM 36 s20 τ) r
                                refine xp_ok htr 2 (d + 3) 0 0 [] 95 79 [some (.ref 20), some (.int x1), some (.int x2), some (.int x3)] [] (hM 36 s20 τ) ?_
                                exact xv_sub (L' := [some (.ref 20), some (.int x1), none, some (.int x3)]) ⟨rfl, ⟨rfl, ⟨rfl, trivial⟩⟩⟩ (g95_84_ok_36 htr d  τ x1 x3 1 s20 r H)
                              · rw [if_neg h22] at H
                                refine xp_ok htr 1 (d + 3) 0 0 [eB true] 95 76 [some (.ref 20), some (.int x1), some (.int x2), some (.int x3)] [.int v19] (hM 36 s20 τ) ⟨h22, ?_⟩
                                show xv l Ω (d + 3) 0 0 95 83 [some (.ref 20), some (.int x1), some (.int x2), some (.int x3)] [] (hM 36 s20 τ) r
                                refine xp_ok htr 1 (d + 3) 0 0 [] 95 83 [some (.ref 20), some (.int x1), some (.int x2), some (.int x3)] [] (hM 36 s20 τ) ?_
                                exact xv_sub (L' := [some (.ref 20), some (.int x1), none, some (.int x3)]) ⟨rfl, ⟨rfl, ⟨rfl, trivial⟩⟩⟩ (g95_84_ok_36 htr d  τ x1 x3 0 s20 r H)
                            · rw [q21] at H; exact False.elim H
                        · rw [q18] at H; exact False.elim H
                  · rw [q14] at H; exact False.elim H
            · rw [q10] at H; exact False.elim H
        · rw [q7] at H; exact False.elim H
theorem g95_17_ok_36 {l : Launch} {Ω : xo_O} (htr : xH l) (d : Nat) (τ : Nat → Nat → Int64) (x1 : Int32) (x2 : Int32) (x3 : Int32) (σ : xS) (r : xv_R) (H : xo (xB false 36 τ r) (g95_17 36 x1 x2 x3 σ)) : xv l Ω (d + 3) 0 0 95 17 [some (.ref 20), some (.int x1), some (.int x2), some (.int x3)] [] (hM 36 σ τ) r :=
  xlo_ok (A := a95_17 l Ω d 36 τ r) (fun a H => g95_17b_ok_36 htr d  τ a.1 a.2.1 a.2.2.1 a.2.2.2 r H) 1000 (x1, x2, x3, σ) H
theorem g95_14_ok_36 {l : Launch} {Ω : xo_O} (htr : xH l) (d : Nat) (τ : Nat → Nat → Int64) (x1 : Int32) (k0 : Int32) (σ : xS) (r : xv_R) (H : xo (xB false 36 τ r) (g95_14 36 x1 k0 σ)) : xv l Ω (d + 3) 0 0 95 14 [some (.ref 20), some (.int x1), none, none] [.int k0] (hM 36 σ τ) r := by
  unfold g95_14 at H
  refine xp_ok htr 3 (d + 3) 0 0 [] 95 14 [some (.ref 20), some (.int x1), none, none] [.int k0] (hM 36 σ τ) ?_
  exact xv_sub (L' := [some (.ref 20), some (.int x1), some (.int k0), some (.int 0)]) ⟨rfl, ⟨rfl, ⟨rfl, ⟨rfl, trivial⟩⟩⟩⟩ (g95_17_ok_36 htr d  τ x1 k0 0 σ r H)
theorem g95_run_36 {l : Launch} {Ω : xo_O} (htr : xH l) (d : Nat) (τ : Nat → Nat → Int64) (a1 : Int32) (σ : xS) {q : xQ} (hq : g95 36 a1 σ = some q) : xv l Ω (d + 3) 0 0 95 0 (xs_loc (xm_l 95) [.ref 20, .int a1]) [] (hM 36 σ τ) (xq_R false 36 τ q) := by
  have H : xo (xB false 36 τ (xq_R false 36 τ q)) (g95 36 a1 σ) := by rw [hq]; exact rfl
  generalize xq_R false 36 τ q = r at H ⊢
  show xv l Ω (d + 3) 0 0 95 0 [some (.ref 20), some (.int a1), none, none] [] (hM 36 σ τ) r
  unfold g95 at H
  by_cases h1 : (σ 20 3) = 91
  · rw [if_pos h1] at H
    refine xp_ok htr 4 (d + 3) 0 0 [eB false] 95 0 [some (.ref 20), some (.int a1), none, none] [] (hM 36 σ τ) ⟨h1, ?_⟩
    show xv l Ω (d + 3) 0 0 95 9 [some (.ref 20), some (.int a1), none, none] [] (hM 36 σ τ) r
    refine xp_ok htr 2 (d + 3) 0 0 [] 95 9 [some (.ref 20), some (.int a1), none, none] [] (hM 36 σ τ) ?_
    exact xv_sub (L' := [some (.ref 20), some (.int a1), none, none]) ⟨rfl, ⟨rfl, trivial⟩⟩ (g95_14_ok_36 htr d  τ a1 1 σ r H)
  · rw [if_neg h1] at H
    refine xp_ok htr 4 (d + 3) 0 0 [eB true] 95 0 [some (.ref 20), some (.int a1), none, none] [] (hM 36 σ τ) ⟨h1, ?_⟩
    show xv l Ω (d + 3) 0 0 95 13 [some (.ref 20), some (.int a1), none, none] [] (hM 36 σ τ) r
    refine xp_ok htr 1 (d + 3) 0 0 [] 95 13 [some (.ref 20), some (.int a1), none, none] [] (hM 36 σ τ) ?_
    exact xv_sub (L' := [some (.ref 20), some (.int a1), none, none]) ⟨rfl, ⟨rfl, trivial⟩⟩ (g95_14_ok_36 htr d  τ a1 0 σ r H)
/- AccessDesk$Reader.readDuties -/
def g105_91  (σ : xS) : Option xQ := (if (σ 20 4) = 0 then some ((Sum.inl 0, σ)) else some ((Sum.inl 1, σ)))
def g105_17b (x2 : Int32) (σ : xS) : Option ((Int32 × xS) ⊕ xQ) := (if 8 ≤ x2 then Option.map Sum.inr (g105_91 σ) else (match g25 ((σ 20 3) - 48) 8 σ with | some (Sum.inl v7, s8) => (if v7 = 0 then Option.map Sum.inr (g105_91 s8) else (match g28 (s8 20 4) ((s8 20 3) - 48) s8 with | some (Sum.inl v11, s12) => (if v11 = 0 then (match g90 (((xh_ui s12 20 4 ((s12 20 4) ||| (1 <<< (((s12 20 3) - 48) &&& 31)))) 20 2) + 1) (xh_ui s12 20 4 ((s12 20 4) ||| (1 <<< (((s12 20 3) - 48) &&& 31)))) with | some (Sum.inl v15, s16) => some (Sum.inl ((x2 + 1), s16)) | some (Sum.inr v15, s16) => none | none => none) else some (Sum.inr ((Sum.inl 0, s12)))) | some (Sum.inr v11, s12) => none | none => none)) | some (Sum.inr v7, s8) => none | none => none))
def g105_17 (x2 : Int32) (σ : xS) : Option xQ := xlo (fun a : Int32 × xS => g105_17b a.1 a.2) 1000 (x2, σ)
def g105 (a1 : Int32) (σ : xS) : xO := (match g102 a1 (xh_ui σ 20 4 0) with | some (Sum.inl v1, s2) => (if v1 = 0 then some ((Sum.inl 1, s2)) else g105_17 0 s2) | some (Sum.inr v1, s2) => none | none => none)
def a105_17 (l : Launch) (Ω : xo_O) (d p : Nat) (τ : Nat → Nat → Int64) (r : xv_R) : Int32 × xS → Prop := fun a => xv l Ω (d + 2) 0 0 105 17 [some (.ref 20), none, some (.int a.1)] [] (hM p a.2 τ) r
theorem g105_91_ok {l : Launch} {Ω : xo_O} (htr : xH l) (d : Nat) (p : Nat) (τ : Nat → Nat → Int64)  (σ : xS) (r : xv_R) (H : xo (xB false p τ r) (g105_91 σ)) : xv l Ω (d + 2) 0 0 105 91 [some (.ref 20), none, none] [] (hM p σ τ) r := by
  unfold g105_91 at H
  by_cases h6 : (σ 20 4) = 0
  · rw [if_pos h6] at H
    refine xp_ok htr 3 (d + 2) 0 0 [eB true] 105 91 [some (.ref 20), none, none] [] (hM p σ τ) ⟨h6, ?_⟩
    show xv l Ω (d + 2) 0 0 105 102 [some (.ref 20), none, none] [] (hM p σ τ) r
    exact xp_ok htr 2 (d + 2) 0 0 [] 105 102 [some (.ref 20), none, none] [] (hM p σ τ) ⟨Or.inl rfl, (Eq.symm H)⟩
  · rw [if_neg h6] at H
    refine xp_ok htr 3 (d + 2) 0 0 [eB false] 105 91 [some (.ref 20), none, none] [] (hM p σ τ) ⟨h6, ?_⟩
    show xv l Ω (d + 2) 0 0 105 98 [some (.ref 20), none, none] [] (hM p σ τ) r
    exact xp_ok htr 3 (d + 2) 0 0 [] 105 98 [some (.ref 20), none, none] [] (hM p σ τ) ⟨Or.inr rfl, (Eq.symm H)⟩
theorem g105_17b_ok {l : Launch} {Ω : xo_O} (htr : xH l) (d : Nat) (p : Nat) (τ : Nat → Nat → Int64) (x2 : Int32) (σ : xS) (r : xv_R) (H : xo (xd (a105_17 l Ω d p τ r) (xB false p τ r)) (g105_17b x2 σ)) : xv l Ω (d + 2) 0 0 105 17 [some (.ref 20), none, some (.int x2)] [] (hM p σ τ) r := by
  unfold g105_17b at H
  by_cases h5 : 8 ≤ x2
  · rw [if_pos h5] at H
    refine xp_ok htr 3 (d + 2) 0 0 [eB true] 105 17 [some (.ref 20), none, some (.int x2)] [] (hM p σ τ) ⟨h5, ?_⟩
    show xv l Ω (d + 2) 0 0 105 91 [some (.ref 20), none, some (.int x2)] [] (hM p σ τ) r
    exact xv_sub (L' := [some (.ref 20), none, none]) ⟨rfl, trivial⟩ (g105_91_ok htr d p τ σ r (xo_map H))
  · rw [if_neg h5] at H
    refine xp_ok htr 3 (d + 2) 0 0 [eB false] 105 17 [some (.ref 20), none, some (.int x2)] [] (hM p σ τ) ⟨h5, ?_⟩
    show xv l Ω (d + 2) 0 0 105 23 [some (.ref 20), none, some (.int x2)] [] (hM p σ τ) r
    cases q9 : g25 ((σ 20 3) - 48) 8 σ with
    | none => rw [q9] at H; exact False.elim H
    | some q90 =>
      obtain ⟨v7 | v7, s8⟩ := q90
      · rw [q9] at H; dsimp only at H
        have hc := g25_run (Ω := Ω) htr (d + 1) p τ ((σ 20 3) - 48) 8 σ q9
        refine xp_ok htr 6 (d + 2) 0 0 [eC (some (.int v7)) (hM p s8 τ)] 105 23 [some (.ref 20), none, some (.int x2)] [] (hM p σ τ) ⟨hc, ?_⟩
        show xv l Ω (d + 2) 0 0 105 35 [some (.ref 20), none, some (.int x2)] [.int v7] (hM p s8 τ) r
        by_cases h10 : v7 = 0
        · rw [if_pos h10] at H
          refine xp_ok htr 1 (d + 2) 0 0 [eB true] 105 35 [some (.ref 20), none, some (.int x2)] [.int v7] (hM p s8 τ) ⟨h10, ?_⟩
          show xv l Ω (d + 2) 0 0 105 91 [some (.ref 20), none, some (.int x2)] [] (hM p s8 τ) r
          exact xv_sub (L' := [some (.ref 20), none, none]) ⟨rfl, trivial⟩ (g105_91_ok htr d p τ s8 r (xo_map H))
        · rw [if_neg h10] at H
          refine xp_ok htr 1 (d + 2) 0 0 [eB false] 105 35 [some (.ref 20), none, some (.int x2)] [.int v7] (hM p s8 τ) ⟨h10, ?_⟩
          show xv l Ω (d + 2) 0 0 105 38 [some (.ref 20), none, some (.int x2)] [] (hM p s8 τ) r
          cases q13 : g28 (s8 20 4) ((s8 20 3) - 48) s8 with
          | none => rw [q13] at H; exact False.elim H
          | some q130 =>
            obtain ⟨v11 | v11, s12⟩ := q130
            · rw [q13] at H; dsimp only at H
              have hc := g28_run (Ω := Ω) htr (d + 1) p τ (s8 20 4) ((s8 20 3) - 48) s8 q13
              refine xp_ok htr 7 (d + 2) 0 0 [eC (some (.int v11)) (hM p s12 τ)] 105 38 [some (.ref 20), none, some (.int x2)] [] (hM p s8 τ) ⟨hc, ?_⟩
              show xv l Ω (d + 2) 0 0 105 52 [some (.ref 20), none, some (.int x2)] [.int v11] (hM p s12 τ) r
              by_cases h14 : v11 = 0
              · rw [if_pos h14] at H
                refine xp_ok htr 1 (d + 2) 0 0 [eB true] 105 52 [some (.ref 20), none, some (.int x2)] [.int v11] (hM p s12 τ) ⟨h14, ?_⟩
                show xv l Ω (d + 2) 0 0 105 57 [some (.ref 20), none, some (.int x2)] [] (hM p s12 τ) r
                refine xp_ok htr 8 (d + 2) 0 0 [] 105 57 [some (.ref 20), none, some (.int x2)] [] (hM p s12 τ) ?_
                show xv l Ω (d + 2) 0 0 105 70 [some (.ref 20), none, some (.int x2)] [.int ((s12 20 3) - 48), .int 1, .int (s12 20 4), .ref 20] (hM p s12 τ) r
                refine xp_ok htr 8 (d + 2) 0 0 [] 105 70 [some (.ref 20), none, some (.int x2)] [.int ((s12 20 3) - 48), .int 1, .int (s12 20 4), .ref 20] (hM p s12 τ) ?_
                show xv l Ω (d + 2) 0 0 105 82 [some (.ref 20), none, some (.int x2)] [.int (((xh_ui s12 20 4 ((s12 20 4) ||| (1 <<< (((s12 20 3) - 48) &&& 31)))) 20 2) + 1), .ref 20] (hM p (xh_ui s12 20 4 ((s12 20 4) ||| (1 <<< (((s12 20 3) - 48) &&& 31)))) τ) r
                cases q17 : g90 (((xh_ui s12 20 4 ((s12 20 4) ||| (1 <<< (((s12 20 3) - 48) &&& 31)))) 20 2) + 1) (xh_ui s12 20 4 ((s12 20 4) ||| (1 <<< (((s12 20 3) - 48) &&& 31)))) with
                | none => rw [q17] at H; exact False.elim H
                | some q170 =>
                  obtain ⟨v15 | v15, s16⟩ := q170
                  · rw [q17] at H; dsimp only at H
                    have hc := g90_run (Ω := Ω) htr (d + 1) p τ (((xh_ui s12 20 4 ((s12 20 4) ||| (1 <<< (((s12 20 3) - 48) &&& 31)))) 20 2) + 1) (xh_ui s12 20 4 ((s12 20 4) ||| (1 <<< (((s12 20 3) - 48) &&& 31)))) q17
                    refine xp_ok htr 1 (d + 2) 0 0 [eC none (hM p s16 τ)] 105 82 [some (.ref 20), none, some (.int x2)] [.int (((xh_ui s12 20 4 ((s12 20 4) ||| (1 <<< (((s12 20 3) - 48) &&& 31)))) 20 2) + 1), .ref 20] (hM p (xh_ui s12 20 4 ((s12 20 4) ||| (1 <<< (((s12 20 3) - 48) &&& 31)))) τ) ⟨hc, ?_⟩
                    show xv l Ω (d + 2) 0 0 105 85 [some (.ref 20), none, some (.int x2)] [] (hM p s16 τ) r
                    refine xp_ok htr 2 (d + 2) 0 0 [] 105 85 [some (.ref 20), none, some (.int x2)] [] (hM p s16 τ) ?_
                    exact xv_sub (L' := [some (.ref 20), none, some (.int (x2 + 1))]) ⟨rfl, ⟨rfl, trivial⟩⟩ H
                  · rw [q17] at H; exact False.elim H
              · rw [if_neg h14] at H
                refine xp_ok htr 1 (d + 2) 0 0 [eB false] 105 52 [some (.ref 20), none, some (.int x2)] [.int v11] (hM p s12 τ) ⟨h14, ?_⟩
                show xv l Ω (d + 2) 0 0 105 55 [some (.ref 20), none, some (.int x2)] [] (hM p s12 τ) r
                exact xp_ok htr 2 (d + 2) 0 0 [] 105 55 [some (.ref 20), none, some (.int x2)] [] (hM p s12 τ) ⟨Or.inl rfl, (Eq.symm H)⟩
            · rw [q13] at H; exact False.elim H
      · rw [q9] at H; exact False.elim H
theorem g105_17_ok {l : Launch} {Ω : xo_O} (htr : xH l) (d : Nat) (p : Nat) (τ : Nat → Nat → Int64) (x2 : Int32) (σ : xS) (r : xv_R) (H : xo (xB false p τ r) (g105_17 x2 σ)) : xv l Ω (d + 2) 0 0 105 17 [some (.ref 20), none, some (.int x2)] [] (hM p σ τ) r :=
  xlo_ok (A := a105_17 l Ω d p τ r) (fun a H => g105_17b_ok htr d p τ a.1 a.2 r H) 1000 (x2, σ) H
theorem g105_run {l : Launch} {Ω : xo_O} (htr : xH l) (d : Nat) (p : Nat) (τ : Nat → Nat → Int64) (a1 : Int32) (σ : xS) {q : xQ} (hq : g105 a1 σ = some q) : xv l Ω (d + 2) 0 0 105 0 (xs_loc (xm_l 105) [.ref 20, .int a1]) [] (hM p σ τ) (xq_R false p τ q) := by
  have H : xo (xB false p τ (xq_R false p τ q)) (g105 a1 σ) := by rw [hq]; exact rfl
  generalize xq_R false p τ q = r at H ⊢
  show xv l Ω (d + 2) 0 0 105 0 [some (.ref 20), some (.int a1), none] [] (hM p σ τ) r
  unfold g105 at H
  cases q3 : g102 a1 (xh_ui σ 20 4 0) with
  | none => rw [q3] at H; exact False.elim H
  | some q30 =>
    obtain ⟨v1 | v1, s2⟩ := q30
    · rw [q3] at H; dsimp only at H
      have hc := g102_run (Ω := Ω) htr d p τ a1 (xh_ui σ 20 4 0) q3
      refine xp_ok htr 6 (d + 2) 0 0 [eC (some (.int v1)) (hM p s2 τ)] 105 0 [some (.ref 20), some (.int a1), none] [] (hM p σ τ) ⟨hc, ?_⟩
      show xv l Ω (d + 2) 0 0 105 10 [some (.ref 20), some (.int a1), none] [.int v1] (hM p s2 τ) r
      by_cases h4 : v1 = 0
      · rw [if_pos h4] at H
        refine xp_ok htr 1 (d + 2) 0 0 [eB false] 105 10 [some (.ref 20), some (.int a1), none] [.int v1] (hM p s2 τ) ⟨h4, ?_⟩
        show xv l Ω (d + 2) 0 0 105 13 [some (.ref 20), some (.int a1), none] [] (hM p s2 τ) r
        exact xp_ok htr 2 (d + 2) 0 0 [] 105 13 [some (.ref 20), some (.int a1), none] [] (hM p s2 τ) ⟨Or.inr rfl, (Eq.symm H)⟩
      · rw [if_neg h4] at H
        refine xp_ok htr 1 (d + 2) 0 0 [eB true] 105 10 [some (.ref 20), some (.int a1), none] [.int v1] (hM p s2 τ) ⟨h4, ?_⟩
        show xv l Ω (d + 2) 0 0 105 15 [some (.ref 20), some (.int a1), none] [] (hM p s2 τ) r
        refine xp_ok htr 2 (d + 2) 0 0 [] 105 15 [some (.ref 20), some (.int a1), none] [] (hM p s2 τ) ?_
        exact xv_sub (L' := [some (.ref 20), none, some (.int 0)]) ⟨rfl, ⟨rfl, trivial⟩⟩ (g105_17_ok htr d p τ 0 s2 r H)
    · rw [q3] at H; exact False.elim H
/- AccessDesk$Reader.isCombining -/
def g106 (a0 : Int32) (σ : xS) : xO := (if a0 = 68 then some ((Sum.inl 1, σ)) else (if a0 = 70 then some ((Sum.inl 1, σ)) else (if a0 = 79 then some ((Sum.inl 1, σ)) else (if a0 = 80 then some ((Sum.inl 1, σ)) else (if a0 = 88 then some ((Sum.inl 1, σ)) else (if a0 = 89 then some ((Sum.inl 1, σ)) else some ((Sum.inl 0, σ))))))))
theorem g106_run {l : Launch} {Ω : xo_O} (htr : xH l) (d : Nat) (p : Nat) (τ : Nat → Nat → Int64) (a0 : Int32) (σ : xS) {q : xQ} (hq : g106 a0 σ = some q) : xv l Ω d 0 0 106 0 (xs_loc (xm_l 106) [.int a0]) [] (hM p σ τ) (xq_R false p τ q) := by
  have H : xo (xB false p τ (xq_R false p τ q)) (g106 a0 σ) := by rw [hq]; exact rfl
  generalize xq_R false p τ q = r at H ⊢
  show xv l Ω d 0 0 106 0 [some (.int a0)] [] (hM p σ τ) r
  unfold g106 at H
  by_cases h1_0 : a0 = 68
  · rw [if_pos h1_0] at H
    refine xp_ok htr 2 d 0 0 [eS (some 68)] 106 0 [some (.int a0)] [] (hM p σ τ) ⟨h1_0, ?_⟩
    show xv l Ω d 0 0 106 60 [some (.int a0)] [] (hM p σ τ) r
    exact xp_ok htr 2 d 0 0 [] 106 60 [some (.int a0)] [] (hM p σ τ) ⟨Or.inr rfl, (Eq.symm H)⟩
  rw [if_neg h1_0] at H
  by_cases h1_1 : a0 = 70
  · rw [if_pos h1_1] at H
    refine xp_ok htr 2 d 0 0 [eS (some 70)] 106 0 [some (.int a0)] [] (hM p σ τ) ⟨h1_1, ?_⟩
    show xv l Ω d 0 0 106 60 [some (.int a0)] [] (hM p σ τ) r
    exact xp_ok htr 2 d 0 0 [] 106 60 [some (.int a0)] [] (hM p σ τ) ⟨Or.inr rfl, (Eq.symm H)⟩
  rw [if_neg h1_1] at H
  by_cases h1_2 : a0 = 79
  · rw [if_pos h1_2] at H
    refine xp_ok htr 2 d 0 0 [eS (some 79)] 106 0 [some (.int a0)] [] (hM p σ τ) ⟨h1_2, ?_⟩
    show xv l Ω d 0 0 106 60 [some (.int a0)] [] (hM p σ τ) r
    exact xp_ok htr 2 d 0 0 [] 106 60 [some (.int a0)] [] (hM p σ τ) ⟨Or.inr rfl, (Eq.symm H)⟩
  rw [if_neg h1_2] at H
  by_cases h1_3 : a0 = 80
  · rw [if_pos h1_3] at H
    refine xp_ok htr 2 d 0 0 [eS (some 80)] 106 0 [some (.int a0)] [] (hM p σ τ) ⟨h1_3, ?_⟩
    show xv l Ω d 0 0 106 60 [some (.int a0)] [] (hM p σ τ) r
    exact xp_ok htr 2 d 0 0 [] 106 60 [some (.int a0)] [] (hM p σ τ) ⟨Or.inr rfl, (Eq.symm H)⟩
  rw [if_neg h1_3] at H
  by_cases h1_4 : a0 = 88
  · rw [if_pos h1_4] at H
    refine xp_ok htr 2 d 0 0 [eS (some 88)] 106 0 [some (.int a0)] [] (hM p σ τ) ⟨h1_4, ?_⟩
    show xv l Ω d 0 0 106 60 [some (.int a0)] [] (hM p σ τ) r
    exact xp_ok htr 2 d 0 0 [] 106 60 [some (.int a0)] [] (hM p σ τ) ⟨Or.inr rfl, (Eq.symm H)⟩
  rw [if_neg h1_4] at H
  by_cases h1_5 : a0 = 89
  · rw [if_pos h1_5] at H
    refine xp_ok htr 2 d 0 0 [eS (some 89)] 106 0 [some (.int a0)] [] (hM p σ τ) ⟨h1_5, ?_⟩
    show xv l Ω d 0 0 106 60 [some (.int a0)] [] (hM p σ τ) r
    exact xp_ok htr 2 d 0 0 [] 106 60 [some (.int a0)] [] (hM p σ τ) ⟨Or.inr rfl, (Eq.symm H)⟩
  rw [if_neg h1_5] at H
  refine xp_ok htr 2 d 0 0 [eS none] 106 0 [some (.int a0)] [] (hM p σ τ) ⟨⟨h1_0, h1_1, h1_2, h1_3, h1_4, h1_5, trivial⟩, ?_⟩
  show xv l Ω d 0 0 106 62 [some (.int a0)] [] (hM p σ τ) r
  exact xp_ok htr 2 d 0 0 [] 106 62 [some (.int a0)] [] (hM p σ τ) ⟨Or.inl rfl, (Eq.symm H)⟩
/- AccessDesk$Tape.clear -/
def g109  (σ : xS) : xO := some ((Sum.inl 0, (xh_ui σ 21 1 0)))
theorem g109_run {l : Launch} {Ω : xo_O} (htr : xH l) (d : Nat) (p : Nat) (τ : Nat → Nat → Int64)  (σ : xS) {q : xQ} (hq : g109  σ = some q) : xv l Ω d 0 0 109 0 (xs_loc (xm_l 109) [.ref 21]) [] (hM p σ τ) (xq_R true p τ q) := by
  have H : xo (xB true p τ (xq_R true p τ q)) (g109  σ) := by rw [hq]; exact rfl
  generalize xq_R true p τ q = r at H ⊢
  show xv l Ω d 0 0 109 0 [some (.ref 21)] [] (hM p σ τ) r
  unfold g109 at H
  exact xp_ok htr 4 d 0 0 [] 109 0 [some (.ref 21)] [] (hM p σ τ) ⟨trivial, (Eq.symm H)⟩
/- AccessDesk$Facts.setRequest -/
def g114 (a1 : Int32) (a2 : Int32) (σ : xS) : xO := some ((Sum.inl 0, (xh_ui (xh_ui σ 35 0 a1) 35 1 a2)))
theorem g114_run {l : Launch} {Ω : xo_O} (htr : xH l) (d : Nat) (p : Nat) (τ : Nat → Nat → Int64) (a1 : Int32) (a2 : Int32) (σ : xS) {q : xQ} (hq : g114 a1 a2 σ = some q) : xv l Ω d 0 0 114 0 (xs_loc (xm_l 114) [.ref 35, .int a1, .int a2]) [] (hM p σ τ) (xq_R true p τ q) := by
  have H : xo (xB true p τ (xq_R true p τ q)) (g114 a1 a2 σ) := by rw [hq]; exact rfl
  generalize xq_R true p τ q = r at H ⊢
  show xv l Ω d 0 0 114 0 [some (.ref 35), some (.int a1), some (.int a2)] [] (hM p σ τ) r
  unfold g114 at H
  exact xp_ok htr 7 d 0 0 [] 114 0 [some (.ref 35), some (.int a1), some (.int a2)] [] (hM p σ τ) ⟨trivial, (Eq.symm H)⟩
/- AccessDesk$Facts.setThing -/
def g115 (a1 : Int32) (a2 : Int32) (a3 : Int32) (σ : xS) : xO := (bif decide (a3 = 0 ∨ a3 = 1) then some ((Sum.inl 0, (xh_ui (xh_ui (xh_ui σ 35 2 a1) 35 3 a2) 35 4 a3))) else none)
theorem g115_run {l : Launch} {Ω : xo_O} (htr : xH l) (d : Nat) (p : Nat) (τ : Nat → Nat → Int64) (a1 : Int32) (a2 : Int32) (a3 : Int32) (σ : xS) {q : xQ} (hq : g115 a1 a2 a3 σ = some q) : xv l Ω d 0 0 115 0 (xs_loc (xm_l 115) [.ref 35, .int a1, .int a2, .int a3]) [] (hM p σ τ) (xq_R true p τ q) := by
  have H : xo (xB true p τ (xq_R true p τ q)) (g115 a1 a2 a3 σ) := by rw [hq]; exact rfl
  generalize xq_R true p τ q = r at H ⊢
  show xv l Ω d 0 0 115 0 [some (.ref 35), some (.int a1), some (.int a2), some (.int a3)] [] (hM p σ τ) r
  unfold g115 at H
  refine xp_ok htr 8 d 0 0 [] 115 0 [some (.ref 35), some (.int a1), some (.int a2), some (.int a3)] [] (hM p σ τ) ?_
  show xv l Ω d 0 0 115 12 [some (.ref 35), some (.int a1), some (.int a2), some (.int a3)] [.int a3, .ref 35] (hM p (xh_ui (xh_ui σ 35 2 a1) 35 3 a2) τ) r
  cases g1 : decide (a3 = 0 ∨ a3 = 1) with
  | false => rw [g1, cond_false] at H; exact False.elim H
  | true =>
    rw [g1, cond_true] at H
    exact xp_ok htr 2 d 0 0 [] 115 12 [some (.ref 35), some (.int a1), some (.int a2), some (.int a3)] [.int a3, .ref 35] (hM p (xh_ui (xh_ui σ 35 2 a1) 35 3 a2) τ) ⟨(xb01 g1), trivial, (Eq.symm H)⟩
/- AccessDesk$Facts.setAsker -/
def g116 (a1 : Int32) (a2 : Int32) (a3 : Int32) (a4 : Int32) (σ : xS) : xO := (bif decide (a3 = 0 ∨ a3 = 1) then some ((Sum.inl 0, (xh_ui (xh_ui (xh_ui (xh_ui σ 35 5 a1) 35 6 a2) 35 7 a3) 35 8 a4))) else none)
theorem g116_run {l : Launch} {Ω : xo_O} (htr : xH l) (d : Nat) (p : Nat) (τ : Nat → Nat → Int64) (a1 : Int32) (a2 : Int32) (a3 : Int32) (a4 : Int32) (σ : xS) {q : xQ} (hq : g116 a1 a2 a3 a4 σ = some q) : xv l Ω d 0 0 116 0 (xs_loc (xm_l 116) [.ref 35, .int a1, .int a2, .int a3, .int a4]) [] (hM p σ τ) (xq_R true p τ q) := by
  have H : xo (xB true p τ (xq_R true p τ q)) (g116 a1 a2 a3 a4 σ) := by rw [hq]; exact rfl
  generalize xq_R true p τ q = r at H ⊢
  show xv l Ω d 0 0 116 0 [some (.ref 35), some (.int a1), some (.int a2), some (.int a3), some (.int a4)] [] (hM p σ τ) r
  unfold g116 at H
  refine xp_ok htr 8 d 0 0 [] 116 0 [some (.ref 35), some (.int a1), some (.int a2), some (.int a3), some (.int a4)] [] (hM p σ τ) ?_
  show xv l Ω d 0 0 116 12 [some (.ref 35), some (.int a1), some (.int a2), some (.int a3), some (.int a4)] [.int a3, .ref 35] (hM p (xh_ui (xh_ui σ 35 5 a1) 35 6 a2) τ) r
  cases g1 : decide (a3 = 0 ∨ a3 = 1) with
  | false => rw [g1, cond_false] at H; exact False.elim H
  | true =>
    rw [g1, cond_true] at H
    exact xp_ok htr 5 d 0 0 [] 116 12 [some (.ref 35), some (.int a1), some (.int a2), some (.int a3), some (.int a4)] [.int a3, .ref 35] (hM p (xh_ui (xh_ui σ 35 5 a1) 35 6 a2) τ) ⟨(xb01 g1), trivial, (Eq.symm H)⟩
/- java/lang/Math.min -/
def g119 (a0 : Int32) (a1 : Int32) (σ : xS) : xO := (if a1 < a0 then some ((Sum.inl a1, σ)) else some ((Sum.inl a0, σ)))
theorem g119_run {l : Launch} {Ω : xo_O} (htr : xH l) (d : Nat) (p : Nat) (τ : Nat → Nat → Int64) (a0 : Int32) (a1 : Int32) (σ : xS) {q : xQ} (hq : g119 a0 a1 σ = some q) : xv l Ω d 0 0 119 0 (xs_loc (xm_l 119) [.int a0, .int a1]) [] (hM p σ τ) (xq_R false p τ q) := by
  have H : xo (xB false p τ (xq_R false p τ q)) (g119 a0 a1 σ) := by rw [hq]; exact rfl
  generalize xq_R false p τ q = r at H ⊢
  show xv l Ω d 0 0 119 0 [some (.int a0), some (.int a1)] [] (hM p σ τ) r
  unfold g119 at H
  by_cases h1 : a1 < a0
  · rw [if_pos h1] at H
    refine xp_ok htr 3 d 0 0 [eB true] 119 0 [some (.int a0), some (.int a1)] [] (hM p σ τ) ⟨h1, ?_⟩
    show xv l Ω d 0 0 119 9 [some (.int a0), some (.int a1)] [] (hM p σ τ) r
    exact xp_ok htr 2 d 0 0 [] 119 9 [some (.int a0), some (.int a1)] [] (hM p σ τ) ⟨trivial, (Eq.symm H)⟩
  · rw [if_neg h1] at H
    refine xp_ok htr 3 d 0 0 [eB false] 119 0 [some (.int a0), some (.int a1)] [] (hM p σ τ) ⟨h1, ?_⟩
    show xv l Ω d 0 0 119 5 [some (.int a0), some (.int a1)] [] (hM p σ τ) r
    exact xp_ok htr 3 d 0 0 [] 119 5 [some (.int a0), some (.int a1)] [] (hM p σ τ) ⟨trivial, (Eq.symm H)⟩
/- AccessDesk$Facts.compared -/
def g122_38 (k0 : Int32) (σ : xS) : Option xQ := (if k0 = 0 then some ((Sum.inl 0, σ)) else some ((Sum.inl 2, σ)))
def g122_33  (σ : xS) : Option xQ := g122_38 1 σ
def g122_37  (σ : xS) : Option xQ := g122_38 0 σ
def g122_22 (x0 : Int32) (x1 : Int32) (x2 : Int32) (σ : xS) : Option xQ := (if x1 = 62 then (if x0 ≤ x2 then g122_37 σ else g122_33 σ) else g122_37 σ)
def g122_11 (x0 : Int32) (x1 : Int32) (x2 : Int32) (σ : xS) : Option xQ := (if x1 = 60 then (if x0 < x2 then g122_33 σ else g122_22 x0 x1 x2 σ) else g122_22 x0 x1 x2 σ)
def g122 (a0 : Int32) (a1 : Int32) (a2 : Int32) (σ : xS) : xO := (if a1 = 61 then (if a0 = a2 then g122_33 σ else g122_11 a0 a1 a2 σ) else g122_11 a0 a1 a2 σ)
theorem g122_38_ok {l : Launch} {Ω : xo_O} (htr : xH l) (d : Nat) (p : Nat) (τ : Nat → Nat → Int64) (k0 : Int32) (σ : xS) (r : xv_R) (H : xo (xB false p τ r) (g122_38 k0 σ)) : xv l Ω d 0 0 122 38 [none, none, none, none] [.int k0] (hM p σ τ) r := by
  unfold g122_38 at H
  by_cases h3 : k0 = 0
  · rw [if_pos h3] at H
    refine xp_ok htr 3 d 0 0 [eB true] 122 38 [none, none, none, none] [.int k0] (hM p σ τ) ⟨h3, ?_⟩
    show xv l Ω d 0 0 122 47 [none, none, none, some (.int k0)] [] (hM p σ τ) r
    exact xp_ok htr 2 d 0 0 [] 122 47 [none, none, none, some (.int k0)] [] (hM p σ τ) ⟨trivial, (Eq.symm H)⟩
  · rw [if_neg h3] at H
    refine xp_ok htr 3 d 0 0 [eB false] 122 38 [none, none, none, none] [.int k0] (hM p σ τ) ⟨h3, ?_⟩
    show xv l Ω d 0 0 122 43 [none, none, none, some (.int k0)] [] (hM p σ τ) r
    exact xp_ok htr 3 d 0 0 [] 122 43 [none, none, none, some (.int k0)] [] (hM p σ τ) ⟨trivial, (Eq.symm H)⟩
theorem g122_33_ok {l : Launch} {Ω : xo_O} (htr : xH l) (d : Nat) (p : Nat) (τ : Nat → Nat → Int64)  (σ : xS) (r : xv_R) (H : xo (xB false p τ r) (g122_33 σ)) : xv l Ω d 0 0 122 33 [none, none, none, none] [] (hM p σ τ) r := by
  unfold g122_33 at H
  refine xp_ok htr 2 d 0 0 [] 122 33 [none, none, none, none] [] (hM p σ τ) ?_
  exact xv_sub (L' := [none, none, none, none]) trivial (g122_38_ok htr d p τ 1 σ r H)
theorem g122_37_ok {l : Launch} {Ω : xo_O} (htr : xH l) (d : Nat) (p : Nat) (τ : Nat → Nat → Int64)  (σ : xS) (r : xv_R) (H : xo (xB false p τ r) (g122_37 σ)) : xv l Ω d 0 0 122 37 [none, none, none, none] [] (hM p σ τ) r := by
  unfold g122_37 at H
  refine xp_ok htr 1 d 0 0 [] 122 37 [none, none, none, none] [] (hM p σ τ) ?_
  exact xv_sub (L' := [none, none, none, none]) trivial (g122_38_ok htr d p τ 0 σ r H)
theorem g122_22_ok {l : Launch} {Ω : xo_O} (htr : xH l) (d : Nat) (p : Nat) (τ : Nat → Nat → Int64) (x0 : Int32) (x1 : Int32) (x2 : Int32) (σ : xS) (r : xv_R) (H : xo (xB false p τ r) (g122_22 x0 x1 x2 σ)) : xv l Ω d 0 0 122 22 [some (.int x0), some (.int x1), some (.int x2), none] [] (hM p σ τ) r := by
  unfold g122_22 at H
  by_cases h6 : x1 = 62
  · rw [if_pos h6] at H
    refine xp_ok htr 3 d 0 0 [eB false] 122 22 [some (.int x0), some (.int x1), some (.int x2), none] [] (hM p σ τ) ⟨h6, ?_⟩
    show xv l Ω d 0 0 122 28 [some (.int x0), some (.int x1), some (.int x2), none] [] (hM p σ τ) r
    by_cases h7 : x0 ≤ x2
    · rw [if_pos h7] at H
      refine xp_ok htr 3 d 0 0 [eB true] 122 28 [some (.int x0), some (.int x1), some (.int x2), none] [] (hM p σ τ) ⟨h7, ?_⟩
      show xv l Ω d 0 0 122 37 [some (.int x0), some (.int x1), some (.int x2), none] [] (hM p σ τ) r
      exact xv_sub (L' := [none, none, none, none]) trivial (g122_37_ok htr d p τ σ r H)
    · rw [if_neg h7] at H
      refine xp_ok htr 3 d 0 0 [eB false] 122 28 [some (.int x0), some (.int x1), some (.int x2), none] [] (hM p σ τ) ⟨h7, ?_⟩
      show xv l Ω d 0 0 122 33 [some (.int x0), some (.int x1), some (.int x2), none] [] (hM p σ τ) r
      exact xv_sub (L' := [none, none, none, none]) trivial (g122_33_ok htr d p τ σ r H)
  · rw [if_neg h6] at H
    refine xp_ok htr 3 d 0 0 [eB true] 122 22 [some (.int x0), some (.int x1), some (.int x2), none] [] (hM p σ τ) ⟨h6, ?_⟩
    show xv l Ω d 0 0 122 37 [some (.int x0), some (.int x1), some (.int x2), none] [] (hM p σ τ) r
    exact xv_sub (L' := [none, none, none, none]) trivial (g122_37_ok htr d p τ σ r H)
theorem g122_11_ok {l : Launch} {Ω : xo_O} (htr : xH l) (d : Nat) (p : Nat) (τ : Nat → Nat → Int64) (x0 : Int32) (x1 : Int32) (x2 : Int32) (σ : xS) (r : xv_R) (H : xo (xB false p τ r) (g122_11 x0 x1 x2 σ)) : xv l Ω d 0 0 122 11 [some (.int x0), some (.int x1), some (.int x2), none] [] (hM p σ τ) r := by
  unfold g122_11 at H
  by_cases h4 : x1 = 60
  · rw [if_pos h4] at H
    refine xp_ok htr 3 d 0 0 [eB false] 122 11 [some (.int x0), some (.int x1), some (.int x2), none] [] (hM p σ τ) ⟨h4, ?_⟩
    show xv l Ω d 0 0 122 17 [some (.int x0), some (.int x1), some (.int x2), none] [] (hM p σ τ) r
    by_cases h5 : x0 < x2
    · rw [if_pos h5] at H
      refine xp_ok htr 3 d 0 0 [eB true] 122 17 [some (.int x0), some (.int x1), some (.int x2), none] [] (hM p σ τ) ⟨h5, ?_⟩
      show xv l Ω d 0 0 122 33 [some (.int x0), some (.int x1), some (.int x2), none] [] (hM p σ τ) r
      exact xv_sub (L' := [none, none, none, none]) trivial (g122_33_ok htr d p τ σ r H)
    · rw [if_neg h5] at H
      refine xp_ok htr 3 d 0 0 [eB false] 122 17 [some (.int x0), some (.int x1), some (.int x2), none] [] (hM p σ τ) ⟨h5, ?_⟩
      show xv l Ω d 0 0 122 22 [some (.int x0), some (.int x1), some (.int x2), none] [] (hM p σ τ) r
      exact xv_sub (L' := [some (.int x0), some (.int x1), some (.int x2), none]) ⟨rfl, ⟨rfl, ⟨rfl, trivial⟩⟩⟩ (g122_22_ok htr d p τ x0 x1 x2 σ r H)
  · rw [if_neg h4] at H
    refine xp_ok htr 3 d 0 0 [eB true] 122 11 [some (.int x0), some (.int x1), some (.int x2), none] [] (hM p σ τ) ⟨h4, ?_⟩
    show xv l Ω d 0 0 122 22 [some (.int x0), some (.int x1), some (.int x2), none] [] (hM p σ τ) r
    exact xv_sub (L' := [some (.int x0), some (.int x1), some (.int x2), none]) ⟨rfl, ⟨rfl, ⟨rfl, trivial⟩⟩⟩ (g122_22_ok htr d p τ x0 x1 x2 σ r H)
theorem g122_run {l : Launch} {Ω : xo_O} (htr : xH l) (d : Nat) (p : Nat) (τ : Nat → Nat → Int64) (a0 : Int32) (a1 : Int32) (a2 : Int32) (σ : xS) {q : xQ} (hq : g122 a0 a1 a2 σ = some q) : xv l Ω d 0 0 122 0 (xs_loc (xm_l 122) [.int a0, .int a1, .int a2]) [] (hM p σ τ) (xq_R false p τ q) := by
  have H : xo (xB false p τ (xq_R false p τ q)) (g122 a0 a1 a2 σ) := by rw [hq]; exact rfl
  generalize xq_R false p τ q = r at H ⊢
  show xv l Ω d 0 0 122 0 [some (.int a0), some (.int a1), some (.int a2), none] [] (hM p σ τ) r
  unfold g122 at H
  by_cases h1 : a1 = 61
  · rw [if_pos h1] at H
    refine xp_ok htr 3 d 0 0 [eB false] 122 0 [some (.int a0), some (.int a1), some (.int a2), none] [] (hM p σ τ) ⟨h1, ?_⟩
    show xv l Ω d 0 0 122 6 [some (.int a0), some (.int a1), some (.int a2), none] [] (hM p σ τ) r
    by_cases h2 : a0 = a2
    · rw [if_pos h2] at H
      refine xp_ok htr 3 d 0 0 [eB true] 122 6 [some (.int a0), some (.int a1), some (.int a2), none] [] (hM p σ τ) ⟨h2, ?_⟩
      show xv l Ω d 0 0 122 33 [some (.int a0), some (.int a1), some (.int a2), none] [] (hM p σ τ) r
      exact xv_sub (L' := [none, none, none, none]) trivial (g122_33_ok htr d p τ σ r H)
    · rw [if_neg h2] at H
      refine xp_ok htr 3 d 0 0 [eB false] 122 6 [some (.int a0), some (.int a1), some (.int a2), none] [] (hM p σ τ) ⟨h2, ?_⟩
      show xv l Ω d 0 0 122 11 [some (.int a0), some (.int a1), some (.int a2), none] [] (hM p σ τ) r
      exact xv_sub (L' := [some (.int a0), some (.int a1), some (.int a2), none]) ⟨rfl, ⟨rfl, ⟨rfl, trivial⟩⟩⟩ (g122_11_ok htr d p τ a0 a1 a2 σ r H)
  · rw [if_neg h1] at H
    refine xp_ok htr 3 d 0 0 [eB true] 122 0 [some (.int a0), some (.int a1), some (.int a2), none] [] (hM p σ τ) ⟨h1, ?_⟩
    show xv l Ω d 0 0 122 11 [some (.int a0), some (.int a1), some (.int a2), none] [] (hM p σ τ) r
    exact xv_sub (L' := [some (.int a0), some (.int a1), some (.int a2), none]) ⟨rfl, ⟨rfl, ⟨rfl, trivial⟩⟩⟩ (g122_11_ok htr d p τ a0 a1 a2 σ r H)
/- AccessDesk$Facts.match -/
def g121 (a1 : Int32) (a2 : Int32) (a3 : Int32) (σ : xS) : xO := (if a1 = 76 then (if (σ 35 4) = 0 then some ((Sum.inl 1, σ)) else (match g122 (σ 35 3) a2 a3 σ with | some (Sum.inl v3, s4) => some ((Sum.inl v3, s4)) | some (Sum.inr v3, s4) => none | none => none)) else (if a1 = 83 then (if (σ 35 7) = 0 then some ((Sum.inl 1, σ)) else (match g122 (σ 35 6) a2 a3 σ with | some (Sum.inl v7, s8) => some ((Sum.inl v7, s8)) | some (Sum.inr v7, s8) => none | none => none)) else (if a1 = 97 then (match g122 (σ 35 0) a2 a3 σ with | some (Sum.inl v10, s11) => some ((Sum.inl v10, s11)) | some (Sum.inr v10, s11) => none | none => none) else (if a1 = 99 then (match g122 (σ 35 2) a2 a3 σ with | some (Sum.inl v13, s14) => some ((Sum.inl v13, s14)) | some (Sum.inr v13, s14) => none | none => none) else (if a1 = 104 then (match g122 (σ 35 1) a2 a3 σ with | some (Sum.inl v16, s17) => some ((Sum.inl v16, s17)) | some (Sum.inr v16, s17) => none | none => none) else (if a1 = 108 then (if (σ 35 4) = 0 then some ((Sum.inl 0, σ)) else (match g122 (σ 35 3) a2 a3 σ with | some (Sum.inl v20, s21) => some ((Sum.inl v20, s21)) | some (Sum.inr v20, s21) => none | none => none)) else (if a1 = 114 then (if 12 ≤ a3 then some ((Sum.inl 0, σ)) else (match g28 (σ 35 8) a3 σ with | some (Sum.inl v24, s25) => (if v24 = 0 then some ((Sum.inl 0, s25)) else some ((Sum.inl 2, s25))) | some (Sum.inr v24, s25) => none | none => none)) else (if a1 = 115 then (if (σ 35 7) = 0 then some ((Sum.inl 0, σ)) else (match g122 (σ 35 6) a2 a3 σ with | some (Sum.inl v29, s30) => some ((Sum.inl v29, s30)) | some (Sum.inr v29, s30) => none | none => none)) else (if a1 = 117 then (match g122 (σ 35 5) a2 a3 σ with | some (Sum.inl v32, s33) => some ((Sum.inl v32, s33)) | some (Sum.inr v32, s33) => none | none => none) else some ((Sum.inl 0, σ)))))))))))
theorem g121_run {l : Launch} {Ω : xo_O} (htr : xH l) (d : Nat) (p : Nat) (τ : Nat → Nat → Int64) (a1 : Int32) (a2 : Int32) (a3 : Int32) (σ : xS) {q : xQ} (hq : g121 a1 a2 a3 σ = some q) : xv l Ω (d + 1) 0 0 121 0 (xs_loc (xm_l 121) [.ref 35, .int a1, .int a2, .int a3]) [] (hM p σ τ) (xq_R false p τ q) := by
  have H : xo (xB false p τ (xq_R false p τ q)) (g121 a1 a2 a3 σ) := by rw [hq]; exact rfl
  generalize xq_R false p τ q = r at H ⊢
  show xv l Ω (d + 1) 0 0 121 0 [some (.ref 35), some (.int a1), some (.int a2), some (.int a3)] [] (hM p σ τ) r
  unfold g121 at H
  by_cases h1_0 : a1 = 76
  · rw [if_pos h1_0] at H
    refine xp_ok htr 2 (d + 1) 0 0 [eS (some 76)] 121 0 [some (.ref 35), some (.int a1), some (.int a2), some (.int a3)] [] (hM p σ τ) ⟨h1_0, ?_⟩
    show xv l Ω (d + 1) 0 0 121 168 [some (.ref 35), some (.int a1), some (.int a2), some (.int a3)] [] (hM p σ τ) r
    by_cases h2 : (σ 35 4) = 0
    · rw [if_pos h2] at H
      refine xp_ok htr 3 (d + 1) 0 0 [eB true] 121 168 [some (.ref 35), some (.int a1), some (.int a2), some (.int a3)] [] (hM p σ τ) ⟨h2, ?_⟩
      show xv l Ω (d + 1) 0 0 121 187 [some (.ref 35), some (.int a1), some (.int a2), some (.int a3)] [] (hM p σ τ) r
      exact xp_ok htr 2 (d + 1) 0 0 [] 121 187 [some (.ref 35), some (.int a1), some (.int a2), some (.int a3)] [] (hM p σ τ) ⟨trivial, (Eq.symm H)⟩
    · rw [if_neg h2] at H
      refine xp_ok htr 3 (d + 1) 0 0 [eB false] 121 168 [some (.ref 35), some (.int a1), some (.int a2), some (.int a3)] [] (hM p σ τ) ⟨h2, ?_⟩
      show xv l Ω (d + 1) 0 0 121 175 [some (.ref 35), some (.int a1), some (.int a2), some (.int a3)] [] (hM p σ τ) r
      cases q5 : g122 (σ 35 3) a2 a3 σ with
      | none => rw [q5] at H; exact False.elim H
      | some q50 =>
        obtain ⟨v3 | v3, s4⟩ := q50
        · rw [q5] at H; dsimp only at H
          have hc := g122_run (Ω := Ω) htr d p τ (σ 35 3) a2 a3 σ q5
          refine xp_ok htr 5 (d + 1) 0 0 [eC (some (.int v3)) (hM p s4 τ)] 121 175 [some (.ref 35), some (.int a1), some (.int a2), some (.int a3)] [] (hM p σ τ) ⟨hc, ?_⟩
          show xv l Ω (d + 1) 0 0 121 184 [some (.ref 35), some (.int a1), some (.int a2), some (.int a3)] [.int v3] (hM p s4 τ) r
          exact xp_ok htr 2 (d + 1) 0 0 [] 121 184 [some (.ref 35), some (.int a1), some (.int a2), some (.int a3)] [.int v3] (hM p s4 τ) ⟨trivial, (Eq.symm H)⟩
        · rw [q5] at H; exact False.elim H
  rw [if_neg h1_0] at H
  by_cases h1_1 : a1 = 83
  · rw [if_pos h1_1] at H
    refine xp_ok htr 2 (d + 1) 0 0 [eS (some 83)] 121 0 [some (.ref 35), some (.int a1), some (.int a2), some (.int a3)] [] (hM p σ τ) ⟨h1_1, ?_⟩
    show xv l Ω (d + 1) 0 0 121 210 [some (.ref 35), some (.int a1), some (.int a2), some (.int a3)] [] (hM p σ τ) r
    by_cases h6 : (σ 35 7) = 0
    · rw [if_pos h6] at H
      refine xp_ok htr 3 (d + 1) 0 0 [eB true] 121 210 [some (.ref 35), some (.int a1), some (.int a2), some (.int a3)] [] (hM p σ τ) ⟨h6, ?_⟩
      show xv l Ω (d + 1) 0 0 121 229 [some (.ref 35), some (.int a1), some (.int a2), some (.int a3)] [] (hM p σ τ) r
      exact xp_ok htr 2 (d + 1) 0 0 [] 121 229 [some (.ref 35), some (.int a1), some (.int a2), some (.int a3)] [] (hM p σ τ) ⟨trivial, (Eq.symm H)⟩
    · rw [if_neg h6] at H
      refine xp_ok htr 3 (d + 1) 0 0 [eB false] 121 210 [some (.ref 35), some (.int a1), some (.int a2), some (.int a3)] [] (hM p σ τ) ⟨h6, ?_⟩
      show xv l Ω (d + 1) 0 0 121 217 [some (.ref 35), some (.int a1), some (.int a2), some (.int a3)] [] (hM p σ τ) r
      cases q9 : g122 (σ 35 6) a2 a3 σ with
      | none => rw [q9] at H; exact False.elim H
      | some q90 =>
        obtain ⟨v7 | v7, s8⟩ := q90
        · rw [q9] at H; dsimp only at H
          have hc := g122_run (Ω := Ω) htr d p τ (σ 35 6) a2 a3 σ q9
          refine xp_ok htr 5 (d + 1) 0 0 [eC (some (.int v7)) (hM p s8 τ)] 121 217 [some (.ref 35), some (.int a1), some (.int a2), some (.int a3)] [] (hM p σ τ) ⟨hc, ?_⟩
          show xv l Ω (d + 1) 0 0 121 226 [some (.ref 35), some (.int a1), some (.int a2), some (.int a3)] [.int v7] (hM p s8 τ) r
          exact xp_ok htr 2 (d + 1) 0 0 [] 121 226 [some (.ref 35), some (.int a1), some (.int a2), some (.int a3)] [.int v7] (hM p s8 τ) ⟨trivial, (Eq.symm H)⟩
        · rw [q9] at H; exact False.elim H
  rw [if_neg h1_1] at H
  by_cases h1_2 : a1 = 97
  · rw [if_pos h1_2] at H
    refine xp_ok htr 2 (d + 1) 0 0 [eS (some 97)] 121 0 [some (.ref 35), some (.int a1), some (.int a2), some (.int a3)] [] (hM p σ τ) ⟨h1_2, ?_⟩
    show xv l Ω (d + 1) 0 0 121 84 [some (.ref 35), some (.int a1), some (.int a2), some (.int a3)] [] (hM p σ τ) r
    cases q12 : g122 (σ 35 0) a2 a3 σ with
    | none => rw [q12] at H; exact False.elim H
    | some q120 =>
      obtain ⟨v10 | v10, s11⟩ := q120
      · rw [q12] at H; dsimp only at H
        have hc := g122_run (Ω := Ω) htr d p τ (σ 35 0) a2 a3 σ q12
        refine xp_ok htr 5 (d + 1) 0 0 [eC (some (.int v10)) (hM p s11 τ)] 121 84 [some (.ref 35), some (.int a1), some (.int a2), some (.int a3)] [] (hM p σ τ) ⟨hc, ?_⟩
        show xv l Ω (d + 1) 0 0 121 93 [some (.ref 35), some (.int a1), some (.int a2), some (.int a3)] [.int v10] (hM p s11 τ) r
        exact xp_ok htr 1 (d + 1) 0 0 [] 121 93 [some (.ref 35), some (.int a1), some (.int a2), some (.int a3)] [.int v10] (hM p s11 τ) ⟨trivial, (Eq.symm H)⟩
      · rw [q12] at H; exact False.elim H
  rw [if_neg h1_2] at H
  by_cases h1_3 : a1 = 99
  · rw [if_pos h1_3] at H
    refine xp_ok htr 2 (d + 1) 0 0 [eS (some 99)] 121 0 [some (.ref 35), some (.int a1), some (.int a2), some (.int a3)] [] (hM p σ τ) ⟨h1_3, ?_⟩
    show xv l Ω (d + 1) 0 0 121 94 [some (.ref 35), some (.int a1), some (.int a2), some (.int a3)] [] (hM p σ τ) r
    cases q15 : g122 (σ 35 2) a2 a3 σ with
    | none => rw [q15] at H; exact False.elim H
    | some q150 =>
      obtain ⟨v13 | v13, s14⟩ := q150
      · rw [q15] at H; dsimp only at H
        have hc := g122_run (Ω := Ω) htr d p τ (σ 35 2) a2 a3 σ q15
        refine xp_ok htr 5 (d + 1) 0 0 [eC (some (.int v13)) (hM p s14 τ)] 121 94 [some (.ref 35), some (.int a1), some (.int a2), some (.int a3)] [] (hM p σ τ) ⟨hc, ?_⟩
        show xv l Ω (d + 1) 0 0 121 103 [some (.ref 35), some (.int a1), some (.int a2), some (.int a3)] [.int v13] (hM p s14 τ) r
        exact xp_ok htr 1 (d + 1) 0 0 [] 121 103 [some (.ref 35), some (.int a1), some (.int a2), some (.int a3)] [.int v13] (hM p s14 τ) ⟨trivial, (Eq.symm H)⟩
      · rw [q15] at H; exact False.elim H
  rw [if_neg h1_3] at H
  by_cases h1_4 : a1 = 104
  · rw [if_pos h1_4] at H
    refine xp_ok htr 2 (d + 1) 0 0 [eS (some 104)] 121 0 [some (.ref 35), some (.int a1), some (.int a2), some (.int a3)] [] (hM p σ τ) ⟨h1_4, ?_⟩
    show xv l Ω (d + 1) 0 0 121 104 [some (.ref 35), some (.int a1), some (.int a2), some (.int a3)] [] (hM p σ τ) r
    cases q18 : g122 (σ 35 1) a2 a3 σ with
    | none => rw [q18] at H; exact False.elim H
    | some q180 =>
      obtain ⟨v16 | v16, s17⟩ := q180
      · rw [q18] at H; dsimp only at H
        have hc := g122_run (Ω := Ω) htr d p τ (σ 35 1) a2 a3 σ q18
        refine xp_ok htr 5 (d + 1) 0 0 [eC (some (.int v16)) (hM p s17 τ)] 121 104 [some (.ref 35), some (.int a1), some (.int a2), some (.int a3)] [] (hM p σ τ) ⟨hc, ?_⟩
        show xv l Ω (d + 1) 0 0 121 113 [some (.ref 35), some (.int a1), some (.int a2), some (.int a3)] [.int v16] (hM p s17 τ) r
        exact xp_ok htr 1 (d + 1) 0 0 [] 121 113 [some (.ref 35), some (.int a1), some (.int a2), some (.int a3)] [.int v16] (hM p s17 τ) ⟨trivial, (Eq.symm H)⟩
      · rw [q18] at H; exact False.elim H
  rw [if_neg h1_4] at H
  by_cases h1_5 : a1 = 108
  · rw [if_pos h1_5] at H
    refine xp_ok htr 2 (d + 1) 0 0 [eS (some 108)] 121 0 [some (.ref 35), some (.int a1), some (.int a2), some (.int a3)] [] (hM p σ τ) ⟨h1_5, ?_⟩
    show xv l Ω (d + 1) 0 0 121 147 [some (.ref 35), some (.int a1), some (.int a2), some (.int a3)] [] (hM p σ τ) r
    by_cases h19 : (σ 35 4) = 0
    · rw [if_pos h19] at H
      refine xp_ok htr 3 (d + 1) 0 0 [eB true] 121 147 [some (.ref 35), some (.int a1), some (.int a2), some (.int a3)] [] (hM p σ τ) ⟨h19, ?_⟩
      show xv l Ω (d + 1) 0 0 121 166 [some (.ref 35), some (.int a1), some (.int a2), some (.int a3)] [] (hM p σ τ) r
      exact xp_ok htr 2 (d + 1) 0 0 [] 121 166 [some (.ref 35), some (.int a1), some (.int a2), some (.int a3)] [] (hM p σ τ) ⟨trivial, (Eq.symm H)⟩
    · rw [if_neg h19] at H
      refine xp_ok htr 3 (d + 1) 0 0 [eB false] 121 147 [some (.ref 35), some (.int a1), some (.int a2), some (.int a3)] [] (hM p σ τ) ⟨h19, ?_⟩
      show xv l Ω (d + 1) 0 0 121 154 [some (.ref 35), some (.int a1), some (.int a2), some (.int a3)] [] (hM p σ τ) r
      cases q22 : g122 (σ 35 3) a2 a3 σ with
      | none => rw [q22] at H; exact False.elim H
      | some q220 =>
        obtain ⟨v20 | v20, s21⟩ := q220
        · rw [q22] at H; dsimp only at H
          have hc := g122_run (Ω := Ω) htr d p τ (σ 35 3) a2 a3 σ q22
          refine xp_ok htr 5 (d + 1) 0 0 [eC (some (.int v20)) (hM p s21 τ)] 121 154 [some (.ref 35), some (.int a1), some (.int a2), some (.int a3)] [] (hM p σ τ) ⟨hc, ?_⟩
          show xv l Ω (d + 1) 0 0 121 163 [some (.ref 35), some (.int a1), some (.int a2), some (.int a3)] [.int v20] (hM p s21 τ) r
          exact xp_ok htr 2 (d + 1) 0 0 [] 121 163 [some (.ref 35), some (.int a1), some (.int a2), some (.int a3)] [.int v20] (hM p s21 τ) ⟨trivial, (Eq.symm H)⟩
        · rw [q22] at H; exact False.elim H
  rw [if_neg h1_5] at H
  by_cases h1_6 : a1 = 114
  · rw [if_pos h1_6] at H
    refine xp_ok htr 2 (d + 1) 0 0 [eS (some 114)] 121 0 [some (.ref 35), some (.int a1), some (.int a2), some (.int a3)] [] (hM p σ τ) ⟨h1_6, ?_⟩
    show xv l Ω (d + 1) 0 0 121 124 [some (.ref 35), some (.int a1), some (.int a2), some (.int a3)] [] (hM p σ τ) r
    by_cases h23 : 12 ≤ a3
    · rw [if_pos h23] at H
      refine xp_ok htr 3 (d + 1) 0 0 [eB true] 121 124 [some (.ref 35), some (.int a1), some (.int a2), some (.int a3)] [] (hM p σ τ) ⟨h23, ?_⟩
      show xv l Ω (d + 1) 0 0 121 145 [some (.ref 35), some (.int a1), some (.int a2), some (.int a3)] [] (hM p σ τ) r
      exact xp_ok htr 2 (d + 1) 0 0 [] 121 145 [some (.ref 35), some (.int a1), some (.int a2), some (.int a3)] [] (hM p σ τ) ⟨trivial, (Eq.symm H)⟩
    · rw [if_neg h23] at H
      refine xp_ok htr 3 (d + 1) 0 0 [eB false] 121 124 [some (.ref 35), some (.int a1), some (.int a2), some (.int a3)] [] (hM p σ τ) ⟨h23, ?_⟩
      show xv l Ω (d + 1) 0 0 121 130 [some (.ref 35), some (.int a1), some (.int a2), some (.int a3)] [] (hM p σ τ) r
      cases q26 : g28 (σ 35 8) a3 σ with
      | none => rw [q26] at H; exact False.elim H
      | some q260 =>
        obtain ⟨v24 | v24, s25⟩ := q260
        · rw [q26] at H; dsimp only at H
          have hc := g28_run (Ω := Ω) htr d p τ (σ 35 8) a3 σ q26
          refine xp_ok htr 4 (d + 1) 0 0 [eC (some (.int v24)) (hM p s25 τ)] 121 130 [some (.ref 35), some (.int a1), some (.int a2), some (.int a3)] [] (hM p σ τ) ⟨hc, ?_⟩
          show xv l Ω (d + 1) 0 0 121 138 [some (.ref 35), some (.int a1), some (.int a2), some (.int a3)] [.int v24] (hM p s25 τ) r
          by_cases h27 : v24 = 0
          · rw [if_pos h27] at H
            refine xp_ok htr 1 (d + 1) 0 0 [eB true] 121 138 [some (.ref 35), some (.int a1), some (.int a2), some (.int a3)] [.int v24] (hM p s25 τ) ⟨h27, ?_⟩
            show xv l Ω (d + 1) 0 0 121 145 [some (.ref 35), some (.int a1), some (.int a2), some (.int a3)] [] (hM p s25 τ) r
            exact xp_ok htr 2 (d + 1) 0 0 [] 121 145 [some (.ref 35), some (.int a1), some (.int a2), some (.int a3)] [] (hM p s25 τ) ⟨trivial, (Eq.symm H)⟩
          · rw [if_neg h27] at H
            refine xp_ok htr 1 (d + 1) 0 0 [eB false] 121 138 [some (.ref 35), some (.int a1), some (.int a2), some (.int a3)] [.int v24] (hM p s25 τ) ⟨h27, ?_⟩
            show xv l Ω (d + 1) 0 0 121 141 [some (.ref 35), some (.int a1), some (.int a2), some (.int a3)] [] (hM p s25 τ) r
            exact xp_ok htr 3 (d + 1) 0 0 [] 121 141 [some (.ref 35), some (.int a1), some (.int a2), some (.int a3)] [] (hM p s25 τ) ⟨trivial, (Eq.symm H)⟩
        · rw [q26] at H; exact False.elim H
  rw [if_neg h1_6] at H
  by_cases h1_7 : a1 = 115
  · rw [if_pos h1_7] at H
    refine xp_ok htr 2 (d + 1) 0 0 [eS (some 115)] 121 0 [some (.ref 35), some (.int a1), some (.int a2), some (.int a3)] [] (hM p σ τ) ⟨h1_7, ?_⟩
    show xv l Ω (d + 1) 0 0 121 189 [some (.ref 35), some (.int a1), some (.int a2), some (.int a3)] [] (hM p σ τ) r
    by_cases h28 : (σ 35 7) = 0
    · rw [if_pos h28] at H
      refine xp_ok htr 3 (d + 1) 0 0 [eB true] 121 189 [some (.ref 35), some (.int a1), some (.int a2), some (.int a3)] [] (hM p σ τ) ⟨h28, ?_⟩
      show xv l Ω (d + 1) 0 0 121 208 [some (.ref 35), some (.int a1), some (.int a2), some (.int a3)] [] (hM p σ τ) r
      exact xp_ok htr 2 (d + 1) 0 0 [] 121 208 [some (.ref 35), some (.int a1), some (.int a2), some (.int a3)] [] (hM p σ τ) ⟨trivial, (Eq.symm H)⟩
    · rw [if_neg h28] at H
      refine xp_ok htr 3 (d + 1) 0 0 [eB false] 121 189 [some (.ref 35), some (.int a1), some (.int a2), some (.int a3)] [] (hM p σ τ) ⟨h28, ?_⟩
      show xv l Ω (d + 1) 0 0 121 196 [some (.ref 35), some (.int a1), some (.int a2), some (.int a3)] [] (hM p σ τ) r
      cases q31 : g122 (σ 35 6) a2 a3 σ with
      | none => rw [q31] at H; exact False.elim H
      | some q310 =>
        obtain ⟨v29 | v29, s30⟩ := q310
        · rw [q31] at H; dsimp only at H
          have hc := g122_run (Ω := Ω) htr d p τ (σ 35 6) a2 a3 σ q31
          refine xp_ok htr 5 (d + 1) 0 0 [eC (some (.int v29)) (hM p s30 τ)] 121 196 [some (.ref 35), some (.int a1), some (.int a2), some (.int a3)] [] (hM p σ τ) ⟨hc, ?_⟩
          show xv l Ω (d + 1) 0 0 121 205 [some (.ref 35), some (.int a1), some (.int a2), some (.int a3)] [.int v29] (hM p s30 τ) r
          exact xp_ok htr 2 (d + 1) 0 0 [] 121 205 [some (.ref 35), some (.int a1), some (.int a2), some (.int a3)] [.int v29] (hM p s30 τ) ⟨trivial, (Eq.symm H)⟩
        · rw [q31] at H; exact False.elim H
  rw [if_neg h1_7] at H
  by_cases h1_8 : a1 = 117
  · rw [if_pos h1_8] at H
    refine xp_ok htr 2 (d + 1) 0 0 [eS (some 117)] 121 0 [some (.ref 35), some (.int a1), some (.int a2), some (.int a3)] [] (hM p σ τ) ⟨h1_8, ?_⟩
    show xv l Ω (d + 1) 0 0 121 114 [some (.ref 35), some (.int a1), some (.int a2), some (.int a3)] [] (hM p σ τ) r
    cases q34 : g122 (σ 35 5) a2 a3 σ with
    | none => rw [q34] at H; exact False.elim H
    | some q340 =>
      obtain ⟨v32 | v32, s33⟩ := q340
      · rw [q34] at H; dsimp only at H
        have hc := g122_run (Ω := Ω) htr d p τ (σ 35 5) a2 a3 σ q34
        refine xp_ok htr 5 (d + 1) 0 0 [eC (some (.int v32)) (hM p s33 τ)] 121 114 [some (.ref 35), some (.int a1), some (.int a2), some (.int a3)] [] (hM p σ τ) ⟨hc, ?_⟩
        show xv l Ω (d + 1) 0 0 121 123 [some (.ref 35), some (.int a1), some (.int a2), some (.int a3)] [.int v32] (hM p s33 τ) r
        exact xp_ok htr 1 (d + 1) 0 0 [] 121 123 [some (.ref 35), some (.int a1), some (.int a2), some (.int a3)] [.int v32] (hM p s33 τ) ⟨trivial, (Eq.symm H)⟩
      · rw [q34] at H; exact False.elim H
  rw [if_neg h1_8] at H
  refine xp_ok htr 2 (d + 1) 0 0 [eS none] 121 0 [some (.ref 35), some (.int a1), some (.int a2), some (.int a3)] [] (hM p σ τ) ⟨⟨h1_0, h1_1, h1_2, h1_3, h1_4, h1_5, h1_6, h1_7, h1_8, trivial⟩, ?_⟩
  show xv l Ω (d + 1) 0 0 121 231 [some (.ref 35), some (.int a1), some (.int a2), some (.int a3)] [] (hM p σ τ) r
  exact xp_ok htr 2 (d + 1) 0 0 [] 121 231 [some (.ref 35), some (.int a1), some (.int a2), some (.int a3)] [] (hM p σ τ) ⟨trivial, (Eq.symm H)⟩
/- AccessDesk$Judge.matchAt -/
def g120 (p : Nat) (a1 : Int32) (σ : xS) : xO := (bif xn a1 300 then (match g121 (σ ((59 - p) + 8) (Int32.toNatClampNeg a1)) (σ ((59 - p) + 9) (Int32.toNatClampNeg a1)) (σ ((59 - p) + 10) (Int32.toNatClampNeg a1)) σ with | some (Sum.inl v2, s3) => some ((Sum.inl v2, s3)) | some (Sum.inr v2, s3) => none | none => none) else none)
theorem g120_run_23 {l : Launch} {Ω : xo_O} (htr : xH l) (d : Nat) (τ : Nat → Nat → Int64) (a1 : Int32) (σ : xS) {q : xQ} (hq : g120 23 a1 σ = some q) : xv l Ω (d + 2) 0 0 120 0 (xs_loc (xm_l 120) [.ref 34, .int a1]) [] (hM 23 σ τ) (xq_R false 23 τ q) := by
  have H : xo (xB false 23 τ (xq_R false 23 τ q)) (g120 23 a1 σ) := by rw [hq]; exact rfl
  generalize xq_R false 23 τ q = r at H ⊢
  show xv l Ω (d + 2) 0 0 120 0 [some (.ref 34), some (.int a1)] [] (hM 23 σ τ) r
  unfold g120 at H
  cases g1 : xn a1 300 with
  | false => rw [g1, cond_false] at H; exact False.elim H
  | true =>
    rw [g1, cond_true] at H
    refine xp_ok htr 8 (d + 2) 0 0 [] 120 0 [some (.ref 34), some (.int a1)] [] (hM 23 σ τ) ⟨(xn_in g1), ?_⟩
    show xv l Ω (d + 2) 0 0 120 14 [some (.ref 34), some (.int a1)] [.ref 34, .int (σ ((59 - 23) + 8) (Int32.toNatClampNeg a1)), .ref 35] (hM 23 σ τ) r
    refine xp_ok htr 8 (d + 2) 0 0 [] 120 14 [some (.ref 34), some (.int a1)] [.ref 34, .int (σ ((59 - 23) + 8) (Int32.toNatClampNeg a1)), .ref 35] (hM 23 σ τ) ⟨(xn_in g1), ?_⟩
    show xv l Ω (d + 2) 0 0 120 30 [some (.ref 34), some (.int a1)] [.int a1, .ref ((59 - 23) + 10), .int (σ ((59 - 23) + 9) (Int32.toNatClampNeg a1)), .int (σ ((59 - 23) + 8) (Int32.toNatClampNeg a1)), .ref 35] (hM 23 σ τ) r
    cases q4 : g121 (σ ((59 - 23) + 8) (Int32.toNatClampNeg a1)) (σ ((59 - 23) + 9) (Int32.toNatClampNeg a1)) (σ ((59 - 23) + 10) (Int32.toNatClampNeg a1)) σ with
    | none => rw [q4] at H; exact False.elim H
    | some q40 =>
      obtain ⟨v2 | v2, s3⟩ := q40
      · rw [q4] at H; dsimp only at H
        have hc := g121_run (Ω := Ω) htr d 23 τ (σ ((59 - 23) + 8) (Int32.toNatClampNeg a1)) (σ ((59 - 23) + 9) (Int32.toNatClampNeg a1)) (σ ((59 - 23) + 10) (Int32.toNatClampNeg a1)) σ q4
        refine xp_ok htr 2 (d + 2) 0 0 [eC (some (.int v2)) (hM 23 s3 τ)] 120 30 [some (.ref 34), some (.int a1)] [.int a1, .ref ((59 - 23) + 10), .int (σ ((59 - 23) + 9) (Int32.toNatClampNeg a1)), .int (σ ((59 - 23) + 8) (Int32.toNatClampNeg a1)), .ref 35] (hM 23 σ τ) ⟨(xn_in g1), hc, ?_⟩
        show xv l Ω (d + 2) 0 0 120 34 [some (.ref 34), some (.int a1)] [.int v2] (hM 23 s3 τ) r
        exact xp_ok htr 1 (d + 2) 0 0 [] 120 34 [some (.ref 34), some (.int a1)] [.int v2] (hM 23 s3 τ) ⟨trivial, (Eq.symm H)⟩
      · rw [q4] at H; exact False.elim H
theorem g120_run_36 {l : Launch} {Ω : xo_O} (htr : xH l) (d : Nat) (τ : Nat → Nat → Int64) (a1 : Int32) (σ : xS) {q : xQ} (hq : g120 36 a1 σ = some q) : xv l Ω (d + 2) 0 0 120 0 (xs_loc (xm_l 120) [.ref 34, .int a1]) [] (hM 36 σ τ) (xq_R false 36 τ q) := by
  have H : xo (xB false 36 τ (xq_R false 36 τ q)) (g120 36 a1 σ) := by rw [hq]; exact rfl
  generalize xq_R false 36 τ q = r at H ⊢
  show xv l Ω (d + 2) 0 0 120 0 [some (.ref 34), some (.int a1)] [] (hM 36 σ τ) r
  unfold g120 at H
  cases g1 : xn a1 300 with
  | false => rw [g1, cond_false] at H; exact False.elim H
  | true =>
    rw [g1, cond_true] at H
    refine xp_ok htr 8 (d + 2) 0 0 [] 120 0 [some (.ref 34), some (.int a1)] [] (hM 36 σ τ) ⟨(xn_in g1), ?_⟩
    show xv l Ω (d + 2) 0 0 120 14 [some (.ref 34), some (.int a1)] [.ref 34, .int (σ ((59 - 36) + 8) (Int32.toNatClampNeg a1)), .ref 35] (hM 36 σ τ) r
    refine xp_ok htr 8 (d + 2) 0 0 [] 120 14 [some (.ref 34), some (.int a1)] [.ref 34, .int (σ ((59 - 36) + 8) (Int32.toNatClampNeg a1)), .ref 35] (hM 36 σ τ) ⟨(xn_in g1), ?_⟩
    show xv l Ω (d + 2) 0 0 120 30 [some (.ref 34), some (.int a1)] [.int a1, .ref ((59 - 36) + 10), .int (σ ((59 - 36) + 9) (Int32.toNatClampNeg a1)), .int (σ ((59 - 36) + 8) (Int32.toNatClampNeg a1)), .ref 35] (hM 36 σ τ) r
    cases q4 : g121 (σ ((59 - 36) + 8) (Int32.toNatClampNeg a1)) (σ ((59 - 36) + 9) (Int32.toNatClampNeg a1)) (σ ((59 - 36) + 10) (Int32.toNatClampNeg a1)) σ with
    | none => rw [q4] at H; exact False.elim H
    | some q40 =>
      obtain ⟨v2 | v2, s3⟩ := q40
      · rw [q4] at H; dsimp only at H
        have hc := g121_run (Ω := Ω) htr d 36 τ (σ ((59 - 36) + 8) (Int32.toNatClampNeg a1)) (σ ((59 - 36) + 9) (Int32.toNatClampNeg a1)) (σ ((59 - 36) + 10) (Int32.toNatClampNeg a1)) σ q4
        refine xp_ok htr 2 (d + 2) 0 0 [eC (some (.int v2)) (hM 36 s3 τ)] 120 30 [some (.ref 34), some (.int a1)] [.int a1, .ref ((59 - 36) + 10), .int (σ ((59 - 36) + 9) (Int32.toNatClampNeg a1)), .int (σ ((59 - 36) + 8) (Int32.toNatClampNeg a1)), .ref 35] (hM 36 σ τ) ⟨(xn_in g1), hc, ?_⟩
        show xv l Ω (d + 2) 0 0 120 34 [some (.ref 34), some (.int a1)] [.int v2] (hM 36 s3 τ) r
        exact xp_ok htr 1 (d + 2) 0 0 [] 120 34 [some (.ref 34), some (.int a1)] [.int v2] (hM 36 s3 τ) ⟨trivial, (Eq.symm H)⟩
      · rw [q4] at H; exact False.elim H
/- AccessDesk$Judge.targetOf -/
def g118_132 (p : Nat) (x1 : Int32) (x2 : Int32) (x3 : Int32) (x4 : Int32) (x5 : Int32) (σ : xS) : Option ((Int32 × Int32 × Int32 × Int32 × Int32 × xS) ⊕ xQ) := some (Sum.inl (x1, x2, x3, x4, (x5 + 1), σ))
def g118_18b (p : Nat) (x1 : Int32) (x2 : Int32) (x3 : Int32) (x4 : Int32) (x5 : Int32) (σ : xS) : Option ((Int32 × Int32 × Int32 × Int32 × Int32 × xS) ⊕ xQ) := (bif xn x1 40 then (if (σ ((59 - p) + 6) (Int32.toNatClampNeg x1)) ≤ x5 then some (Sum.inr ((Sum.inl x2, σ))) else (bif xn x5 300 then (if (σ ((59 - p) + 8) (Int32.toNatClampNeg x5)) = 38 then (match g17 x3 x4 σ with | some (Sum.inl v6, s7) => (match g119 x2 v6 s7 with | some (Sum.inl v9, s10) => g118_132 p x1 v9 0 2 x5 s10 | some (Sum.inr v9, s10) => none | none => none) | some (Sum.inr v6, s7) => none | none => none) else (if (σ ((59 - p) + 8) (Int32.toNatClampNeg x5)) = 44 then g118_132 p x1 x2 x3 x4 x5 σ else (if (σ ((59 - p) + 8) (Int32.toNatClampNeg x5)) = 93 then (match g17 x3 x4 σ with | some (Sum.inl v12, s13) => (match g119 x2 v12 s13 with | some (Sum.inl v15, s16) => g118_132 p x1 v15 0 2 x5 s16 | some (Sum.inr v15, s16) => none | none => none) | some (Sum.inr v12, s13) => none | none => none) else (if (σ ((59 - p) + 8) (Int32.toNatClampNeg x5)) = 124 then (match g17 x3 x4 σ with | some (Sum.inl v18, s19) => g118_132 p x1 x2 v18 2 x5 s19 | some (Sum.inr v18, s19) => none | none => none) else (match g120 p x5 σ with | some (Sum.inl v21, s22) => (match g119 x4 v21 s22 with | some (Sum.inl v24, s25) => g118_132 p x1 x2 x3 v24 x5 s25 | some (Sum.inr v24, s25) => none | none => none) | some (Sum.inr v21, s22) => none | none => none))))) else none)) else none)
def g118_18 (p : Nat) (x1 : Int32) (x2 : Int32) (x3 : Int32) (x4 : Int32) (x5 : Int32) (σ : xS) : Option xQ := xlo (fun a : Int32 × Int32 × Int32 × Int32 × Int32 × xS => g118_18b p a.1 a.2.1 a.2.2.1 a.2.2.2.1 a.2.2.2.2.1 a.2.2.2.2.2) 1000 (x1, x2, x3, x4, x5, σ)
def g118 (p : Nat) (a1 : Int32) (σ : xS) : xO := (bif xn a1 40 then g118_18 p a1 2 0 2 (σ ((59 - p) + 5) (Int32.toNatClampNeg a1)) σ else none)
def a118_18 (l : Launch) (Ω : xo_O) (d p : Nat) (τ : Nat → Nat → Int64) (r : xv_R) : Int32 × Int32 × Int32 × Int32 × Int32 × xS → Prop := fun a => xv l Ω (d + 3) 0 0 118 18 [some (.ref 34), some (.int a.1), some (.int a.2.1), some (.int a.2.2.1), some (.int a.2.2.2.1), some (.int a.2.2.2.2.1)] [] (hM p a.2.2.2.2.2 τ) r
theorem g118_132_ok_23 {l : Launch} {Ω : xo_O} (htr : xH l) (d : Nat) (τ : Nat → Nat → Int64) (x1 : Int32) (x2 : Int32) (x3 : Int32) (x4 : Int32) (x5 : Int32) (σ : xS) (r : xv_R) (H : xo (xd (a118_18 l Ω d 23 τ r) (xB false 23 τ r)) (g118_132 23 x1 x2 x3 x4 x5 σ)) : xv l Ω (d + 3) 0 0 118 132 [some (.ref 34), some (.int x1), some (.int x2), some (.int x3), some (.int x4), some (.int x5)] [] (hM 23 σ τ) r := by
  unfold g118_132 at H
  refine xp_ok htr 2 (d + 3) 0 0 [] 118 132 [some (.ref 34), some (.int x1), some (.int x2), some (.int x3), some (.int x4), some (.int x5)] [] (hM 23 σ τ) ?_
  exact xv_sub (L' := [some (.ref 34), some (.int x1), some (.int x2), some (.int x3), some (.int x4), some (.int (x5 + 1))]) ⟨rfl, ⟨rfl, ⟨rfl, ⟨rfl, ⟨rfl, ⟨rfl, trivial⟩⟩⟩⟩⟩⟩ H
theorem g118_18b_ok_23 {l : Launch} {Ω : xo_O} (htr : xH l) (d : Nat) (τ : Nat → Nat → Int64) (x1 : Int32) (x2 : Int32) (x3 : Int32) (x4 : Int32) (x5 : Int32) (σ : xS) (r : xv_R) (H : xo (xd (a118_18 l Ω d 23 τ r) (xB false 23 τ r)) (g118_18b 23 x1 x2 x3 x4 x5 σ)) : xv l Ω (d + 3) 0 0 118 18 [some (.ref 34), some (.int x1), some (.int x2), some (.int x3), some (.int x4), some (.int x5)] [] (hM 23 σ τ) r := by
  unfold g118_18b at H
  cases g2 : xn x1 40 with
  | false => rw [g2, cond_false] at H; exact False.elim H
  | true =>
    rw [g2, cond_true] at H
    by_cases h3 : (σ ((59 - 23) + 6) (Int32.toNatClampNeg x1)) ≤ x5
    · rw [if_pos h3] at H
      refine xp_ok htr 7 (d + 3) 0 0 [eB true] 118 18 [some (.ref 34), some (.int x1), some (.int x2), some (.int x3), some (.int x4), some (.int x5)] [] (hM 23 σ τ) ⟨(xn_in g2), h3, ?_⟩
      show xv l Ω (d + 3) 0 0 118 138 [some (.ref 34), some (.int x1), some (.int x2), some (.int x3), some (.int x4), some (.int x5)] [] (hM 23 σ τ) r
      exact xp_ok htr 2 (d + 3) 0 0 [] 118 138 [some (.ref 34), some (.int x1), some (.int x2), some (.int x3), some (.int x4), some (.int x5)] [] (hM 23 σ τ) ⟨trivial, (Eq.symm H)⟩
    · rw [if_neg h3] at H
      refine xp_ok htr 7 (d + 3) 0 0 [eB false] 118 18 [some (.ref 34), some (.int x1), some (.int x2), some (.int x3), some (.int x4), some (.int x5)] [] (hM 23 σ τ) ⟨(xn_in g2), h3, ?_⟩
      show xv l Ω (d + 3) 0 0 118 32 [some (.ref 34), some (.int x1), some (.int x2), some (.int x3), some (.int x4), some (.int x5)] [] (hM 23 σ τ) r
      cases g4 : xn x5 300 with
      | false => rw [g4, cond_false] at H; exact False.elim H
      | true =>
        rw [g4, cond_true] at H
        by_cases h5_0 : (σ ((59 - 23) + 8) (Int32.toNatClampNeg x5)) = 38
        · rw [if_pos h5_0] at H
          refine xp_ok htr 6 (d + 3) 0 0 [eS (some 38)] 118 32 [some (.ref 34), some (.int x1), some (.int x2), some (.int x3), some (.int x4), some (.int x5)] [] (hM 23 σ τ) ⟨(xn_in g4), h5_0, ?_⟩
          show xv l Ω (d + 3) 0 0 118 100 [some (.ref 34), some (.int x1), some (.int x2), some (.int x3), some (.int x4), some (.int x5)] [] (hM 23 σ τ) r
          cases q8 : g17 x3 x4 σ with
          | none => rw [q8] at H; exact False.elim H
          | some q80 =>
            obtain ⟨v6 | v6, s7⟩ := q80
            · rw [q8] at H; dsimp only at H
              have hc := g17_run (Ω := Ω) htr (d + 2) 23 τ x3 x4 σ q8
              refine xp_ok htr 4 (d + 3) 0 0 [eC (some (.int v6)) (hM 23 s7 τ)] 118 100 [some (.ref 34), some (.int x1), some (.int x2), some (.int x3), some (.int x4), some (.int x5)] [] (hM 23 σ τ) ⟨hc, ?_⟩
              show xv l Ω (d + 3) 0 0 118 107 [some (.ref 34), some (.int x1), some (.int x2), some (.int x3), some (.int x4), some (.int x5)] [.int v6, .int x2] (hM 23 s7 τ) r
              cases q11 : g119 x2 v6 s7 with
              | none => rw [q11] at H; exact False.elim H
              | some q110 =>
                obtain ⟨v9 | v9, s10⟩ := q110
                · rw [q11] at H; dsimp only at H
                  have hc := g119_run (Ω := Ω) htr (d + 2) 23 τ x2 v6 s7 q11
                  refine xp_ok htr 1 (d + 3) 0 0 [eC (some (.int v9)) (hM 23 s10 τ)] 118 107 [some (.ref 34), some (.int x1), some (.int x2), some (.int x3), some (.int x4), some (.int x5)] [.int v6, .int x2] (hM 23 s7 τ) ⟨hc, ?_⟩
                  show xv l Ω (d + 3) 0 0 118 110 [some (.ref 34), some (.int x1), some (.int x2), some (.int x3), some (.int x4), some (.int x5)] [.int v9] (hM 23 s10 τ) r
                  refine xp_ok htr 6 (d + 3) 0 0 [] 118 110 [some (.ref 34), some (.int x1), some (.int x2), some (.int x3), some (.int x4), some (.int x5)] [.int v9] (hM 23 s10 τ) ?_
                  exact xv_sub (L' := [some (.ref 34), some (.int x1), some (.int v9), some (.int 0), some (.int 2), some (.int x5)]) ⟨rfl, ⟨rfl, ⟨rfl, ⟨rfl, ⟨rfl, ⟨rfl, trivial⟩⟩⟩⟩⟩⟩ (g118_132_ok_23 htr d  τ x1 v9 0 2 x5 s10 r H)
                · rw [q11] at H; exact False.elim H
            · rw [q8] at H; exact False.elim H
        rw [if_neg h5_0] at H
        by_cases h5_1 : (σ ((59 - 23) + 8) (Int32.toNatClampNeg x5)) = 44
        · rw [if_pos h5_1] at H
          refine xp_ok htr 6 (d + 3) 0 0 [eS (some 44)] 118 32 [some (.ref 34), some (.int x1), some (.int x2), some (.int x3), some (.int x4), some (.int x5)] [] (hM 23 σ τ) ⟨(xn_in g4), h5_1, ?_⟩
          show xv l Ω (d + 3) 0 0 118 84 [some (.ref 34), some (.int x1), some (.int x2), some (.int x3), some (.int x4), some (.int x5)] [] (hM 23 σ τ) r
          refine xp_ok htr 1 (d + 3) 0 0 [] 118 84 [some (.ref 34), some (.int x1), some (.int x2), some (.int x3), some (.int x4), some (.int x5)] [] (hM 23 σ τ) ?_
          exact xv_sub (L' := [some (.ref 34), some (.int x1), some (.int x2), some (.int x3), some (.int x4), some (.int x5)]) ⟨rfl, ⟨rfl, ⟨rfl, ⟨rfl, ⟨rfl, ⟨rfl, trivial⟩⟩⟩⟩⟩⟩ (g118_132_ok_23 htr d  τ x1 x2 x3 x4 x5 σ r H)
        rw [if_neg h5_1] at H
        by_cases h5_2 : (σ ((59 - 23) + 8) (Int32.toNatClampNeg x5)) = 93
        · rw [if_pos h5_2] at H
          refine xp_ok htr 6 (d + 3) 0 0 [eS (some 93)] 118 32 [some (.ref 34), some (.int x1), some (.int x2), some (.int x3), some (.int x4), some (.int x5)] [] (hM 23 σ τ) ⟨(xn_in g4), h5_2, ?_⟩
          show xv l Ω (d + 3) 0 0 118 100 [some (.ref 34), some (.int x1), some (.int x2), some (.int x3), some (.int x4), some (.int x5)] [] (hM 23 σ τ) r
          cases q14 : g17 x3 x4 σ with
          | none => rw [q14] at H; exact False.elim H
          | some q140 =>
            obtain ⟨v12 | v12, s13⟩ := q140
            · rw [q14] at H; dsimp only at H
              have hc := g17_run (Ω := Ω) htr (d + 2) 23 τ x3 x4 σ q14
              refine xp_ok htr 4 (d + 3) 0 0 [eC (some (.int v12)) (hM 23 s13 τ)] 118 100 [some (.ref 34), some (.int x1), some (.int x2), some (.int x3), some (.int x4), some (.int x5)] [] (hM 23 σ τ) ⟨hc, ?_⟩
              show xv l Ω (d + 3) 0 0 118 107 [some (.ref 34), some (.int x1), some (.int x2), some (.int x3), some (.int x4), some (.int x5)] [.int v12, .int x2] (hM 23 s13 τ) r
              cases q17 : g119 x2 v12 s13 with
              | none => rw [q17] at H; exact False.elim H
              | some q170 =>
                obtain ⟨v15 | v15, s16⟩ := q170
                · rw [q17] at H; dsimp only at H
                  have hc := g119_run (Ω := Ω) htr (d + 2) 23 τ x2 v12 s13 q17
                  refine xp_ok htr 1 (d + 3) 0 0 [eC (some (.int v15)) (hM 23 s16 τ)] 118 107 [some (.ref 34), some (.int x1), some (.int x2), some (.int x3), some (.int x4), some (.int x5)] [.int v12, .int x2] (hM 23 s13 τ) ⟨hc, ?_⟩
                  show xv l Ω (d + 3) 0 0 118 110 [some (.ref 34), some (.int x1), some (.int x2), some (.int x3), some (.int x4), some (.int x5)] [.int v15] (hM 23 s16 τ) r
                  refine xp_ok htr 6 (d + 3) 0 0 [] 118 110 [some (.ref 34), some (.int x1), some (.int x2), some (.int x3), some (.int x4), some (.int x5)] [.int v15] (hM 23 s16 τ) ?_
                  exact xv_sub (L' := [some (.ref 34), some (.int x1), some (.int v15), some (.int 0), some (.int 2), some (.int x5)]) ⟨rfl, ⟨rfl, ⟨rfl, ⟨rfl, ⟨rfl, ⟨rfl, trivial⟩⟩⟩⟩⟩⟩ (g118_132_ok_23 htr d  τ x1 v15 0 2 x5 s16 r H)
                · rw [q17] at H; exact False.elim H
            · rw [q14] at H; exact False.elim H
        rw [if_neg h5_2] at H
        by_cases h5_3 : (σ ((59 - 23) + 8) (Int32.toNatClampNeg x5)) = 124
        · rw [if_pos h5_3] at H
          refine xp_ok htr 6 (d + 3) 0 0 [eS (some 124)] 118 32 [some (.ref 34), some (.int x1), some (.int x2), some (.int x3), some (.int x4), some (.int x5)] [] (hM 23 σ τ) ⟨(xn_in g4), h5_3, ?_⟩
          show xv l Ω (d + 3) 0 0 118 87 [some (.ref 34), some (.int x1), some (.int x2), some (.int x3), some (.int x4), some (.int x5)] [] (hM 23 σ τ) r
          cases q20 : g17 x3 x4 σ with
          | none => rw [q20] at H; exact False.elim H
          | some q200 =>
            obtain ⟨v18 | v18, s19⟩ := q200
            · rw [q20] at H; dsimp only at H
              have hc := g17_run (Ω := Ω) htr (d + 2) 23 τ x3 x4 σ q20
              refine xp_ok htr 3 (d + 3) 0 0 [eC (some (.int v18)) (hM 23 s19 τ)] 118 87 [some (.ref 34), some (.int x1), some (.int x2), some (.int x3), some (.int x4), some (.int x5)] [] (hM 23 σ τ) ⟨hc, ?_⟩
              show xv l Ω (d + 3) 0 0 118 93 [some (.ref 34), some (.int x1), some (.int x2), some (.int x3), some (.int x4), some (.int x5)] [.int v18] (hM 23 s19 τ) r
              refine xp_ok htr 4 (d + 3) 0 0 [] 118 93 [some (.ref 34), some (.int x1), some (.int x2), some (.int x3), some (.int x4), some (.int x5)] [.int v18] (hM 23 s19 τ) ?_
              exact xv_sub (L' := [some (.ref 34), some (.int x1), some (.int x2), some (.int v18), some (.int 2), some (.int x5)]) ⟨rfl, ⟨rfl, ⟨rfl, ⟨rfl, ⟨rfl, ⟨rfl, trivial⟩⟩⟩⟩⟩⟩ (g118_132_ok_23 htr d  τ x1 x2 v18 2 x5 s19 r H)
            · rw [q20] at H; exact False.elim H
        rw [if_neg h5_3] at H
        refine xp_ok htr 6 (d + 3) 0 0 [eS none] 118 32 [some (.ref 34), some (.int x1), some (.int x2), some (.int x3), some (.int x4), some (.int x5)] [] (hM 23 σ τ) ⟨(xn_in g4), ⟨h5_0, h5_1, h5_2, h5_3, trivial⟩, ?_⟩
        show xv l Ω (d + 3) 0 0 118 119 [some (.ref 34), some (.int x1), some (.int x2), some (.int x3), some (.int x4), some (.int x5)] [] (hM 23 σ τ) r
        cases q23 : g120 23 x5 σ with
        | none => rw [q23] at H; exact False.elim H
        | some q230 =>
          obtain ⟨v21 | v21, s22⟩ := q230
          · rw [q23] at H; dsimp only at H
            have hc := g120_run_23 (Ω := Ω) htr d  τ x5 σ q23
            refine xp_ok htr 4 (d + 3) 0 0 [eC (some (.int v21)) (hM 23 s22 τ)] 118 119 [some (.ref 34), some (.int x1), some (.int x2), some (.int x3), some (.int x4), some (.int x5)] [] (hM 23 σ τ) ⟨hc, ?_⟩
            show xv l Ω (d + 3) 0 0 118 127 [some (.ref 34), some (.int x1), some (.int x2), some (.int x3), some (.int x4), some (.int x5)] [.int v21, .int x4] (hM 23 s22 τ) r
            cases q26 : g119 x4 v21 s22 with
            | none => rw [q26] at H; exact False.elim H
            | some q260 =>
              obtain ⟨v24 | v24, s25⟩ := q260
              · rw [q26] at H; dsimp only at H
                have hc := g119_run (Ω := Ω) htr (d + 2) 23 τ x4 v21 s22 q26
                refine xp_ok htr 1 (d + 3) 0 0 [eC (some (.int v24)) (hM 23 s25 τ)] 118 127 [some (.ref 34), some (.int x1), some (.int x2), some (.int x3), some (.int x4), some (.int x5)] [.int v21, .int x4] (hM 23 s22 τ) ⟨hc, ?_⟩
                show xv l Ω (d + 3) 0 0 118 130 [some (.ref 34), some (.int x1), some (.int x2), some (.int x3), some (.int x4), some (.int x5)] [.int v24] (hM 23 s25 τ) r
                refine xp_ok htr 1 (d + 3) 0 0 [] 118 130 [some (.ref 34), some (.int x1), some (.int x2), some (.int x3), some (.int x4), some (.int x5)] [.int v24] (hM 23 s25 τ) ?_
                exact xv_sub (L' := [some (.ref 34), some (.int x1), some (.int x2), some (.int x3), some (.int v24), some (.int x5)]) ⟨rfl, ⟨rfl, ⟨rfl, ⟨rfl, ⟨rfl, ⟨rfl, trivial⟩⟩⟩⟩⟩⟩ (g118_132_ok_23 htr d  τ x1 x2 x3 v24 x5 s25 r H)
              · rw [q26] at H; exact False.elim H
          · rw [q23] at H; exact False.elim H
theorem g118_18_ok_23 {l : Launch} {Ω : xo_O} (htr : xH l) (d : Nat) (τ : Nat → Nat → Int64) (x1 : Int32) (x2 : Int32) (x3 : Int32) (x4 : Int32) (x5 : Int32) (σ : xS) (r : xv_R) (H : xo (xB false 23 τ r) (g118_18 23 x1 x2 x3 x4 x5 σ)) : xv l Ω (d + 3) 0 0 118 18 [some (.ref 34), some (.int x1), some (.int x2), some (.int x3), some (.int x4), some (.int x5)] [] (hM 23 σ τ) r :=
  xlo_ok (A := a118_18 l Ω d 23 τ r) (fun a H => g118_18b_ok_23 htr d  τ a.1 a.2.1 a.2.2.1 a.2.2.2.1 a.2.2.2.2.1 a.2.2.2.2.2 r H) 1000 (x1, x2, x3, x4, x5, σ) H
theorem g118_run_23 {l : Launch} {Ω : xo_O} (htr : xH l) (d : Nat) (τ : Nat → Nat → Int64) (a1 : Int32) (σ : xS) {q : xQ} (hq : g118 23 a1 σ = some q) : xv l Ω (d + 3) 0 0 118 0 (xs_loc (xm_l 118) [.ref 34, .int a1]) [] (hM 23 σ τ) (xq_R false 23 τ q) := by
  have H : xo (xB false 23 τ (xq_R false 23 τ q)) (g118 23 a1 σ) := by rw [hq]; exact rfl
  generalize xq_R false 23 τ q = r at H ⊢
  show xv l Ω (d + 3) 0 0 118 0 [some (.ref 34), some (.int a1), none, none, none, none] [] (hM 23 σ τ) r
  unfold g118 at H
  refine xp_ok htr 8 (d + 3) 0 0 [] 118 0 [some (.ref 34), some (.int a1), none, none, none, none] [] (hM 23 σ τ) ?_
  show xv l Ω (d + 3) 0 0 118 11 [some (.ref 34), some (.int a1), some (.int 2), some (.int 0), some (.int 2), none] [.ref (59 - 23)] (hM 23 σ τ) r
  cases g1 : xn a1 40 with
  | false => rw [g1, cond_false] at H; exact False.elim H
  | true =>
    rw [g1, cond_true] at H
    refine xp_ok htr 4 (d + 3) 0 0 [] 118 11 [some (.ref 34), some (.int a1), some (.int 2), some (.int 0), some (.int 2), none] [.ref (59 - 23)] (hM 23 σ τ) ⟨(xn_in g1), ?_⟩
    exact xv_sub (L' := [some (.ref 34), some (.int a1), some (.int 2), some (.int 0), some (.int 2), some (.int (σ ((59 - 23) + 5) (Int32.toNatClampNeg a1)))]) ⟨rfl, ⟨rfl, ⟨rfl, ⟨rfl, ⟨rfl, ⟨rfl, trivial⟩⟩⟩⟩⟩⟩ (g118_18_ok_23 htr d  τ a1 2 0 2 (σ ((59 - 23) + 5) (Int32.toNatClampNeg a1)) σ r H)
theorem g118_132_ok_36 {l : Launch} {Ω : xo_O} (htr : xH l) (d : Nat) (τ : Nat → Nat → Int64) (x1 : Int32) (x2 : Int32) (x3 : Int32) (x4 : Int32) (x5 : Int32) (σ : xS) (r : xv_R) (H : xo (xd (a118_18 l Ω d 36 τ r) (xB false 36 τ r)) (g118_132 36 x1 x2 x3 x4 x5 σ)) : xv l Ω (d + 3) 0 0 118 132 [some (.ref 34), some (.int x1), some (.int x2), some (.int x3), some (.int x4), some (.int x5)] [] (hM 36 σ τ) r := by
  unfold g118_132 at H
  refine xp_ok htr 2 (d + 3) 0 0 [] 118 132 [some (.ref 34), some (.int x1), some (.int x2), some (.int x3), some (.int x4), some (.int x5)] [] (hM 36 σ τ) ?_
  exact xv_sub (L' := [some (.ref 34), some (.int x1), some (.int x2), some (.int x3), some (.int x4), some (.int (x5 + 1))]) ⟨rfl, ⟨rfl, ⟨rfl, ⟨rfl, ⟨rfl, ⟨rfl, trivial⟩⟩⟩⟩⟩⟩ H
theorem g118_18b_ok_36 {l : Launch} {Ω : xo_O} (htr : xH l) (d : Nat) (τ : Nat → Nat → Int64) (x1 : Int32) (x2 : Int32) (x3 : Int32) (x4 : Int32) (x5 : Int32) (σ : xS) (r : xv_R) (H : xo (xd (a118_18 l Ω d 36 τ r) (xB false 36 τ r)) (g118_18b 36 x1 x2 x3 x4 x5 σ)) : xv l Ω (d + 3) 0 0 118 18 [some (.ref 34), some (.int x1), some (.int x2), some (.int x3), some (.int x4), some (.int x5)] [] (hM 36 σ τ) r := by
  unfold g118_18b at H
  cases g2 : xn x1 40 with
  | false => rw [g2, cond_false] at H; exact False.elim H
  | true =>
    rw [g2, cond_true] at H
    by_cases h3 : (σ ((59 - 36) + 6) (Int32.toNatClampNeg x1)) ≤ x5
    · rw [if_pos h3] at H
      refine xp_ok htr 7 (d + 3) 0 0 [eB true] 118 18 [some (.ref 34), some (.int x1), some (.int x2), some (.int x3), some (.int x4), some (.int x5)] [] (hM 36 σ τ) ⟨(xn_in g2), h3, ?_⟩
      show xv l Ω (d + 3) 0 0 118 138 [some (.ref 34), some (.int x1), some (.int x2), some (.int x3), some (.int x4), some (.int x5)] [] (hM 36 σ τ) r
      exact xp_ok htr 2 (d + 3) 0 0 [] 118 138 [some (.ref 34), some (.int x1), some (.int x2), some (.int x3), some (.int x4), some (.int x5)] [] (hM 36 σ τ) ⟨trivial, (Eq.symm H)⟩
    · rw [if_neg h3] at H
      refine xp_ok htr 7 (d + 3) 0 0 [eB false] 118 18 [some (.ref 34), some (.int x1), some (.int x2), some (.int x3), some (.int x4), some (.int x5)] [] (hM 36 σ τ) ⟨(xn_in g2), h3, ?_⟩
      show xv l Ω (d + 3) 0 0 118 32 [some (.ref 34), some (.int x1), some (.int x2), some (.int x3), some (.int x4), some (.int x5)] [] (hM 36 σ τ) r
      cases g4 : xn x5 300 with
      | false => rw [g4, cond_false] at H; exact False.elim H
      | true =>
        rw [g4, cond_true] at H
        by_cases h5_0 : (σ ((59 - 36) + 8) (Int32.toNatClampNeg x5)) = 38
        · rw [if_pos h5_0] at H
          refine xp_ok htr 6 (d + 3) 0 0 [eS (some 38)] 118 32 [some (.ref 34), some (.int x1), some (.int x2), some (.int x3), some (.int x4), some (.int x5)] [] (hM 36 σ τ) ⟨(xn_in g4), h5_0, ?_⟩
          show xv l Ω (d + 3) 0 0 118 100 [some (.ref 34), some (.int x1), some (.int x2), some (.int x3), some (.int x4), some (.int x5)] [] (hM 36 σ τ) r
          cases q8 : g17 x3 x4 σ with
          | none => rw [q8] at H; exact False.elim H
          | some q80 =>
            obtain ⟨v6 | v6, s7⟩ := q80
            · rw [q8] at H; dsimp only at H
              have hc := g17_run (Ω := Ω) htr (d + 2) 36 τ x3 x4 σ q8
              refine xp_ok htr 4 (d + 3) 0 0 [eC (some (.int v6)) (hM 36 s7 τ)] 118 100 [some (.ref 34), some (.int x1), some (.int x2), some (.int x3), some (.int x4), some (.int x5)] [] (hM 36 σ τ) ⟨hc, ?_⟩
              show xv l Ω (d + 3) 0 0 118 107 [some (.ref 34), some (.int x1), some (.int x2), some (.int x3), some (.int x4), some (.int x5)] [.int v6, .int x2] (hM 36 s7 τ) r
              cases q11 : g119 x2 v6 s7 with
              | none => rw [q11] at H; exact False.elim H
              | some q110 =>
                obtain ⟨v9 | v9, s10⟩ := q110
                · rw [q11] at H; dsimp only at H
                  have hc := g119_run (Ω := Ω) htr (d + 2) 36 τ x2 v6 s7 q11
                  refine xp_ok htr 1 (d + 3) 0 0 [eC (some (.int v9)) (hM 36 s10 τ)] 118 107 [some (.ref 34), some (.int x1), some (.int x2), some (.int x3), some (.int x4), some (.int x5)] [.int v6, .int x2] (hM 36 s7 τ) ⟨hc, ?_⟩
                  show xv l Ω (d + 3) 0 0 118 110 [some (.ref 34), some (.int x1), some (.int x2), some (.int x3), some (.int x4), some (.int x5)] [.int v9] (hM 36 s10 τ) r
                  refine xp_ok htr 6 (d + 3) 0 0 [] 118 110 [some (.ref 34), some (.int x1), some (.int x2), some (.int x3), some (.int x4), some (.int x5)] [.int v9] (hM 36 s10 τ) ?_
                  exact xv_sub (L' := [some (.ref 34), some (.int x1), some (.int v9), some (.int 0), some (.int 2), some (.int x5)]) ⟨rfl, ⟨rfl, ⟨rfl, ⟨rfl, ⟨rfl, ⟨rfl, trivial⟩⟩⟩⟩⟩⟩ (g118_132_ok_36 htr d  τ x1 v9 0 2 x5 s10 r H)
                · rw [q11] at H; exact False.elim H
            · rw [q8] at H; exact False.elim H
        rw [if_neg h5_0] at H
        by_cases h5_1 : (σ ((59 - 36) + 8) (Int32.toNatClampNeg x5)) = 44
        · rw [if_pos h5_1] at H
          refine xp_ok htr 6 (d + 3) 0 0 [eS (some 44)] 118 32 [some (.ref 34), some (.int x1), some (.int x2), some (.int x3), some (.int x4), some (.int x5)] [] (hM 36 σ τ) ⟨(xn_in g4), h5_1, ?_⟩
          show xv l Ω (d + 3) 0 0 118 84 [some (.ref 34), some (.int x1), some (.int x2), some (.int x3), some (.int x4), some (.int x5)] [] (hM 36 σ τ) r
          refine xp_ok htr 1 (d + 3) 0 0 [] 118 84 [some (.ref 34), some (.int x1), some (.int x2), some (.int x3), some (.int x4), some (.int x5)] [] (hM 36 σ τ) ?_
          exact xv_sub (L' := [some (.ref 34), some (.int x1), some (.int x2), some (.int x3), some (.int x4), some (.int x5)]) ⟨rfl, ⟨rfl, ⟨rfl, ⟨rfl, ⟨rfl, ⟨rfl, trivial⟩⟩⟩⟩⟩⟩ (g118_132_ok_36 htr d  τ x1 x2 x3 x4 x5 σ r H)
        rw [if_neg h5_1] at H
        by_cases h5_2 : (σ ((59 - 36) + 8) (Int32.toNatClampNeg x5)) = 93
        · rw [if_pos h5_2] at H
          refine xp_ok htr 6 (d + 3) 0 0 [eS (some 93)] 118 32 [some (.ref 34), some (.int x1), some (.int x2), some (.int x3), some (.int x4), some (.int x5)] [] (hM 36 σ τ) ⟨(xn_in g4), h5_2, ?_⟩
          show xv l Ω (d + 3) 0 0 118 100 [some (.ref 34), some (.int x1), some (.int x2), some (.int x3), some (.int x4), some (.int x5)] [] (hM 36 σ τ) r
          cases q14 : g17 x3 x4 σ with
          | none => rw [q14] at H; exact False.elim H
          | some q140 =>
            obtain ⟨v12 | v12, s13⟩ := q140
            · rw [q14] at H; dsimp only at H
              have hc := g17_run (Ω := Ω) htr (d + 2) 36 τ x3 x4 σ q14
              refine xp_ok htr 4 (d + 3) 0 0 [eC (some (.int v12)) (hM 36 s13 τ)] 118 100 [some (.ref 34), some (.int x1), some (.int x2), some (.int x3), some (.int x4), some (.int x5)] [] (hM 36 σ τ) ⟨hc, ?_⟩
              show xv l Ω (d + 3) 0 0 118 107 [some (.ref 34), some (.int x1), some (.int x2), some (.int x3), some (.int x4), some (.int x5)] [.int v12, .int x2] (hM 36 s13 τ) r
              cases q17 : g119 x2 v12 s13 with
              | none => rw [q17] at H; exact False.elim H
              | some q170 =>
                obtain ⟨v15 | v15, s16⟩ := q170
                · rw [q17] at H; dsimp only at H
                  have hc := g119_run (Ω := Ω) htr (d + 2) 36 τ x2 v12 s13 q17
                  refine xp_ok htr 1 (d + 3) 0 0 [eC (some (.int v15)) (hM 36 s16 τ)] 118 107 [some (.ref 34), some (.int x1), some (.int x2), some (.int x3), some (.int x4), some (.int x5)] [.int v12, .int x2] (hM 36 s13 τ) ⟨hc, ?_⟩
                  show xv l Ω (d + 3) 0 0 118 110 [some (.ref 34), some (.int x1), some (.int x2), some (.int x3), some (.int x4), some (.int x5)] [.int v15] (hM 36 s16 τ) r
                  refine xp_ok htr 6 (d + 3) 0 0 [] 118 110 [some (.ref 34), some (.int x1), some (.int x2), some (.int x3), some (.int x4), some (.int x5)] [.int v15] (hM 36 s16 τ) ?_
                  exact xv_sub (L' := [some (.ref 34), some (.int x1), some (.int v15), some (.int 0), some (.int 2), some (.int x5)]) ⟨rfl, ⟨rfl, ⟨rfl, ⟨rfl, ⟨rfl, ⟨rfl, trivial⟩⟩⟩⟩⟩⟩ (g118_132_ok_36 htr d  τ x1 v15 0 2 x5 s16 r H)
                · rw [q17] at H; exact False.elim H
            · rw [q14] at H; exact False.elim H
        rw [if_neg h5_2] at H
        by_cases h5_3 : (σ ((59 - 36) + 8) (Int32.toNatClampNeg x5)) = 124
        · rw [if_pos h5_3] at H
          refine xp_ok htr 6 (d + 3) 0 0 [eS (some 124)] 118 32 [some (.ref 34), some (.int x1), some (.int x2), some (.int x3), some (.int x4), some (.int x5)] [] (hM 36 σ τ) ⟨(xn_in g4), h5_3, ?_⟩
          show xv l Ω (d + 3) 0 0 118 87 [some (.ref 34), some (.int x1), some (.int x2), some (.int x3), some (.int x4), some (.int x5)] [] (hM 36 σ τ) r
          cases q20 : g17 x3 x4 σ with
          | none => rw [q20] at H; exact False.elim H
          | some q200 =>
            obtain ⟨v18 | v18, s19⟩ := q200
            · rw [q20] at H; dsimp only at H
              have hc := g17_run (Ω := Ω) htr (d + 2) 36 τ x3 x4 σ q20
              refine xp_ok htr 3 (d + 3) 0 0 [eC (some (.int v18)) (hM 36 s19 τ)] 118 87 [some (.ref 34), some (.int x1), some (.int x2), some (.int x3), some (.int x4), some (.int x5)] [] (hM 36 σ τ) ⟨hc, ?_⟩
              show xv l Ω (d + 3) 0 0 118 93 [some (.ref 34), some (.int x1), some (.int x2), some (.int x3), some (.int x4), some (.int x5)] [.int v18] (hM 36 s19 τ) r
              refine xp_ok htr 4 (d + 3) 0 0 [] 118 93 [some (.ref 34), some (.int x1), some (.int x2), some (.int x3), some (.int x4), some (.int x5)] [.int v18] (hM 36 s19 τ) ?_
              exact xv_sub (L' := [some (.ref 34), some (.int x1), some (.int x2), some (.int v18), some (.int 2), some (.int x5)]) ⟨rfl, ⟨rfl, ⟨rfl, ⟨rfl, ⟨rfl, ⟨rfl, trivial⟩⟩⟩⟩⟩⟩ (g118_132_ok_36 htr d  τ x1 x2 v18 2 x5 s19 r H)
            · rw [q20] at H; exact False.elim H
        rw [if_neg h5_3] at H
        refine xp_ok htr 6 (d + 3) 0 0 [eS none] 118 32 [some (.ref 34), some (.int x1), some (.int x2), some (.int x3), some (.int x4), some (.int x5)] [] (hM 36 σ τ) ⟨(xn_in g4), ⟨h5_0, h5_1, h5_2, h5_3, trivial⟩, ?_⟩
        show xv l Ω (d + 3) 0 0 118 119 [some (.ref 34), some (.int x1), some (.int x2), some (.int x3), some (.int x4), some (.int x5)] [] (hM 36 σ τ) r
        cases q23 : g120 36 x5 σ with
        | none => rw [q23] at H; exact False.elim H
        | some q230 =>
          obtain ⟨v21 | v21, s22⟩ := q230
          · rw [q23] at H; dsimp only at H
            have hc := g120_run_36 (Ω := Ω) htr d  τ x5 σ q23
            refine xp_ok htr 4 (d + 3) 0 0 [eC (some (.int v21)) (hM 36 s22 τ)] 118 119 [some (.ref 34), some (.int x1), some (.int x2), some (.int x3), some (.int x4), some (.int x5)] [] (hM 36 σ τ) ⟨hc, ?_⟩
            show xv l Ω (d + 3) 0 0 118 127 [some (.ref 34), some (.int x1), some (.int x2), some (.int x3), some (.int x4), some (.int x5)] [.int v21, .int x4] (hM 36 s22 τ) r
            cases q26 : g119 x4 v21 s22 with
            | none => rw [q26] at H; exact False.elim H
            | some q260 =>
              obtain ⟨v24 | v24, s25⟩ := q260
              · rw [q26] at H; dsimp only at H
                have hc := g119_run (Ω := Ω) htr (d + 2) 36 τ x4 v21 s22 q26
                refine xp_ok htr 1 (d + 3) 0 0 [eC (some (.int v24)) (hM 36 s25 τ)] 118 127 [some (.ref 34), some (.int x1), some (.int x2), some (.int x3), some (.int x4), some (.int x5)] [.int v21, .int x4] (hM 36 s22 τ) ⟨hc, ?_⟩
                show xv l Ω (d + 3) 0 0 118 130 [some (.ref 34), some (.int x1), some (.int x2), some (.int x3), some (.int x4), some (.int x5)] [.int v24] (hM 36 s25 τ) r
                refine xp_ok htr 1 (d + 3) 0 0 [] 118 130 [some (.ref 34), some (.int x1), some (.int x2), some (.int x3), some (.int x4), some (.int x5)] [.int v24] (hM 36 s25 τ) ?_
                exact xv_sub (L' := [some (.ref 34), some (.int x1), some (.int x2), some (.int x3), some (.int v24), some (.int x5)]) ⟨rfl, ⟨rfl, ⟨rfl, ⟨rfl, ⟨rfl, ⟨rfl, trivial⟩⟩⟩⟩⟩⟩ (g118_132_ok_36 htr d  τ x1 x2 x3 v24 x5 s25 r H)
              · rw [q26] at H; exact False.elim H
          · rw [q23] at H; exact False.elim H
theorem g118_18_ok_36 {l : Launch} {Ω : xo_O} (htr : xH l) (d : Nat) (τ : Nat → Nat → Int64) (x1 : Int32) (x2 : Int32) (x3 : Int32) (x4 : Int32) (x5 : Int32) (σ : xS) (r : xv_R) (H : xo (xB false 36 τ r) (g118_18 36 x1 x2 x3 x4 x5 σ)) : xv l Ω (d + 3) 0 0 118 18 [some (.ref 34), some (.int x1), some (.int x2), some (.int x3), some (.int x4), some (.int x5)] [] (hM 36 σ τ) r :=
  xlo_ok (A := a118_18 l Ω d 36 τ r) (fun a H => g118_18b_ok_36 htr d  τ a.1 a.2.1 a.2.2.1 a.2.2.2.1 a.2.2.2.2.1 a.2.2.2.2.2 r H) 1000 (x1, x2, x3, x4, x5, σ) H
theorem g118_run_36 {l : Launch} {Ω : xo_O} (htr : xH l) (d : Nat) (τ : Nat → Nat → Int64) (a1 : Int32) (σ : xS) {q : xQ} (hq : g118 36 a1 σ = some q) : xv l Ω (d + 3) 0 0 118 0 (xs_loc (xm_l 118) [.ref 34, .int a1]) [] (hM 36 σ τ) (xq_R false 36 τ q) := by
  have H : xo (xB false 36 τ (xq_R false 36 τ q)) (g118 36 a1 σ) := by rw [hq]; exact rfl
  generalize xq_R false 36 τ q = r at H ⊢
  show xv l Ω (d + 3) 0 0 118 0 [some (.ref 34), some (.int a1), none, none, none, none] [] (hM 36 σ τ) r
  unfold g118 at H
  refine xp_ok htr 8 (d + 3) 0 0 [] 118 0 [some (.ref 34), some (.int a1), none, none, none, none] [] (hM 36 σ τ) ?_
  show xv l Ω (d + 3) 0 0 118 11 [some (.ref 34), some (.int a1), some (.int 2), some (.int 0), some (.int 2), none] [.ref (59 - 36)] (hM 36 σ τ) r
  cases g1 : xn a1 40 with
  | false => rw [g1, cond_false] at H; exact False.elim H
  | true =>
    rw [g1, cond_true] at H
    refine xp_ok htr 4 (d + 3) 0 0 [] 118 11 [some (.ref 34), some (.int a1), some (.int 2), some (.int 0), some (.int 2), none] [.ref (59 - 36)] (hM 36 σ τ) ⟨(xn_in g1), ?_⟩
    exact xv_sub (L' := [some (.ref 34), some (.int a1), some (.int 2), some (.int 0), some (.int 2), some (.int (σ ((59 - 36) + 5) (Int32.toNatClampNeg a1)))]) ⟨rfl, ⟨rfl, ⟨rfl, ⟨rfl, ⟨rfl, ⟨rfl, trivial⟩⟩⟩⟩⟩⟩ (g118_18_ok_36 htr d  τ a1 2 0 2 (σ ((59 - 36) + 5) (Int32.toNatClampNeg a1)) σ r H)
