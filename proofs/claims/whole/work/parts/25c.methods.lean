/-! the methods as functions: laid by program (wip/whole/dec.py) -/
/- AccessDesk$Reader.readMatch -/
def g96_71 (p : Nat) (x1 : Int32) (x2 : Int32) (σ : xS) : Option xQ := (match g90 ((σ 20 2) + 1) σ with | some (Sum.inl v10, s11) => (match g98 (s11 20 3) s11 with | some (Sum.inl v13, s14) => (if v13 = 0 then some ((Sum.inl 0, s14)) else (match g99 s14 with | some (Sum.inl v17, s18) => (match g100 p x1 x2 v17 s18 with | some (Sum.inl v20, s21) => some ((Sum.inl 1, s21)) | some (Sum.inr v20, s21) => none | none => none) | some (Sum.inr v17, s18) => none | none => none)) | some (Sum.inr v13, s14) => none | none => none) | some (Sum.inr v10, s11) => none | none => none)
def g96_46 (p : Nat) (x1 : Int32) (x2 : Int32) (k0 : Int32) (σ : xS) : Option xQ := (if x2 = 61 then g96_71 p x1 x2 σ else (if k0 = 0 then some ((Sum.inl 0, σ)) else (if x2 = 60 then g96_71 p x1 x2 σ else (if x2 = 62 then g96_71 p x1 x2 σ else some ((Sum.inl 0, σ))))))
def g96_45 (p : Nat) (x1 : Int32) (x2 : Int32) (σ : xS) : Option xQ := g96_46 p x1 x2 0 σ
def g96 (p : Nat)  (σ : xS) : xO := (match g97 (σ 20 3) σ with | some (Sum.inl v1, s2) => (if v1 = 0 then some ((Sum.inl 0, s2)) else (match g90 ((s2 20 2) + 1) s2 with | some (Sum.inl v5, s6) => (if (σ 20 3) = 114 then g96_45 p (σ 20 3) (s6 20 3) s6 else (if (σ 20 3) = 117 then g96_45 p (σ 20 3) (s6 20 3) s6 else g96_46 p (σ 20 3) (s6 20 3) 1 s6)) | some (Sum.inr v5, s6) => none | none => none)) | some (Sum.inr v1, s2) => none | none => none)
theorem g96_71_ok_23 {l : Launch} {Ω : xo_O} (htr : xH l) (d : Nat) (τ : Nat → Nat → Int64) (x1 : Int32) (x2 : Int32) (σ : xS) (r : xv_R) (H : xo (xB false 23 τ r) (g96_71 23 x1 x2 σ)) : xv l Ω (d + 2) 0 0 96 71 [some (.ref 20), some (.int x1), some (.int x2), none] [] (hM 23 σ τ) r := by
  unfold g96_71 at H
  cases q12 : g90 ((σ 20 2) + 1) σ with
  | none => rw [q12] at H; exact False.elim H
  | some q120 =>
    obtain ⟨v10 | v10, s11⟩ := q120
    · rw [q12] at H; dsimp only at H
      have hc := g90_run (Ω := Ω) htr (d + 1) 23 τ ((σ 20 2) + 1) σ q12
      refine xp_ok htr 6 (d + 2) 0 0 [eC none (hM 23 s11 τ)] 96 71 [some (.ref 20), some (.int x1), some (.int x2), none] [] (hM 23 σ τ) ⟨hc, ?_⟩
      show xv l Ω (d + 2) 0 0 96 81 [some (.ref 20), some (.int x1), some (.int x2), none] [] (hM 23 s11 τ) r
      cases q15 : g98 (s11 20 3) s11 with
      | none => rw [q15] at H; exact False.elim H
      | some q150 =>
        obtain ⟨v13 | v13, s14⟩ := q150
        · rw [q15] at H; dsimp only at H
          have hc := g98_run (Ω := Ω) htr (d + 1) 23 τ (s11 20 3) s11 q15
          refine xp_ok htr 3 (d + 2) 0 0 [eC (some (.int v13)) (hM 23 s14 τ)] 96 81 [some (.ref 20), some (.int x1), some (.int x2), none] [] (hM 23 s11 τ) ⟨hc, ?_⟩
          show xv l Ω (d + 2) 0 0 96 88 [some (.ref 20), some (.int x1), some (.int x2), none] [.int v13] (hM 23 s14 τ) r
          by_cases h16 : v13 = 0
          · rw [if_pos h16] at H
            refine xp_ok htr 1 (d + 2) 0 0 [eB false] 96 88 [some (.ref 20), some (.int x1), some (.int x2), none] [.int v13] (hM 23 s14 τ) ⟨h16, ?_⟩
            show xv l Ω (d + 2) 0 0 96 91 [some (.ref 20), some (.int x1), some (.int x2), none] [] (hM 23 s14 τ) r
            exact xp_ok htr 2 (d + 2) 0 0 [] 96 91 [some (.ref 20), some (.int x1), some (.int x2), none] [] (hM 23 s14 τ) ⟨Or.inl rfl, (Eq.symm H)⟩
          · rw [if_neg h16] at H
            refine xp_ok htr 1 (d + 2) 0 0 [eB true] 96 88 [some (.ref 20), some (.int x1), some (.int x2), none] [.int v13] (hM 23 s14 τ) ⟨h16, ?_⟩
            show xv l Ω (d + 2) 0 0 96 93 [some (.ref 20), some (.int x1), some (.int x2), none] [] (hM 23 s14 τ) r
            cases q19 : g99 s14 with
            | none => rw [q19] at H; exact False.elim H
            | some q190 =>
              obtain ⟨v17 | v17, s18⟩ := q190
              · rw [q19] at H; dsimp only at H
                have hc := g99_run (Ω := Ω) htr d 23 τ  s14 q19
                refine xp_ok htr 6 (d + 2) 0 0 [eC (some (.int v17)) (hM 23 s18 τ)] 96 93 [some (.ref 20), some (.int x1), some (.int x2), none] [] (hM 23 s14 τ) ⟨hc, ?_⟩
                show xv l Ω (d + 2) 0 0 96 103 [some (.ref 20), some (.int x1), some (.int x2), none] [.int v17, .int x2, .int x1, .ref 23] (hM 23 s18 τ) r
                cases q22 : g100 23 x1 x2 v17 s18 with
                | none => rw [q22] at H; exact False.elim H
                | some q220 =>
                  obtain ⟨v20 | v20, s21⟩ := q220
                  · rw [q22] at H; dsimp only at H
                    have hc := g100_run_23 (Ω := Ω) htr (d + 1) 23 τ x1 x2 v17 s18 q22
                    refine xp_ok htr 1 (d + 2) 0 0 [eC none (hM 23 s21 τ)] 96 103 [some (.ref 20), some (.int x1), some (.int x2), none] [.int v17, .int x2, .int x1, .ref 23] (hM 23 s18 τ) ⟨hc, ?_⟩
                    show xv l Ω (d + 2) 0 0 96 106 [some (.ref 20), some (.int x1), some (.int x2), none] [] (hM 23 s21 τ) r
                    exact xp_ok htr 2 (d + 2) 0 0 [] 96 106 [some (.ref 20), some (.int x1), some (.int x2), none] [] (hM 23 s21 τ) ⟨Or.inr rfl, (Eq.symm H)⟩
                  · rw [q22] at H; exact False.elim H
              · rw [q19] at H; exact False.elim H
        · rw [q15] at H; exact False.elim H
    · rw [q12] at H; exact False.elim H
theorem g96_46_ok_23 {l : Launch} {Ω : xo_O} (htr : xH l) (d : Nat) (τ : Nat → Nat → Int64) (x1 : Int32) (x2 : Int32) (k0 : Int32) (σ : xS) (r : xv_R) (H : xo (xB false 23 τ r) (g96_46 23 x1 x2 k0 σ)) : xv l Ω (d + 2) 0 0 96 46 [some (.ref 20), some (.int x1), some (.int x2), none] [.int k0] (hM 23 σ τ) r := by
  unfold g96_46 at H
  by_cases h9 : x2 = 61
  · rw [if_pos h9] at H
    refine xp_ok htr 4 (d + 2) 0 0 [eB true] 96 46 [some (.ref 20), some (.int x1), some (.int x2), none] [.int k0] (hM 23 σ τ) ⟨h9, ?_⟩
    show xv l Ω (d + 2) 0 0 96 71 [some (.ref 20), some (.int x1), some (.int x2), some (.int k0)] [] (hM 23 σ τ) r
    exact xv_sub (L' := [some (.ref 20), some (.int x1), some (.int x2), none]) ⟨rfl, ⟨rfl, ⟨rfl, trivial⟩⟩⟩ (g96_71_ok_23 htr d  τ x1 x2 σ r H)
  · rw [if_neg h9] at H
    refine xp_ok htr 4 (d + 2) 0 0 [eB false] 96 46 [some (.ref 20), some (.int x1), some (.int x2), none] [.int k0] (hM 23 σ τ) ⟨h9, ?_⟩
    show xv l Ω (d + 2) 0 0 96 53 [some (.ref 20), some (.int x1), some (.int x2), some (.int k0)] [] (hM 23 σ τ) r
    by_cases h23 : k0 = 0
    · rw [if_pos h23] at H
      refine xp_ok htr 2 (d + 2) 0 0 [eB true] 96 53 [some (.ref 20), some (.int x1), some (.int x2), some (.int k0)] [] (hM 23 σ τ) ⟨h23, ?_⟩
      show xv l Ω (d + 2) 0 0 96 69 [some (.ref 20), some (.int x1), some (.int x2), some (.int k0)] [] (hM 23 σ τ) r
      exact xp_ok htr 2 (d + 2) 0 0 [] 96 69 [some (.ref 20), some (.int x1), some (.int x2), some (.int k0)] [] (hM 23 σ τ) ⟨Or.inl rfl, (Eq.symm H)⟩
    · rw [if_neg h23] at H
      refine xp_ok htr 2 (d + 2) 0 0 [eB false] 96 53 [some (.ref 20), some (.int x1), some (.int x2), some (.int k0)] [] (hM 23 σ τ) ⟨h23, ?_⟩
      show xv l Ω (d + 2) 0 0 96 57 [some (.ref 20), some (.int x1), some (.int x2), some (.int k0)] [] (hM 23 σ τ) r
      by_cases h24 : x2 = 60
      · rw [if_pos h24] at H
        refine xp_ok htr 3 (d + 2) 0 0 [eB true] 96 57 [some (.ref 20), some (.int x1), some (.int x2), some (.int k0)] [] (hM 23 σ τ) ⟨h24, ?_⟩
        show xv l Ω (d + 2) 0 0 96 71 [some (.ref 20), some (.int x1), some (.int x2), some (.int k0)] [] (hM 23 σ τ) r
        exact xv_sub (L' := [some (.ref 20), some (.int x1), some (.int x2), none]) ⟨rfl, ⟨rfl, ⟨rfl, trivial⟩⟩⟩ (g96_71_ok_23 htr d  τ x1 x2 σ r H)
      · rw [if_neg h24] at H
        refine xp_ok htr 3 (d + 2) 0 0 [eB false] 96 57 [some (.ref 20), some (.int x1), some (.int x2), some (.int k0)] [] (hM 23 σ τ) ⟨h24, ?_⟩
        show xv l Ω (d + 2) 0 0 96 63 [some (.ref 20), some (.int x1), some (.int x2), some (.int k0)] [] (hM 23 σ τ) r
        by_cases h25 : x2 = 62
        · rw [if_pos h25] at H
          refine xp_ok htr 3 (d + 2) 0 0 [eB true] 96 63 [some (.ref 20), some (.int x1), some (.int x2), some (.int k0)] [] (hM 23 σ τ) ⟨h25, ?_⟩
          show xv l Ω (d + 2) 0 0 96 71 [some (.ref 20), some (.int x1), some (.int x2), some (.int k0)] [] (hM 23 σ τ) r
          exact xv_sub (L' := [some (.ref 20), some (.int x1), some (.int x2), none]) ⟨rfl, ⟨rfl, ⟨rfl, trivial⟩⟩⟩ (g96_71_ok_23 htr d  τ x1 x2 σ r H)
        · rw [if_neg h25] at H
          refine xp_ok htr 3 (d + 2) 0 0 [eB false] 96 63 [some (.ref 20), some (.int x1), some (.int x2), some (.int k0)] [] (hM 23 σ τ) ⟨h25, ?_⟩
          show xv l Ω (d + 2) 0 0 96 69 [some (.ref 20), some (.int x1), some (.int x2), some (.int k0)] [] (hM 23 σ τ) r
          exact xp_ok htr 2 (d + 2) 0 0 [] 96 69 [some (.ref 20), some (.int x1), some (.int x2), some (.int k0)] [] (hM 23 σ τ) ⟨Or.inl rfl, (Eq.symm H)⟩
theorem g96_45_ok_23 {l : Launch} {Ω : xo_O} (htr : xH l) (d : Nat) (τ : Nat → Nat → Int64) (x1 : Int32) (x2 : Int32) (σ : xS) (r : xv_R) (H : xo (xB false 23 τ r) (g96_45 23 x1 x2 σ)) : xv l Ω (d + 2) 0 0 96 45 [some (.ref 20), some (.int x1), some (.int x2), none] [] (hM 23 σ τ) r := by
  unfold g96_45 at H
  refine xp_ok htr 1 (d + 2) 0 0 [] 96 45 [some (.ref 20), some (.int x1), some (.int x2), none] [] (hM 23 σ τ) ?_
  show xv l Ω (d + 2) 0 0 96 46 [some (.ref 20), some (.int x1), some (.int x2), none] [.int 0] (hM 23 σ τ) r
  exact xv_sub (L' := [some (.ref 20), some (.int x1), some (.int x2), none]) ⟨rfl, ⟨rfl, ⟨rfl, trivial⟩⟩⟩ (g96_46_ok_23 htr d  τ x1 x2 0 σ r H)
theorem g96_run_23 {l : Launch} {Ω : xo_O} (htr : xH l) (d : Nat) (τ : Nat → Nat → Int64)  (σ : xS) {q : xQ} (hq : g96 23  σ = some q) : xv l Ω (d + 2) 0 0 96 0 (xs_loc (xm_l 96) [.ref 20]) [] (hM 23 σ τ) (xq_R false 23 τ q) := by
  have H : xo (xB false 23 τ (xq_R false 23 τ q)) (g96 23  σ) := by rw [hq]; exact rfl
  generalize xq_R false 23 τ q = r at H ⊢
  show xv l Ω (d + 2) 0 0 96 0 [some (.ref 20), none, none, none] [] (hM 23 σ τ) r
  unfold g96 at H
  cases q3 : g97 (σ 20 3) σ with
  | none => rw [q3] at H; exact False.elim H
  | some q30 =>
    obtain ⟨v1 | v1, s2⟩ := q30
    · rw [q3] at H; dsimp only at H
      have hc := g97_run (Ω := Ω) htr (d + 1) 23 τ (σ 20 3) σ q3
      refine xp_ok htr 5 (d + 2) 0 0 [eC (some (.int v1)) (hM 23 s2 τ)] 96 0 [some (.ref 20), none, none, none] [] (hM 23 σ τ) ⟨hc, ?_⟩
      show xv l Ω (d + 2) 0 0 96 9 [some (.ref 20), some (.int (σ 20 3)), none, none] [.int v1] (hM 23 s2 τ) r
      by_cases h4 : v1 = 0
      · rw [if_pos h4] at H
        refine xp_ok htr 1 (d + 2) 0 0 [eB false] 96 9 [some (.ref 20), some (.int (σ 20 3)), none, none] [.int v1] (hM 23 s2 τ) ⟨h4, ?_⟩
        show xv l Ω (d + 2) 0 0 96 12 [some (.ref 20), some (.int (σ 20 3)), none, none] [] (hM 23 s2 τ) r
        exact xp_ok htr 2 (d + 2) 0 0 [] 96 12 [some (.ref 20), some (.int (σ 20 3)), none, none] [] (hM 23 s2 τ) ⟨Or.inl rfl, (Eq.symm H)⟩
      · rw [if_neg h4] at H
        refine xp_ok htr 1 (d + 2) 0 0 [eB true] 96 9 [some (.ref 20), some (.int (σ 20 3)), none, none] [.int v1] (hM 23 s2 τ) ⟨h4, ?_⟩
        show xv l Ω (d + 2) 0 0 96 14 [some (.ref 20), some (.int (σ 20 3)), none, none] [] (hM 23 s2 τ) r
        cases q7 : g90 ((s2 20 2) + 1) s2 with
        | none => rw [q7] at H; exact False.elim H
        | some q70 =>
          obtain ⟨v5 | v5, s6⟩ := q70
          · rw [q7] at H; dsimp only at H
            have hc := g90_run (Ω := Ω) htr (d + 1) 23 τ ((s2 20 2) + 1) s2 q7
            refine xp_ok htr 6 (d + 2) 0 0 [eC none (hM 23 s6 τ)] 96 14 [some (.ref 20), some (.int (σ 20 3)), none, none] [] (hM 23 s2 τ) ⟨hc, ?_⟩
            show xv l Ω (d + 2) 0 0 96 24 [some (.ref 20), some (.int (σ 20 3)), none, none] [] (hM 23 s6 τ) r
            by_cases h8 : (σ 20 3) = 114
            · rw [if_pos h8] at H
              refine xp_ok htr 6 (d + 2) 0 0 [eB true] 96 24 [some (.ref 20), some (.int (σ 20 3)), none, none] [] (hM 23 s6 τ) ⟨h8, ?_⟩
              show xv l Ω (d + 2) 0 0 96 45 [some (.ref 20), some (.int (σ 20 3)), some (.int (s6 20 3)), none] [] (hM 23 s6 τ) r
              exact xv_sub (L' := [some (.ref 20), some (.int (σ 20 3)), some (.int (s6 20 3)), none]) ⟨rfl, ⟨rfl, ⟨rfl, trivial⟩⟩⟩ (g96_45_ok_23 htr d  τ (σ 20 3) (s6 20 3) s6 r H)
            · rw [if_neg h8] at H
              refine xp_ok htr 6 (d + 2) 0 0 [eB false] 96 24 [some (.ref 20), some (.int (σ 20 3)), none, none] [] (hM 23 s6 τ) ⟨h8, ?_⟩
              show xv l Ω (d + 2) 0 0 96 35 [some (.ref 20), some (.int (σ 20 3)), some (.int (s6 20 3)), none] [] (hM 23 s6 τ) r
              by_cases h26 : (σ 20 3) = 117
              · rw [if_pos h26] at H
                refine xp_ok htr 3 (d + 2) 0 0 [eB true] 96 35 [some (.ref 20), some (.int (σ 20 3)), some (.int (s6 20 3)), none] [] (hM 23 s6 τ) ⟨h26, ?_⟩
                show xv l Ω (d + 2) 0 0 96 45 [some (.ref 20), some (.int (σ 20 3)), some (.int (s6 20 3)), none] [] (hM 23 s6 τ) r
                exact xv_sub (L' := [some (.ref 20), some (.int (σ 20 3)), some (.int (s6 20 3)), none]) ⟨rfl, ⟨rfl, ⟨rfl, trivial⟩⟩⟩ (g96_45_ok_23 htr d  τ (σ 20 3) (s6 20 3) s6 r H)
              · rw [if_neg h26] at H
                refine xp_ok htr 3 (d + 2) 0 0 [eB false] 96 35 [some (.ref 20), some (.int (σ 20 3)), some (.int (s6 20 3)), none] [] (hM 23 s6 τ) ⟨h26, ?_⟩
                show xv l Ω (d + 2) 0 0 96 41 [some (.ref 20), some (.int (σ 20 3)), some (.int (s6 20 3)), none] [] (hM 23 s6 τ) r
                refine xp_ok htr 2 (d + 2) 0 0 [] 96 41 [some (.ref 20), some (.int (σ 20 3)), some (.int (s6 20 3)), none] [] (hM 23 s6 τ) ?_
                show xv l Ω (d + 2) 0 0 96 46 [some (.ref 20), some (.int (σ 20 3)), some (.int (s6 20 3)), none] [.int 1] (hM 23 s6 τ) r
                exact xv_sub (L' := [some (.ref 20), some (.int (σ 20 3)), some (.int (s6 20 3)), none]) ⟨rfl, ⟨rfl, ⟨rfl, trivial⟩⟩⟩ (g96_46_ok_23 htr d  τ (σ 20 3) (s6 20 3) 1 s6 r H)
          · rw [q7] at H; exact False.elim H
    · rw [q3] at H; exact False.elim H
theorem g96_71_ok_36 {l : Launch} {Ω : xo_O} (htr : xH l) (d : Nat) (τ : Nat → Nat → Int64) (x1 : Int32) (x2 : Int32) (σ : xS) (r : xv_R) (H : xo (xB false 36 τ r) (g96_71 36 x1 x2 σ)) : xv l Ω (d + 2) 0 0 96 71 [some (.ref 20), some (.int x1), some (.int x2), none] [] (hM 36 σ τ) r := by
  unfold g96_71 at H
  cases q12 : g90 ((σ 20 2) + 1) σ with
  | none => rw [q12] at H; exact False.elim H
  | some q120 =>
    obtain ⟨v10 | v10, s11⟩ := q120
    · rw [q12] at H; dsimp only at H
      have hc := g90_run (Ω := Ω) htr (d + 1) 36 τ ((σ 20 2) + 1) σ q12
      refine xp_ok htr 6 (d + 2) 0 0 [eC none (hM 36 s11 τ)] 96 71 [some (.ref 20), some (.int x1), some (.int x2), none] [] (hM 36 σ τ) ⟨hc, ?_⟩
      show xv l Ω (d + 2) 0 0 96 81 [some (.ref 20), some (.int x1), some (.int x2), none] [] (hM 36 s11 τ) r
      cases q15 : g98 (s11 20 3) s11 with
      | none => rw [q15] at H; exact False.elim H
      | some q150 =>
        obtain ⟨v13 | v13, s14⟩ := q150
        · rw [q15] at H; dsimp only at H
          have hc := g98_run (Ω := Ω) htr (d + 1) 36 τ (s11 20 3) s11 q15
          refine xp_ok htr 3 (d + 2) 0 0 [eC (some (.int v13)) (hM 36 s14 τ)] 96 81 [some (.ref 20), some (.int x1), some (.int x2), none] [] (hM 36 s11 τ) ⟨hc, ?_⟩
          show xv l Ω (d + 2) 0 0 96 88 [some (.ref 20), some (.int x1), some (.int x2), none] [.int v13] (hM 36 s14 τ) r
          by_cases h16 : v13 = 0
          · rw [if_pos h16] at H
            refine xp_ok htr 1 (d + 2) 0 0 [eB false] 96 88 [some (.ref 20), some (.int x1), some (.int x2), none] [.int v13] (hM 36 s14 τ) ⟨h16, ?_⟩
            show xv l Ω (d + 2) 0 0 96 91 [some (.ref 20), some (.int x1), some (.int x2), none] [] (hM 36 s14 τ) r
            exact xp_ok htr 2 (d + 2) 0 0 [] 96 91 [some (.ref 20), some (.int x1), some (.int x2), none] [] (hM 36 s14 τ) ⟨Or.inl rfl, (Eq.symm H)⟩
          · rw [if_neg h16] at H
            refine xp_ok htr 1 (d + 2) 0 0 [eB true] 96 88 [some (.ref 20), some (.int x1), some (.int x2), none] [.int v13] (hM 36 s14 τ) ⟨h16, ?_⟩
            show xv l Ω (d + 2) 0 0 96 93 [some (.ref 20), some (.int x1), some (.int x2), none] [] (hM 36 s14 τ) r
            cases q19 : g99 s14 with
            | none => rw [q19] at H; exact False.elim H
            | some q190 =>
              obtain ⟨v17 | v17, s18⟩ := q190
              · rw [q19] at H; dsimp only at H
                have hc := g99_run (Ω := Ω) htr d 36 τ  s14 q19
                refine xp_ok htr 6 (d + 2) 0 0 [eC (some (.int v17)) (hM 36 s18 τ)] 96 93 [some (.ref 20), some (.int x1), some (.int x2), none] [] (hM 36 s14 τ) ⟨hc, ?_⟩
                show xv l Ω (d + 2) 0 0 96 103 [some (.ref 20), some (.int x1), some (.int x2), none] [.int v17, .int x2, .int x1, .ref 36] (hM 36 s18 τ) r
                cases q22 : g100 36 x1 x2 v17 s18 with
                | none => rw [q22] at H; exact False.elim H
                | some q220 =>
                  obtain ⟨v20 | v20, s21⟩ := q220
                  · rw [q22] at H; dsimp only at H
                    have hc := g100_run_36 (Ω := Ω) htr (d + 1) 36 τ x1 x2 v17 s18 q22
                    refine xp_ok htr 1 (d + 2) 0 0 [eC none (hM 36 s21 τ)] 96 103 [some (.ref 20), some (.int x1), some (.int x2), none] [.int v17, .int x2, .int x1, .ref 36] (hM 36 s18 τ) ⟨hc, ?_⟩
                    show xv l Ω (d + 2) 0 0 96 106 [some (.ref 20), some (.int x1), some (.int x2), none] [] (hM 36 s21 τ) r
                    exact xp_ok htr 2 (d + 2) 0 0 [] 96 106 [some (.ref 20), some (.int x1), some (.int x2), none] [] (hM 36 s21 τ) ⟨Or.inr rfl, (Eq.symm H)⟩
                  · rw [q22] at H; exact False.elim H
              · rw [q19] at H; exact False.elim H
        · rw [q15] at H; exact False.elim H
    · rw [q12] at H; exact False.elim H
theorem g96_46_ok_36 {l : Launch} {Ω : xo_O} (htr : xH l) (d : Nat) (τ : Nat → Nat → Int64) (x1 : Int32) (x2 : Int32) (k0 : Int32) (σ : xS) (r : xv_R) (H : xo (xB false 36 τ r) (g96_46 36 x1 x2 k0 σ)) : xv l Ω (d + 2) 0 0 96 46 [some (.ref 20), some (.int x1), some (.int x2), none] [.int k0] (hM 36 σ τ) r := by
  unfold g96_46 at H
  by_cases h9 : x2 = 61
  · rw [if_pos h9] at H
    refine xp_ok htr 4 (d + 2) 0 0 [eB true] 96 46 [some (.ref 20), some (.int x1), some (.int x2), none] [.int k0] (hM 36 σ τ) ⟨h9, ?_⟩
    show xv l Ω (d + 2) 0 0 96 71 [some (.ref 20), some (.int x1), some (.int x2), some (.int k0)] [] (hM 36 σ τ) r
    exact xv_sub (L' := [some (.ref 20), some (.int x1), some (.int x2), none]) ⟨rfl, ⟨rfl, ⟨rfl, trivial⟩⟩⟩ (g96_71_ok_36 htr d  τ x1 x2 σ r H)
  · rw [if_neg h9] at H
    refine xp_ok htr 4 (d + 2) 0 0 [eB false] 96 46 [some (.ref 20), some (.int x1), some (.int x2), none] [.int k0] (hM 36 σ τ) ⟨h9, ?_⟩
    show xv l Ω (d + 2) 0 0 96 53 [some (.ref 20), some (.int x1), some (.int x2), some (.int k0)] [] (hM 36 σ τ) r
    by_cases h23 : k0 = 0
    · rw [if_pos h23] at H
      refine xp_ok htr 2 (d + 2) 0 0 [eB true] 96 53 [some (.ref 20), some (.int x1), some (.int x2), some (.int k0)] [] (hM 36 σ τ) ⟨h23, ?_⟩
      show xv l Ω (d + 2) 0 0 96 69 [some (.ref 20), some (.int x1), some (.int x2), some (.int k0)] [] (hM 36 σ τ) r
      exact xp_ok htr 2 (d + 2) 0 0 [] 96 69 [some (.ref 20), some (.int x1), some (.int x2), some (.int k0)] [] (hM 36 σ τ) ⟨Or.inl rfl, (Eq.symm H)⟩
    · rw [if_neg h23] at H
      refine xp_ok htr 2 (d + 2) 0 0 [eB false] 96 53 [some (.ref 20), some (.int x1), some (.int x2), some (.int k0)] [] (hM 36 σ τ) ⟨h23, ?_⟩
      show xv l Ω (d + 2) 0 0 96 57 [some (.ref 20), some (.int x1), some (.int x2), some (.int k0)] [] (hM 36 σ τ) r
      by_cases h24 : x2 = 60
      · rw [if_pos h24] at H
        refine xp_ok htr 3 (d + 2) 0 0 [eB true] 96 57 [some (.ref 20), some (.int x1), some (.int x2), some (.int k0)] [] (hM 36 σ τ) ⟨h24, ?_⟩
        show xv l Ω (d + 2) 0 0 96 71 [some (.ref 20), some (.int x1), some (.int x2), some (.int k0)] [] (hM 36 σ τ) r
        exact xv_sub (L' := [some (.ref 20), some (.int x1), some (.int x2), none]) ⟨rfl, ⟨rfl, ⟨rfl, trivial⟩⟩⟩ (g96_71_ok_36 htr d  τ x1 x2 σ r H)
      · rw [if_neg h24] at H
        refine xp_ok htr 3 (d + 2) 0 0 [eB false] 96 57 [some (.ref 20), some (.int x1), some (.int x2), some (.int k0)] [] (hM 36 σ τ) ⟨h24, ?_⟩
        show xv l Ω (d + 2) 0 0 96 63 [some (.ref 20), some (.int x1), some (.int x2), some (.int k0)] [] (hM 36 σ τ) r
        by_cases h25 : x2 = 62
        · rw [if_pos h25] at H
          refine xp_ok htr 3 (d + 2) 0 0 [eB true] 96 63 [some (.ref 20), some (.int x1), some (.int x2), some (.int k0)] [] (hM 36 σ τ) ⟨h25, ?_⟩
          show xv l Ω (d + 2) 0 0 96 71 [some (.ref 20), some (.int x1), some (.int x2), some (.int k0)] [] (hM 36 σ τ) r
          exact xv_sub (L' := [some (.ref 20), some (.int x1), some (.int x2), none]) ⟨rfl, ⟨rfl, ⟨rfl, trivial⟩⟩⟩ (g96_71_ok_36 htr d  τ x1 x2 σ r H)
        · rw [if_neg h25] at H
          refine xp_ok htr 3 (d + 2) 0 0 [eB false] 96 63 [some (.ref 20), some (.int x1), some (.int x2), some (.int k0)] [] (hM 36 σ τ) ⟨h25, ?_⟩
          show xv l Ω (d + 2) 0 0 96 69 [some (.ref 20), some (.int x1), some (.int x2), some (.int k0)] [] (hM 36 σ τ) r
          exact xp_ok htr 2 (d + 2) 0 0 [] 96 69 [some (.ref 20), some (.int x1), some (.int x2), some (.int k0)] [] (hM 36 σ τ) ⟨Or.inl rfl, (Eq.symm H)⟩
theorem g96_45_ok_36 {l : Launch} {Ω : xo_O} (htr : xH l) (d : Nat) (τ : Nat → Nat → Int64) (x1 : Int32) (x2 : Int32) (σ : xS) (r : xv_R) (H : xo (xB false 36 τ r) (g96_45 36 x1 x2 σ)) : xv l Ω (d + 2) 0 0 96 45 [some (.ref 20), some (.int x1), some (.int x2), none] [] (hM 36 σ τ) r := by
  unfold g96_45 at H
  refine xp_ok htr 1 (d + 2) 0 0 [] 96 45 [some (.ref 20), some (.int x1), some (.int x2), none] [] (hM 36 σ τ) ?_
  show xv l Ω (d + 2) 0 0 96 46 [some (.ref 20), some (.int x1), some (.int x2), none] [.int 0] (hM 36 σ τ) r
  exact xv_sub (L' := [some (.ref 20), some (.int x1), some (.int x2), none]) ⟨rfl, ⟨rfl, ⟨rfl, trivial⟩⟩⟩ (g96_46_ok_36 htr d  τ x1 x2 0 σ r H)
theorem g96_run_36 {l : Launch} {Ω : xo_O} (htr : xH l) (d : Nat) (τ : Nat → Nat → Int64)  (σ : xS) {q : xQ} (hq : g96 36  σ = some q) : xv l Ω (d + 2) 0 0 96 0 (xs_loc (xm_l 96) [.ref 20]) [] (hM 36 σ τ) (xq_R false 36 τ q) := by
  have H : xo (xB false 36 τ (xq_R false 36 τ q)) (g96 36  σ) := by rw [hq]; exact rfl
  generalize xq_R false 36 τ q = r at H ⊢
  show xv l Ω (d + 2) 0 0 96 0 [some (.ref 20), none, none, none] [] (hM 36 σ τ) r
  unfold g96 at H
  cases q3 : g97 (σ 20 3) σ with
  | none => rw [q3] at H; exact False.elim H
  | some q30 =>
    obtain ⟨v1 | v1, s2⟩ := q30
    · rw [q3] at H; dsimp only at H
      have hc := g97_run (Ω := Ω) htr (d + 1) 36 τ (σ 20 3) σ q3
      refine xp_ok htr 5 (d + 2) 0 0 [eC (some (.int v1)) (hM 36 s2 τ)] 96 0 [some (.ref 20), none, none, none] [] (hM 36 σ τ) ⟨hc, ?_⟩
      show xv l Ω (d + 2) 0 0 96 9 [some (.ref 20), some (.int (σ 20 3)), none, none] [.int v1] (hM 36 s2 τ) r
      by_cases h4 : v1 = 0
      · rw [if_pos h4] at H
        refine xp_ok htr 1 (d + 2) 0 0 [eB false] 96 9 [some (.ref 20), some (.int (σ 20 3)), none, none] [.int v1] (hM 36 s2 τ) ⟨h4, ?_⟩
        show xv l Ω (d + 2) 0 0 96 12 [some (.ref 20), some (.int (σ 20 3)), none, none] [] (hM 36 s2 τ) r
        exact xp_ok htr 2 (d + 2) 0 0 [] 96 12 [some (.ref 20), some (.int (σ 20 3)), none, none] [] (hM 36 s2 τ) ⟨Or.inl rfl, (Eq.symm H)⟩
      · rw [if_neg h4] at H
        refine xp_ok htr 1 (d + 2) 0 0 [eB true] 96 9 [some (.ref 20), some (.int (σ 20 3)), none, none] [.int v1] (hM 36 s2 τ) ⟨h4, ?_⟩
        show xv l Ω (d + 2) 0 0 96 14 [some (.ref 20), some (.int (σ 20 3)), none, none] [] (hM 36 s2 τ) r
        cases q7 : g90 ((s2 20 2) + 1) s2 with
        | none => rw [q7] at H; exact False.elim H
        | some q70 =>
          obtain ⟨v5 | v5, s6⟩ := q70
          · rw [q7] at H; dsimp only at H
            have hc := g90_run (Ω := Ω) htr (d + 1) 36 τ ((s2 20 2) + 1) s2 q7
            refine xp_ok htr 6 (d + 2) 0 0 [eC none (hM 36 s6 τ)] 96 14 [some (.ref 20), some (.int (σ 20 3)), none, none] [] (hM 36 s2 τ) ⟨hc, ?_⟩
            show xv l Ω (d + 2) 0 0 96 24 [some (.ref 20), some (.int (σ 20 3)), none, none] [] (hM 36 s6 τ) r
            by_cases h8 : (σ 20 3) = 114
            · rw [if_pos h8] at H
              refine xp_ok htr 6 (d + 2) 0 0 [eB true] 96 24 [some (.ref 20), some (.int (σ 20 3)), none, none] [] (hM 36 s6 τ) ⟨h8, ?_⟩
              show xv l Ω (d + 2) 0 0 96 45 [some (.ref 20), some (.int (σ 20 3)), some (.int (s6 20 3)), none] [] (hM 36 s6 τ) r
              exact xv_sub (L' := [some (.ref 20), some (.int (σ 20 3)), some (.int (s6 20 3)), none]) ⟨rfl, ⟨rfl, ⟨rfl, trivial⟩⟩⟩ (g96_45_ok_36 htr d  τ (σ 20 3) (s6 20 3) s6 r H)
            · rw [if_neg h8] at H
              refine xp_ok htr 6 (d + 2) 0 0 [eB false] 96 24 [some (.ref 20), some (.int (σ 20 3)), none, none] [] (hM 36 s6 τ) ⟨h8, ?_⟩
              show xv l Ω (d + 2) 0 0 96 35 [some (.ref 20), some (.int (σ 20 3)), some (.int (s6 20 3)), none] [] (hM 36 s6 τ) r
              by_cases h26 : (σ 20 3) = 117
              · rw [if_pos h26] at H
                refine xp_ok htr 3 (d + 2) 0 0 [eB true] 96 35 [some (.ref 20), some (.int (σ 20 3)), some (.int (s6 20 3)), none] [] (hM 36 s6 τ) ⟨h26, ?_⟩
                show xv l Ω (d + 2) 0 0 96 45 [some (.ref 20), some (.int (σ 20 3)), some (.int (s6 20 3)), none] [] (hM 36 s6 τ) r
                exact xv_sub (L' := [some (.ref 20), some (.int (σ 20 3)), some (.int (s6 20 3)), none]) ⟨rfl, ⟨rfl, ⟨rfl, trivial⟩⟩⟩ (g96_45_ok_36 htr d  τ (σ 20 3) (s6 20 3) s6 r H)
              · rw [if_neg h26] at H
                refine xp_ok htr 3 (d + 2) 0 0 [eB false] 96 35 [some (.ref 20), some (.int (σ 20 3)), some (.int (s6 20 3)), none] [] (hM 36 s6 τ) ⟨h26, ?_⟩
                show xv l Ω (d + 2) 0 0 96 41 [some (.ref 20), some (.int (σ 20 3)), some (.int (s6 20 3)), none] [] (hM 36 s6 τ) r
                refine xp_ok htr 2 (d + 2) 0 0 [] 96 41 [some (.ref 20), some (.int (σ 20 3)), some (.int (s6 20 3)), none] [] (hM 36 s6 τ) ?_
                show xv l Ω (d + 2) 0 0 96 46 [some (.ref 20), some (.int (σ 20 3)), some (.int (s6 20 3)), none] [.int 1] (hM 36 s6 τ) r
                exact xv_sub (L' := [some (.ref 20), some (.int (σ 20 3)), some (.int (s6 20 3)), none]) ⟨rfl, ⟨rfl, ⟨rfl, trivial⟩⟩⟩ (g96_46_ok_36 htr d  τ (σ 20 3) (s6 20 3) 1 s6 r H)
          · rw [q7] at H; exact False.elim H
    · rw [q3] at H; exact False.elim H
/- AccessDesk$Reader.isBehindMatch -/
def g101 (a0 : Int32) (σ : xS) : xO := (if a0 = 44 then some ((Sum.inl 1, σ)) else (if a0 = 124 then some ((Sum.inl 1, σ)) else (if a0 = 38 then some ((Sum.inl 1, σ)) else (if a0 = 93 then some ((Sum.inl 1, σ)) else some ((Sum.inl 0, σ))))))
theorem g101_run {l : Launch} {Ω : xo_O} (htr : xH l) (d : Nat) (p : Nat) (τ : Nat → Nat → Int64) (a0 : Int32) (σ : xS) {q : xQ} (hq : g101 a0 σ = some q) : xv l Ω d 0 0 101 0 (xs_loc (xm_l 101) [.int a0]) [] (hM p σ τ) (xq_R false p τ q) := by
  have H : xo (xB false p τ (xq_R false p τ q)) (g101 a0 σ) := by rw [hq]; exact rfl
  generalize xq_R false p τ q = r at H ⊢
  show xv l Ω d 0 0 101 0 [some (.int a0)] [] (hM p σ τ) r
  unfold g101 at H
  by_cases h1 : a0 = 44
  · rw [if_pos h1] at H
    refine xp_ok htr 3 d 0 0 [eB true] 101 0 [some (.int a0)] [] (hM p σ τ) ⟨h1, ?_⟩
    show xv l Ω d 0 0 101 24 [some (.int a0)] [] (hM p σ τ) r
    exact xp_ok htr 3 d 0 0 [] 101 24 [some (.int a0)] [] (hM p σ τ) ⟨Or.inr rfl, (Eq.symm H)⟩
  · rw [if_neg h1] at H
    refine xp_ok htr 3 d 0 0 [eB false] 101 0 [some (.int a0)] [] (hM p σ τ) ⟨h1, ?_⟩
    show xv l Ω d 0 0 101 6 [some (.int a0)] [] (hM p σ τ) r
    by_cases h2 : a0 = 124
    · rw [if_pos h2] at H
      refine xp_ok htr 3 d 0 0 [eB true] 101 6 [some (.int a0)] [] (hM p σ τ) ⟨h2, ?_⟩
      show xv l Ω d 0 0 101 24 [some (.int a0)] [] (hM p σ τ) r
      exact xp_ok htr 3 d 0 0 [] 101 24 [some (.int a0)] [] (hM p σ τ) ⟨Or.inr rfl, (Eq.symm H)⟩
    · rw [if_neg h2] at H
      refine xp_ok htr 3 d 0 0 [eB false] 101 6 [some (.int a0)] [] (hM p σ τ) ⟨h2, ?_⟩
      show xv l Ω d 0 0 101 12 [some (.int a0)] [] (hM p σ τ) r
      by_cases h3 : a0 = 38
      · rw [if_pos h3] at H
        refine xp_ok htr 3 d 0 0 [eB true] 101 12 [some (.int a0)] [] (hM p σ τ) ⟨h3, ?_⟩
        show xv l Ω d 0 0 101 24 [some (.int a0)] [] (hM p σ τ) r
        exact xp_ok htr 3 d 0 0 [] 101 24 [some (.int a0)] [] (hM p σ τ) ⟨Or.inr rfl, (Eq.symm H)⟩
      · rw [if_neg h3] at H
        refine xp_ok htr 3 d 0 0 [eB false] 101 12 [some (.int a0)] [] (hM p σ τ) ⟨h3, ?_⟩
        show xv l Ω d 0 0 101 18 [some (.int a0)] [] (hM p σ τ) r
        by_cases h4 : a0 = 93
        · rw [if_pos h4] at H
          refine xp_ok htr 3 d 0 0 [eB false] 101 18 [some (.int a0)] [] (hM p σ τ) ⟨h4, ?_⟩
          show xv l Ω d 0 0 101 24 [some (.int a0)] [] (hM p σ τ) r
          exact xp_ok htr 3 d 0 0 [] 101 24 [some (.int a0)] [] (hM p σ τ) ⟨Or.inr rfl, (Eq.symm H)⟩
        · rw [if_neg h4] at H
          refine xp_ok htr 3 d 0 0 [eB true] 101 18 [some (.int a0)] [] (hM p σ τ) ⟨h4, ?_⟩
          show xv l Ω d 0 0 101 28 [some (.int a0)] [] (hM p σ τ) r
          exact xp_ok htr 2 d 0 0 [] 101 28 [some (.int a0)] [] (hM p σ τ) ⟨Or.inl rfl, (Eq.symm H)⟩
/- AccessDesk$Reader.skip -/
def g102 (a1 : Int32) (σ : xS) : xO := (if (σ 20 3) = a1 then (match g90 ((σ 20 2) + 1) σ with | some (Sum.inl v2, s3) => some ((Sum.inl 1, s3)) | some (Sum.inr v2, s3) => none | none => none) else some ((Sum.inl 0, σ)))
theorem g102_run {l : Launch} {Ω : xo_O} (htr : xH l) (d : Nat) (p : Nat) (τ : Nat → Nat → Int64) (a1 : Int32) (σ : xS) {q : xQ} (hq : g102 a1 σ = some q) : xv l Ω (d + 1) 0 0 102 0 (xs_loc (xm_l 102) [.ref 20, .int a1]) [] (hM p σ τ) (xq_R false p τ q) := by
  have H : xo (xB false p τ (xq_R false p τ q)) (g102 a1 σ) := by rw [hq]; exact rfl
  generalize xq_R false p τ q = r at H ⊢
  show xv l Ω (d + 1) 0 0 102 0 [some (.ref 20), some (.int a1)] [] (hM p σ τ) r
  unfold g102 at H
  by_cases h1 : (σ 20 3) = a1
  · rw [if_pos h1] at H
    refine xp_ok htr 4 (d + 1) 0 0 [eB true] 102 0 [some (.ref 20), some (.int a1)] [] (hM p σ τ) ⟨h1, ?_⟩
    show xv l Ω (d + 1) 0 0 102 10 [some (.ref 20), some (.int a1)] [] (hM p σ τ) r
    cases q4 : g90 ((σ 20 2) + 1) σ with
    | none => rw [q4] at H; exact False.elim H
    | some q40 =>
      obtain ⟨v2 | v2, s3⟩ := q40
      · rw [q4] at H; dsimp only at H
        have hc := g90_run (Ω := Ω) htr d p τ ((σ 20 2) + 1) σ q4
        refine xp_ok htr 6 (d + 1) 0 0 [eC none (hM p s3 τ)] 102 10 [some (.ref 20), some (.int a1)] [] (hM p σ τ) ⟨hc, ?_⟩
        show xv l Ω (d + 1) 0 0 102 20 [some (.ref 20), some (.int a1)] [] (hM p s3 τ) r
        exact xp_ok htr 2 (d + 1) 0 0 [] 102 20 [some (.ref 20), some (.int a1)] [] (hM p s3 τ) ⟨Or.inr rfl, (Eq.symm H)⟩
      · rw [q4] at H; exact False.elim H
  · rw [if_neg h1] at H
    refine xp_ok htr 4 (d + 1) 0 0 [eB false] 102 0 [some (.ref 20), some (.int a1)] [] (hM p σ τ) ⟨h1, ?_⟩
    show xv l Ω (d + 1) 0 0 102 8 [some (.ref 20), some (.int a1)] [] (hM p σ τ) r
    exact xp_ok htr 2 (d + 1) 0 0 [] 102 8 [some (.ref 20), some (.int a1)] [] (hM p σ τ) ⟨Or.inl rfl, (Eq.symm H)⟩
/- AccessDesk$Reader.readTarget -/
def g95_91 (p : Nat) (x1 : Int32) (σ : xS) : Option xQ := (bif xn x1 40 then some ((Sum.inl 1, (xh_ui σ (p + 6) (Int32.toNatClampNeg x1) (σ p 11)))) else none)
def g95_84 (p : Nat) (x1 : Int32) (x3 : Int32) (k0 : Int32) (σ : xS) : Option ((Int32 × Int32 × Int32 × xS) ⊕ xQ) := some (Sum.inl (x1, k0, (x3 + 1), σ))
def g95_17b (p : Nat) (x1 : Int32) (x2 : Int32) (x3 : Int32) (σ : xS) : Option ((Int32 × Int32 × Int32 × xS) ⊕ xQ) := (if 300 ≤ x3 then Option.map Sum.inr (g95_91 p x1 σ) else (if x2 = 0 then Option.map Sum.inr (g95_91 p x1 σ) else (match g90 ((σ 20 2) + 1) σ with | some (Sum.inl v5, s6) => (match g96 p s6 with | some (Sum.inl v8, s9) => (if v8 = 0 then some (Sum.inr ((Sum.inl 0, s9))) else (match g101 (s9 20 3) s9 with | some (Sum.inl v12, s13) => (if v12 = 0 then some (Sum.inr ((Sum.inl 0, s13))) else (match g100 p (s13 20 3) 0 0 s13 with | some (Sum.inl v16, s17) => (match g102 93 s17 with | some (Sum.inl v19, s20) => (if v19 = 0 then g95_84 p x1 x3 1 s20 else g95_84 p x1 x3 0 s20) | some (Sum.inr v19, s20) => none | none => none) | some (Sum.inr v16, s17) => none | none => none)) | some (Sum.inr v12, s13) => none | none => none)) | some (Sum.inr v8, s9) => none | none => none) | some (Sum.inr v5, s6) => none | none => none)))
def g95_17 (p : Nat) (x1 : Int32) (x2 : Int32) (x3 : Int32) (σ : xS) : Option xQ := xlo (fun a : Int32 × Int32 × Int32 × xS => g95_17b p a.1 a.2.1 a.2.2.1 a.2.2.2) 1000 (x1, x2, x3, σ)
def g95_14 (p : Nat) (x1 : Int32) (k0 : Int32) (σ : xS) : Option xQ := g95_17 p x1 k0 0 σ
def g95 (p : Nat) (a1 : Int32) (σ : xS) : xO := (if (σ 20 3) = 91 then g95_14 p a1 1 σ else g95_14 p a1 0 σ)
def a95_17 (l : Launch) (Ω : xo_O) (d p : Nat) (τ : Nat → Nat → Int64) (r : xv_R) : Int32 × Int32 × Int32 × xS → Prop := fun a => xv l Ω (d + 3) 0 0 95 17 [some (.ref 20), some (.int a.1), some (.int a.2.1), some (.int a.2.2.1)] [] (hM p a.2.2.2 τ) r
theorem g95_91_ok_23 {l : Launch} {Ω : xo_O} (htr : xH l) (d : Nat) (τ : Nat → Nat → Int64) (x1 : Int32) (σ : xS) (r : xv_R) (H : xo (xB false 23 τ r) (g95_91 23 x1 σ)) : xv l Ω (d + 3) 0 0 95 91 [some (.ref 20), some (.int x1), none, none] [] (hM 23 σ τ) r := by
  unfold g95_91 at H
  cases g3 : xn x1 40 with
  | false => rw [g3, cond_false] at H; exact False.elim H
  | true =>
    rw [g3, cond_true] at H
    refine xp_ok htr 8 (d + 3) 0 0 [] 95 91 [some (.ref 20), some (.int x1), none, none] [] (hM 23 σ τ) ⟨(xn_in g3), ?_⟩
    show xv l Ω (d + 3) 0 0 95 107 [some (.ref 20), some (.int x1), none, none] [] (hM 23 (xh_ui σ (23 + 6) (Int32.toNatClampNeg x1) (σ 23 11)) τ) r
    exact xp_ok htr 2 (d + 3) 0 0 [] 95 107 [some (.ref 20), some (.int x1), none, none] [] (hM 23 (xh_ui σ (23 + 6) (Int32.toNatClampNeg x1) (σ 23 11)) τ) ⟨Or.inr rfl, (Eq.symm H)⟩
theorem g95_84_ok_23 {l : Launch} {Ω : xo_O} (htr : xH l) (d : Nat) (τ : Nat → Nat → Int64) (x1 : Int32) (x3 : Int32) (k0 : Int32) (σ : xS) (r : xv_R) (H : xo (xd (a95_17 l Ω d 23 τ r) (xB false 23 τ r)) (g95_84 23 x1 x3 k0 σ)) : xv l Ω (d + 3) 0 0 95 84 [some (.ref 20), some (.int x1), none, some (.int x3)] [.int k0] (hM 23 σ τ) r := by
  unfold g95_84 at H
  refine xp_ok htr 3 (d + 3) 0 0 [] 95 84 [some (.ref 20), some (.int x1), none, some (.int x3)] [.int k0] (hM 23 σ τ) ?_
  show xv l Ω (d + 3) 0 0 95 17 [some (.ref 20), some (.int x1), some (.int k0), some (.int (x3 + 1))] [] (hM 23 σ τ) r
  exact xv_sub (L' := [some (.ref 20), some (.int x1), some (.int k0), some (.int (x3 + 1))]) ⟨rfl, ⟨rfl, ⟨rfl, ⟨rfl, trivial⟩⟩⟩⟩ H
theorem g95_17b_ok_23 {l : Launch} {Ω : xo_O} (htr : xH l) (d : Nat) (τ : Nat → Nat → Int64) (x1 : Int32) (x2 : Int32) (x3 : Int32) (σ : xS) (r : xv_R) (H : xo (xd (a95_17 l Ω d 23 τ r) (xB false 23 τ r)) (g95_17b 23 x1 x2 x3 σ)) : xv l Ω (d + 3) 0 0 95 17 [some (.ref 20), some (.int x1), some (.int x2), some (.int x3)] [] (hM 23 σ τ) r := by
  unfold g95_17b at H
  by_cases h2 : 300 ≤ x3
  · rw [if_pos h2] at H
    refine xp_ok htr 3 (d + 3) 0 0 [eB true] 95 17 [some (.ref 20), some (.int x1), some (.int x2), some (.int x3)] [] (hM 23 σ τ) ⟨h2, ?_⟩
    show xv l Ω (d + 3) 0 0 95 91 [some (.ref 20), some (.int x1), some (.int x2), some (.int x3)] [] (hM 23 σ τ) r
    exact xv_sub (L' := [some (.ref 20), some (.int x1), none, none]) ⟨rfl, ⟨rfl, trivial⟩⟩ (g95_91_ok_23 htr d  τ x1 σ r (xo_map H))
  · rw [if_neg h2] at H
    refine xp_ok htr 3 (d + 3) 0 0 [eB false] 95 17 [some (.ref 20), some (.int x1), some (.int x2), some (.int x3)] [] (hM 23 σ τ) ⟨h2, ?_⟩
    show xv l Ω (d + 3) 0 0 95 24 [some (.ref 20), some (.int x1), some (.int x2), some (.int x3)] [] (hM 23 σ τ) r
    by_cases h4 : x2 = 0
    · rw [if_pos h4] at H
      refine xp_ok htr 2 (d + 3) 0 0 [eB true] 95 24 [some (.ref 20), some (.int x1), some (.int x2), some (.int x3)] [] (hM 23 σ τ) ⟨h4, ?_⟩
      show xv l Ω (d + 3) 0 0 95 91 [some (.ref 20), some (.int x1), some (.int x2), some (.int x3)] [] (hM 23 σ τ) r
      exact xv_sub (L' := [some (.ref 20), some (.int x1), none, none]) ⟨rfl, ⟨rfl, trivial⟩⟩ (g95_91_ok_23 htr d  τ x1 σ r (xo_map H))
    · rw [if_neg h4] at H
      refine xp_ok htr 2 (d + 3) 0 0 [eB false] 95 24 [some (.ref 20), some (.int x1), some (.int x2), some (.int x3)] [] (hM 23 σ τ) ⟨h4, ?_⟩
      show xv l Ω (d + 3) 0 0 95 28 [some (.ref 20), some (.int x1), some (.int x2), some (.int x3)] [] (hM 23 σ τ) r
      cases q7 : g90 ((σ 20 2) + 1) σ with
      | none => rw [q7] at H; exact False.elim H
      | some q70 =>
        obtain ⟨v5 | v5, s6⟩ := q70
        · rw [q7] at H; dsimp only at H
          have hc := g90_run (Ω := Ω) htr (d + 2) 23 τ ((σ 20 2) + 1) σ q7
          refine xp_ok htr 6 (d + 3) 0 0 [eC none (hM 23 s6 τ)] 95 28 [some (.ref 20), some (.int x1), some (.int x2), some (.int x3)] [] (hM 23 σ τ) ⟨hc, ?_⟩
          show xv l Ω (d + 3) 0 0 95 38 [some (.ref 20), some (.int x1), some (.int x2), some (.int x3)] [] (hM 23 s6 τ) r
          cases q10 : g96 23 s6 with
          | none => rw [q10] at H; exact False.elim H
          | some q100 =>
            obtain ⟨v8 | v8, s9⟩ := q100
            · rw [q10] at H; dsimp only at H
              have hc := g96_run_23 (Ω := Ω) htr d  τ  s6 q10
              refine xp_ok htr 2 (d + 3) 0 0 [eC (some (.int v8)) (hM 23 s9 τ)] 95 38 [some (.ref 20), some (.int x1), some (.int x2), some (.int x3)] [] (hM 23 s6 τ) ⟨hc, ?_⟩
              show xv l Ω (d + 3) 0 0 95 42 [some (.ref 20), some (.int x1), some (.int x2), some (.int x3)] [.int v8] (hM 23 s9 τ) r
              by_cases h11 : v8 = 0
              · rw [if_pos h11] at H
                refine xp_ok htr 1 (d + 3) 0 0 [eB true] 95 42 [some (.ref 20), some (.int x1), some (.int x2), some (.int x3)] [.int v8] (hM 23 s9 τ) ⟨h11, ?_⟩
                show xv l Ω (d + 3) 0 0 95 55 [some (.ref 20), some (.int x1), some (.int x2), some (.int x3)] [] (hM 23 s9 τ) r
                exact xp_ok htr 2 (d + 3) 0 0 [] 95 55 [some (.ref 20), some (.int x1), some (.int x2), some (.int x3)] [] (hM 23 s9 τ) ⟨Or.inl rfl, (Eq.symm H)⟩
              · rw [if_neg h11] at H
                refine xp_ok htr 1 (d + 3) 0 0 [eB false] 95 42 [some (.ref 20), some (.int x1), some (.int x2), some (.int x3)] [.int v8] (hM 23 s9 τ) ⟨h11, ?_⟩
                show xv l Ω (d + 3) 0 0 95 45 [some (.ref 20), some (.int x1), some (.int x2), some (.int x3)] [] (hM 23 s9 τ) r
                cases q14 : g101 (s9 20 3) s9 with
                | none => rw [q14] at H; exact False.elim H
                | some q140 =>
                  obtain ⟨v12 | v12, s13⟩ := q140
                  · rw [q14] at H; dsimp only at H
                    have hc := g101_run (Ω := Ω) htr (d + 2) 23 τ (s9 20 3) s9 q14
                    refine xp_ok htr 3 (d + 3) 0 0 [eC (some (.int v12)) (hM 23 s13 τ)] 95 45 [some (.ref 20), some (.int x1), some (.int x2), some (.int x3)] [] (hM 23 s9 τ) ⟨hc, ?_⟩
                    show xv l Ω (d + 3) 0 0 95 52 [some (.ref 20), some (.int x1), some (.int x2), some (.int x3)] [.int v12] (hM 23 s13 τ) r
                    by_cases h15 : v12 = 0
                    · rw [if_pos h15] at H
                      refine xp_ok htr 1 (d + 3) 0 0 [eB false] 95 52 [some (.ref 20), some (.int x1), some (.int x2), some (.int x3)] [.int v12] (hM 23 s13 τ) ⟨h15, ?_⟩
                      show xv l Ω (d + 3) 0 0 95 55 [some (.ref 20), some (.int x1), some (.int x2), some (.int x3)] [] (hM 23 s13 τ) r
                      exact xp_ok htr 2 (d + 3) 0 0 [] 95 55 [some (.ref 20), some (.int x1), some (.int x2), some (.int x3)] [] (hM 23 s13 τ) ⟨Or.inl rfl, (Eq.symm H)⟩
                    · rw [if_neg h15] at H
                      refine xp_ok htr 1 (d + 3) 0 0 [eB true] 95 52 [some (.ref 20), some (.int x1), some (.int x2), some (.int x3)] [.int v12] (hM 23 s13 τ) ⟨h15, ?_⟩
                      show xv l Ω (d + 3) 0 0 95 57 [some (.ref 20), some (.int x1), some (.int x2), some (.int x3)] [] (hM 23 s13 τ) r
                      cases q18 : g100 23 (s13 20 3) 0 0 s13 with
                      | none => rw [q18] at H; exact False.elim H
                      | some q180 =>
                        obtain ⟨v16 | v16, s17⟩ := q180
                        · rw [q18] at H; dsimp only at H
                          have hc := g100_run_23 (Ω := Ω) htr (d + 2) 23 τ (s13 20 3) 0 0 s13 q18
                          refine xp_ok htr 7 (d + 3) 0 0 [eC none (hM 23 s17 τ)] 95 57 [some (.ref 20), some (.int x1), some (.int x2), some (.int x3)] [] (hM 23 s13 τ) ⟨hc, ?_⟩
                          show xv l Ω (d + 3) 0 0 95 70 [some (.ref 20), some (.int x1), some (.int x2), some (.int x3)] [] (hM 23 s17 τ) r
                          cases q21 : g102 93 s17 with
                          | none => rw [q21] at H; exact False.elim H
                          | some q210 =>
                            obtain ⟨v19 | v19, s20⟩ := q210
                            · rw [q21] at H; dsimp only at H
                              have hc := g102_run (Ω := Ω) htr (d + 1) 23 τ 93 s17 q21
                              refine xp_ok htr 3 (d + 3) 0 0 [eC (some (.int v19)) (hM 23 s20 τ)] 95 70 [some (.ref 20), some (.int x1), some (.int x2), some (.int x3)] [] (hM 23 s17 τ) ⟨hc, ?_⟩
                              show xv l Ω (d + 3) 0 0 95 76 [some (.ref 20), some (.int x1), some (.int x2), some (.int x3)] [.int v19] (hM 23 s20 τ) r
                              by_cases h22 : v19 = 0
                              · rw [if_pos h22] at H
                                refine xp_ok htr 1 (d + 3) 0 0 [eB false] 95 76 [some (.ref 20), some (.int x1), some (.int x2), some (.int x3)] [.int v19] (hM 23 s20 τ) ⟨h22, ?_⟩
                                show xv l Ω (d + 3) 0 0 95 79 [some (.ref 20), some (.int x1), some (.int x2), some (.int x3)] [] (hM 23 s20 τ) r
                                refine xp_ok htr 2 (d + 3) 0 0 [] 95 79 [some (.ref 20), some (.int x1), some (.int x2), some (.int x3)] [] (hM 23 s20 τ) ?_
                                show xv l Ω (d + 3) 0 0 95 84 [some (.ref 20), some (.int x1), some (.int x2), some (.int x3)] [.int 1] (hM 23 s20 τ) r
                                exact xv_sub (L' := [some (.ref 20), some (.int x1), none, some (.int x3)]) ⟨rfl, ⟨rfl, ⟨rfl, trivial⟩⟩⟩ (g95_84_ok_23 htr d  τ x1 x3 1 s20 r H)
                              · rw [if_neg h22] at H
                                refine xp_ok htr 1 (d + 3) 0 0 [eB true] 95 76 [some (.ref 20), some (.int x1), some (.int x2), some (.int x3)] [.int v19] (hM 23 s20 τ) ⟨h22, ?_⟩
                                show xv l Ω (d + 3) 0 0 95 83 [some (.ref 20), some (.int x1), some (.int x2), some (.int x3)] [] (hM 23 s20 τ) r
                                refine xp_ok htr 1 (d + 3) 0 0 [] 95 83 [some (.ref 20), some (.int x1), some (.int x2), some (.int x3)] [] (hM 23 s20 τ) ?_
                                show xv l Ω (d + 3) 0 0 95 84 [some (.ref 20), some (.int x1), some (.int x2), some (.int x3)] [.int 0] (hM 23 s20 τ) r
                                exact xv_sub (L' := [some (.ref 20), some (.int x1), none, some (.int x3)]) ⟨rfl, ⟨rfl, ⟨rfl, trivial⟩⟩⟩ (g95_84_ok_23 htr d  τ x1 x3 0 s20 r H)
                            · rw [q21] at H; exact False.elim H
                        · rw [q18] at H; exact False.elim H
                  · rw [q14] at H; exact False.elim H
            · rw [q10] at H; exact False.elim H
        · rw [q7] at H; exact False.elim H
theorem g95_17_ok_23 {l : Launch} {Ω : xo_O} (htr : xH l) (d : Nat) (τ : Nat → Nat → Int64) (x1 : Int32) (x2 : Int32) (x3 : Int32) (σ : xS) (r : xv_R) (H : xo (xB false 23 τ r) (g95_17 23 x1 x2 x3 σ)) : xv l Ω (d + 3) 0 0 95 17 [some (.ref 20), some (.int x1), some (.int x2), some (.int x3)] [] (hM 23 σ τ) r :=
  xlo_ok (A := a95_17 l Ω d 23 τ r) (fun a H => g95_17b_ok_23 htr d  τ a.1 a.2.1 a.2.2.1 a.2.2.2 r H) 1000 (x1, x2, x3, σ) H
theorem g95_14_ok_23 {l : Launch} {Ω : xo_O} (htr : xH l) (d : Nat) (τ : Nat → Nat → Int64) (x1 : Int32) (k0 : Int32) (σ : xS) (r : xv_R) (H : xo (xB false 23 τ r) (g95_14 23 x1 k0 σ)) : xv l Ω (d + 3) 0 0 95 14 [some (.ref 20), some (.int x1), none, none] [.int k0] (hM 23 σ τ) r := by
  unfold g95_14 at H
  refine xp_ok htr 3 (d + 3) 0 0 [] 95 14 [some (.ref 20), some (.int x1), none, none] [.int k0] (hM 23 σ τ) ?_
  show xv l Ω (d + 3) 0 0 95 17 [some (.ref 20), some (.int x1), some (.int k0), some (.int 0)] [] (hM 23 σ τ) r
  exact xv_sub (L' := [some (.ref 20), some (.int x1), some (.int k0), some (.int 0)]) ⟨rfl, ⟨rfl, ⟨rfl, ⟨rfl, trivial⟩⟩⟩⟩ (g95_17_ok_23 htr d  τ x1 k0 0 σ r H)
theorem g95_run_23 {l : Launch} {Ω : xo_O} (htr : xH l) (d : Nat) (τ : Nat → Nat → Int64) (a1 : Int32) (σ : xS) {q : xQ} (hq : g95 23 a1 σ = some q) : xv l Ω (d + 3) 0 0 95 0 (xs_loc (xm_l 95) [.ref 20, .int a1]) [] (hM 23 σ τ) (xq_R false 23 τ q) := by
  have H : xo (xB false 23 τ (xq_R false 23 τ q)) (g95 23 a1 σ) := by rw [hq]; exact rfl
  generalize xq_R false 23 τ q = r at H ⊢
  show xv l Ω (d + 3) 0 0 95 0 [some (.ref 20), some (.int a1), none, none] [] (hM 23 σ τ) r
  unfold g95 at H
  by_cases h1 : (σ 20 3) = 91
  · rw [if_pos h1] at H
    refine xp_ok htr 4 (d + 3) 0 0 [eB false] 95 0 [some (.ref 20), some (.int a1), none, none] [] (hM 23 σ τ) ⟨h1, ?_⟩
    show xv l Ω (d + 3) 0 0 95 9 [some (.ref 20), some (.int a1), none, none] [] (hM 23 σ τ) r
    refine xp_ok htr 2 (d + 3) 0 0 [] 95 9 [some (.ref 20), some (.int a1), none, none] [] (hM 23 σ τ) ?_
    show xv l Ω (d + 3) 0 0 95 14 [some (.ref 20), some (.int a1), none, none] [.int 1] (hM 23 σ τ) r
    exact xv_sub (L' := [some (.ref 20), some (.int a1), none, none]) ⟨rfl, ⟨rfl, trivial⟩⟩ (g95_14_ok_23 htr d  τ a1 1 σ r H)
  · rw [if_neg h1] at H
    refine xp_ok htr 4 (d + 3) 0 0 [eB true] 95 0 [some (.ref 20), some (.int a1), none, none] [] (hM 23 σ τ) ⟨h1, ?_⟩
    show xv l Ω (d + 3) 0 0 95 13 [some (.ref 20), some (.int a1), none, none] [] (hM 23 σ τ) r
    refine xp_ok htr 1 (d + 3) 0 0 [] 95 13 [some (.ref 20), some (.int a1), none, none] [] (hM 23 σ τ) ?_
    show xv l Ω (d + 3) 0 0 95 14 [some (.ref 20), some (.int a1), none, none] [.int 0] (hM 23 σ τ) r
    exact xv_sub (L' := [some (.ref 20), some (.int a1), none, none]) ⟨rfl, ⟨rfl, trivial⟩⟩ (g95_14_ok_23 htr d  τ a1 0 σ r H)
theorem g95_91_ok_36 {l : Launch} {Ω : xo_O} (htr : xH l) (d : Nat) (τ : Nat → Nat → Int64) (x1 : Int32) (σ : xS) (r : xv_R) (H : xo (xB false 36 τ r) (g95_91 36 x1 σ)) : xv l Ω (d + 3) 0 0 95 91 [some (.ref 20), some (.int x1), none, none] [] (hM 36 σ τ) r := by
  unfold g95_91 at H
  cases g3 : xn x1 40 with
  | false => rw [g3, cond_false] at H; exact False.elim H
  | true =>
    rw [g3, cond_true] at H
    refine xp_ok htr 8 (d + 3) 0 0 [] 95 91 [some (.ref 20), some (.int x1), none, none] [] (hM 36 σ τ) ⟨(xn_in g3), ?_⟩
    show xv l Ω (d + 3) 0 0 95 107 [some (.ref 20), some (.int x1), none, none] [] (hM 36 (xh_ui σ (36 + 6) (Int32.toNatClampNeg x1) (σ 36 11)) τ) r
    exact xp_ok htr 2 (d + 3) 0 0 [] 95 107 [some (.ref 20), some (.int x1), none, none] [] (hM 36 (xh_ui σ (36 + 6) (Int32.toNatClampNeg x1) (σ 36 11)) τ) ⟨Or.inr rfl, (Eq.symm H)⟩
theorem g95_84_ok_36 {l : Launch} {Ω : xo_O} (htr : xH l) (d : Nat) (τ : Nat → Nat → Int64) (x1 : Int32) (x3 : Int32) (k0 : Int32) (σ : xS) (r : xv_R) (H : xo (xd (a95_17 l Ω d 36 τ r) (xB false 36 τ r)) (g95_84 36 x1 x3 k0 σ)) : xv l Ω (d + 3) 0 0 95 84 [some (.ref 20), some (.int x1), none, some (.int x3)] [.int k0] (hM 36 σ τ) r := by
  unfold g95_84 at H
  refine xp_ok htr 3 (d + 3) 0 0 [] 95 84 [some (.ref 20), some (.int x1), none, some (.int x3)] [.int k0] (hM 36 σ τ) ?_
  show xv l Ω (d + 3) 0 0 95 17 [some (.ref 20), some (.int x1), some (.int k0), some (.int (x3 + 1))] [] (hM 36 σ τ) r
  exact xv_sub (L' := [some (.ref 20), some (.int x1), some (.int k0), some (.int (x3 + 1))]) ⟨rfl, ⟨rfl, ⟨rfl, ⟨rfl, trivial⟩⟩⟩⟩ H
theorem g95_17b_ok_36 {l : Launch} {Ω : xo_O} (htr : xH l) (d : Nat) (τ : Nat → Nat → Int64) (x1 : Int32) (x2 : Int32) (x3 : Int32) (σ : xS) (r : xv_R) (H : xo (xd (a95_17 l Ω d 36 τ r) (xB false 36 τ r)) (g95_17b 36 x1 x2 x3 σ)) : xv l Ω (d + 3) 0 0 95 17 [some (.ref 20), some (.int x1), some (.int x2), some (.int x3)] [] (hM 36 σ τ) r := by
  unfold g95_17b at H
  by_cases h2 : 300 ≤ x3
  · rw [if_pos h2] at H
    refine xp_ok htr 3 (d + 3) 0 0 [eB true] 95 17 [some (.ref 20), some (.int x1), some (.int x2), some (.int x3)] [] (hM 36 σ τ) ⟨h2, ?_⟩
    show xv l Ω (d + 3) 0 0 95 91 [some (.ref 20), some (.int x1), some (.int x2), some (.int x3)] [] (hM 36 σ τ) r
    exact xv_sub (L' := [some (.ref 20), some (.int x1), none, none]) ⟨rfl, ⟨rfl, trivial⟩⟩ (g95_91_ok_36 htr d  τ x1 σ r (xo_map H))
  · rw [if_neg h2] at H
    refine xp_ok htr 3 (d + 3) 0 0 [eB false] 95 17 [some (.ref 20), some (.int x1), some (.int x2), some (.int x3)] [] (hM 36 σ τ) ⟨h2, ?_⟩
    show xv l Ω (d + 3) 0 0 95 24 [some (.ref 20), some (.int x1), some (.int x2), some (.int x3)] [] (hM 36 σ τ) r
    by_cases h4 : x2 = 0
    · rw [if_pos h4] at H
      refine xp_ok htr 2 (d + 3) 0 0 [eB true] 95 24 [some (.ref 20), some (.int x1), some (.int x2), some (.int x3)] [] (hM 36 σ τ) ⟨h4, ?_⟩
      show xv l Ω (d + 3) 0 0 95 91 [some (.ref 20), some (.int x1), some (.int x2), some (.int x3)] [] (hM 36 σ τ) r
      exact xv_sub (L' := [some (.ref 20), some (.int x1), none, none]) ⟨rfl, ⟨rfl, trivial⟩⟩ (g95_91_ok_36 htr d  τ x1 σ r (xo_map H))
    · rw [if_neg h4] at H
      refine xp_ok htr 2 (d + 3) 0 0 [eB false] 95 24 [some (.ref 20), some (.int x1), some (.int x2), some (.int x3)] [] (hM 36 σ τ) ⟨h4, ?_⟩
      show xv l Ω (d + 3) 0 0 95 28 [some (.ref 20), some (.int x1), some (.int x2), some (.int x3)] [] (hM 36 σ τ) r
      cases q7 : g90 ((σ 20 2) + 1) σ with
      | none => rw [q7] at H; exact False.elim H
      | some q70 =>
        obtain ⟨v5 | v5, s6⟩ := q70
        · rw [q7] at H; dsimp only at H
          have hc := g90_run (Ω := Ω) htr (d + 2) 36 τ ((σ 20 2) + 1) σ q7
          refine xp_ok htr 6 (d + 3) 0 0 [eC none (hM 36 s6 τ)] 95 28 [some (.ref 20), some (.int x1), some (.int x2), some (.int x3)] [] (hM 36 σ τ) ⟨hc, ?_⟩
          show xv l Ω (d + 3) 0 0 95 38 [some (.ref 20), some (.int x1), some (.int x2), some (.int x3)] [] (hM 36 s6 τ) r
          cases q10 : g96 36 s6 with
          | none => rw [q10] at H; exact False.elim H
          | some q100 =>
            obtain ⟨v8 | v8, s9⟩ := q100
            · rw [q10] at H; dsimp only at H
              have hc := g96_run_36 (Ω := Ω) htr d  τ  s6 q10
              refine xp_ok htr 2 (d + 3) 0 0 [eC (some (.int v8)) (hM 36 s9 τ)] 95 38 [some (.ref 20), some (.int x1), some (.int x2), some (.int x3)] [] (hM 36 s6 τ) ⟨hc, ?_⟩
              show xv l Ω (d + 3) 0 0 95 42 [some (.ref 20), some (.int x1), some (.int x2), some (.int x3)] [.int v8] (hM 36 s9 τ) r
              by_cases h11 : v8 = 0
              · rw [if_pos h11] at H
                refine xp_ok htr 1 (d + 3) 0 0 [eB true] 95 42 [some (.ref 20), some (.int x1), some (.int x2), some (.int x3)] [.int v8] (hM 36 s9 τ) ⟨h11, ?_⟩
                show xv l Ω (d + 3) 0 0 95 55 [some (.ref 20), some (.int x1), some (.int x2), some (.int x3)] [] (hM 36 s9 τ) r
                exact xp_ok htr 2 (d + 3) 0 0 [] 95 55 [some (.ref 20), some (.int x1), some (.int x2), some (.int x3)] [] (hM 36 s9 τ) ⟨Or.inl rfl, (Eq.symm H)⟩
              · rw [if_neg h11] at H
                refine xp_ok htr 1 (d + 3) 0 0 [eB false] 95 42 [some (.ref 20), some (.int x1), some (.int x2), some (.int x3)] [.int v8] (hM 36 s9 τ) ⟨h11, ?_⟩
                show xv l Ω (d + 3) 0 0 95 45 [some (.ref 20), some (.int x1), some (.int x2), some (.int x3)] [] (hM 36 s9 τ) r
                cases q14 : g101 (s9 20 3) s9 with
                | none => rw [q14] at H; exact False.elim H
                | some q140 =>
                  obtain ⟨v12 | v12, s13⟩ := q140
                  · rw [q14] at H; dsimp only at H
                    have hc := g101_run (Ω := Ω) htr (d + 2) 36 τ (s9 20 3) s9 q14
                    refine xp_ok htr 3 (d + 3) 0 0 [eC (some (.int v12)) (hM 36 s13 τ)] 95 45 [some (.ref 20), some (.int x1), some (.int x2), some (.int x3)] [] (hM 36 s9 τ) ⟨hc, ?_⟩
                    show xv l Ω (d + 3) 0 0 95 52 [some (.ref 20), some (.int x1), some (.int x2), some (.int x3)] [.int v12] (hM 36 s13 τ) r
                    by_cases h15 : v12 = 0
                    · rw [if_pos h15] at H
                      refine xp_ok htr 1 (d + 3) 0 0 [eB false] 95 52 [some (.ref 20), some (.int x1), some (.int x2), some (.int x3)] [.int v12] (hM 36 s13 τ) ⟨h15, ?_⟩
                      show xv l Ω (d + 3) 0 0 95 55 [some (.ref 20), some (.int x1), some (.int x2), some (.int x3)] [] (hM 36 s13 τ) r
                      exact xp_ok htr 2 (d + 3) 0 0 [] 95 55 [some (.ref 20), some (.int x1), some (.int x2), some (.int x3)] [] (hM 36 s13 τ) ⟨Or.inl rfl, (Eq.symm H)⟩
                    · rw [if_neg h15] at H
                      refine xp_ok htr 1 (d + 3) 0 0 [eB true] 95 52 [some (.ref 20), some (.int x1), some (.int x2), some (.int x3)] [.int v12] (hM 36 s13 τ) ⟨h15, ?_⟩
                      show xv l Ω (d + 3) 0 0 95 57 [some (.ref 20), some (.int x1), some (.int x2), some (.int x3)] [] (hM 36 s13 τ) r
                      cases q18 : g100 36 (s13 20 3) 0 0 s13 with
                      | none => rw [q18] at H; exact False.elim H
                      | some q180 =>
                        obtain ⟨v16 | v16, s17⟩ := q180
                        · rw [q18] at H; dsimp only at H
                          have hc := g100_run_36 (Ω := Ω) htr (d + 2) 36 τ (s13 20 3) 0 0 s13 q18
                          refine xp_ok htr 7 (d + 3) 0 0 [eC none (hM 36 s17 τ)] 95 57 [some (.ref 20), some (.int x1), some (.int x2), some (.int x3)] [] (hM 36 s13 τ) ⟨hc, ?_⟩
                          show xv l Ω (d + 3) 0 0 95 70 [some (.ref 20), some (.int x1), some (.int x2), some (.int x3)] [] (hM 36 s17 τ) r
                          cases q21 : g102 93 s17 with
                          | none => rw [q21] at H; exact False.elim H
                          | some q210 =>
                            obtain ⟨v19 | v19, s20⟩ := q210
                            · rw [q21] at H; dsimp only at H
                              have hc := g102_run (Ω := Ω) htr (d + 1) 36 τ 93 s17 q21
                              refine xp_ok htr 3 (d + 3) 0 0 [eC (some (.int v19)) (hM 36 s20 τ)] 95 70 [some (.ref 20), some (.int x1), some (.int x2), some (.int x3)] [] (hM 36 s17 τ) ⟨hc, ?_⟩
                              show xv l Ω (d + 3) 0 0 95 76 [some (.ref 20), some (.int x1), some (.int x2), some (.int x3)] [.int v19] (hM 36 s20 τ) r
                              by_cases h22 : v19 = 0
                              · rw [if_pos h22] at H
                                refine xp_ok htr 1 (d + 3) 0 0 [eB false] 95 76 [some (.ref 20), some (.int x1), some (.int x2), some (.int x3)] [.int v19] (hM 36 s20 τ) ⟨h22, ?_⟩
                                show xv l Ω (d + 3) 0 0 95 79 [some (.ref 20), some (.int x1), some (.int x2), some (.int x3)] [] (hM 36 s20 τ) r
                                refine xp_ok htr 2 (d + 3) 0 0 [] 95 79 [some (.ref 20), some (.int x1), some (.int x2), some (.int x3)] [] (hM 36 s20 τ) ?_
                                show xv l Ω (d + 3) 0 0 95 84 [some (.ref 20), some (.int x1), some (.int x2), some (.int x3)] [.int 1] (hM 36 s20 τ) r
                                exact xv_sub (L' := [some (.ref 20), some (.int x1), none, some (.int x3)]) ⟨rfl, ⟨rfl, ⟨rfl, trivial⟩⟩⟩ (g95_84_ok_36 htr d  τ x1 x3 1 s20 r H)
                              · rw [if_neg h22] at H
                                refine xp_ok htr 1 (d + 3) 0 0 [eB true] 95 76 [some (.ref 20), some (.int x1), some (.int x2), some (.int x3)] [.int v19] (hM 36 s20 τ) ⟨h22, ?_⟩
                                show xv l Ω (d + 3) 0 0 95 83 [some (.ref 20), some (.int x1), some (.int x2), some (.int x3)] [] (hM 36 s20 τ) r
                                refine xp_ok htr 1 (d + 3) 0 0 [] 95 83 [some (.ref 20), some (.int x1), some (.int x2), some (.int x3)] [] (hM 36 s20 τ) ?_
                                show xv l Ω (d + 3) 0 0 95 84 [some (.ref 20), some (.int x1), some (.int x2), some (.int x3)] [.int 0] (hM 36 s20 τ) r
                                exact xv_sub (L' := [some (.ref 20), some (.int x1), none, some (.int x3)]) ⟨rfl, ⟨rfl, ⟨rfl, trivial⟩⟩⟩ (g95_84_ok_36 htr d  τ x1 x3 0 s20 r H)
                            · rw [q21] at H; exact False.elim H
                        · rw [q18] at H; exact False.elim H
                  · rw [q14] at H; exact False.elim H
            · rw [q10] at H; exact False.elim H
        · rw [q7] at H; exact False.elim H
theorem g95_17_ok_36 {l : Launch} {Ω : xo_O} (htr : xH l) (d : Nat) (τ : Nat → Nat → Int64) (x1 : Int32) (x2 : Int32) (x3 : Int32) (σ : xS) (r : xv_R) (H : xo (xB false 36 τ r) (g95_17 36 x1 x2 x3 σ)) : xv l Ω (d + 3) 0 0 95 17 [some (.ref 20), some (.int x1), some (.int x2), some (.int x3)] [] (hM 36 σ τ) r :=
  xlo_ok (A := a95_17 l Ω d 36 τ r) (fun a H => g95_17b_ok_36 htr d  τ a.1 a.2.1 a.2.2.1 a.2.2.2 r H) 1000 (x1, x2, x3, σ) H
theorem g95_14_ok_36 {l : Launch} {Ω : xo_O} (htr : xH l) (d : Nat) (τ : Nat → Nat → Int64) (x1 : Int32) (k0 : Int32) (σ : xS) (r : xv_R) (H : xo (xB false 36 τ r) (g95_14 36 x1 k0 σ)) : xv l Ω (d + 3) 0 0 95 14 [some (.ref 20), some (.int x1), none, none] [.int k0] (hM 36 σ τ) r := by
  unfold g95_14 at H
  refine xp_ok htr 3 (d + 3) 0 0 [] 95 14 [some (.ref 20), some (.int x1), none, none] [.int k0] (hM 36 σ τ) ?_
  show xv l Ω (d + 3) 0 0 95 17 [some (.ref 20), some (.int x1), some (.int k0), some (.int 0)] [] (hM 36 σ τ) r
  exact xv_sub (L' := [some (.ref 20), some (.int x1), some (.int k0), some (.int 0)]) ⟨rfl, ⟨rfl, ⟨rfl, ⟨rfl, trivial⟩⟩⟩⟩ (g95_17_ok_36 htr d  τ x1 k0 0 σ r H)
theorem g95_run_36 {l : Launch} {Ω : xo_O} (htr : xH l) (d : Nat) (τ : Nat → Nat → Int64) (a1 : Int32) (σ : xS) {q : xQ} (hq : g95 36 a1 σ = some q) : xv l Ω (d + 3) 0 0 95 0 (xs_loc (xm_l 95) [.ref 20, .int a1]) [] (hM 36 σ τ) (xq_R false 36 τ q) := by
  have H : xo (xB false 36 τ (xq_R false 36 τ q)) (g95 36 a1 σ) := by rw [hq]; exact rfl
  generalize xq_R false 36 τ q = r at H ⊢
  show xv l Ω (d + 3) 0 0 95 0 [some (.ref 20), some (.int a1), none, none] [] (hM 36 σ τ) r
  unfold g95 at H
  by_cases h1 : (σ 20 3) = 91
  · rw [if_pos h1] at H
    refine xp_ok htr 4 (d + 3) 0 0 [eB false] 95 0 [some (.ref 20), some (.int a1), none, none] [] (hM 36 σ τ) ⟨h1, ?_⟩
    show xv l Ω (d + 3) 0 0 95 9 [some (.ref 20), some (.int a1), none, none] [] (hM 36 σ τ) r
    refine xp_ok htr 2 (d + 3) 0 0 [] 95 9 [some (.ref 20), some (.int a1), none, none] [] (hM 36 σ τ) ?_
    show xv l Ω (d + 3) 0 0 95 14 [some (.ref 20), some (.int a1), none, none] [.int 1] (hM 36 σ τ) r
    exact xv_sub (L' := [some (.ref 20), some (.int a1), none, none]) ⟨rfl, ⟨rfl, trivial⟩⟩ (g95_14_ok_36 htr d  τ a1 1 σ r H)
  · rw [if_neg h1] at H
    refine xp_ok htr 4 (d + 3) 0 0 [eB true] 95 0 [some (.ref 20), some (.int a1), none, none] [] (hM 36 σ τ) ⟨h1, ?_⟩
    show xv l Ω (d + 3) 0 0 95 13 [some (.ref 20), some (.int a1), none, none] [] (hM 36 σ τ) r
    refine xp_ok htr 1 (d + 3) 0 0 [] 95 13 [some (.ref 20), some (.int a1), none, none] [] (hM 36 σ τ) ?_
    show xv l Ω (d + 3) 0 0 95 14 [some (.ref 20), some (.int a1), none, none] [.int 0] (hM 36 σ τ) r
    exact xv_sub (L' := [some (.ref 20), some (.int a1), none, none]) ⟨rfl, ⟨rfl, trivial⟩⟩ (g95_14_ok_36 htr d  τ a1 0 σ r H)
/- AccessDesk$Reader.readBracket -/
def g104_53 (p : Nat) (rc : Int32 → xS → xO) (x1 : Int32) (x2 : Int32) (σ : xS) : Option xQ := (match rc x1 σ with | some (Sum.inl v17, s18) => (if v17 = 0 then some ((Sum.inl 0, s18)) else (match g102 41 s18 with | some (Sum.inl v21, s22) => (if v21 = 0 then some ((Sum.inl 0, s22)) else (match g100 p x2 0 0 s22 with | some (Sum.inl v25, s26) => some ((Sum.inl 1, s26)) | some (Sum.inr v25, s26) => none | none => none)) | some (Sum.inr v21, s22) => none | none => none)) | some (Sum.inr v17, s18) => none | none => none)
def g104 (p : Nat) (rc : Int32 → xS → xO) (a1 : Int32) (σ : xS) : xO := (if a1 ≤ 6 then (match g90 ((σ 20 2) + 1) σ with | some (Sum.inl v2, s3) => (match rc a1 s3 with | some (Sum.inl v5, s6) => (if v5 = 0 then some ((Sum.inl 0, s6)) else (match g102 38 s6 with | some (Sum.inl v9, s10) => (if v9 = 0 then (match g102 124 s10 with | some (Sum.inl v13, s14) => (if v13 = 0 then some ((Sum.inl 0, s14)) else g104_53 p rc a1 (s6 20 3) s14) | some (Sum.inr v13, s14) => none | none => none) else g104_53 p rc a1 (s6 20 3) s10) | some (Sum.inr v9, s10) => none | none => none)) | some (Sum.inr v5, s6) => none | none => none) | some (Sum.inr v2, s3) => none | none => none) else some ((Sum.inl 0, σ)))
theorem g104_53_ok_23 {l : Launch} {Ω : xo_O} (htr : xH l) (d : Nat) (τ : Nat → Nat → Int64) (rc : Int32 → xS → xO) (hrc : ∀ (b1 : Int32) (σ : xS) (q : xQ), rc b1 σ = some q → xv l Ω d 0 0 103 0 (xs_loc (xm_l 103) [.ref 20, .int b1]) [] (hM 23 σ τ) (xq_R false 23 τ q)) (x1 : Int32) (x2 : Int32) (σ : xS) (r : xv_R) (H : xo (xB false 23 τ r) (g104_53 23 rc x1 x2 σ)) : xv l Ω (d + 2) 0 0 104 53 [some (.ref 20), some (.int x1), some (.int x2)] [] (hM 23 σ τ) r := by
  unfold g104_53 at H
  cases q19 : rc x1 σ with
  | none => rw [q19] at H; exact False.elim H
  | some q190 =>
    obtain ⟨v17 | v17, s18⟩ := q190
    · rw [q19] at H; dsimp only at H
      have hc := xv_mono (d' := d + 1) (Nat.le_add_right _ _) (Nat.le_refl _) (Nat.le_refl _) (hrc x1 σ _ q19)
      refine xp_ok htr 3 (d + 2) 0 0 [eC (some (.int v17)) (hM 23 s18 τ)] 104 53 [some (.ref 20), some (.int x1), some (.int x2)] [] (hM 23 σ τ) ⟨hc, ?_⟩
      show xv l Ω (d + 2) 0 0 104 58 [some (.ref 20), some (.int x1), some (.int x2)] [.int v17] (hM 23 s18 τ) r
      by_cases h20 : v17 = 0
      · rw [if_pos h20] at H
        refine xp_ok htr 1 (d + 2) 0 0 [eB true] 104 58 [some (.ref 20), some (.int x1), some (.int x2)] [.int v17] (hM 23 s18 τ) ⟨h20, ?_⟩
        show xv l Ω (d + 2) 0 0 104 70 [some (.ref 20), some (.int x1), some (.int x2)] [] (hM 23 s18 τ) r
        exact xp_ok htr 2 (d + 2) 0 0 [] 104 70 [some (.ref 20), some (.int x1), some (.int x2)] [] (hM 23 s18 τ) ⟨Or.inl rfl, (Eq.symm H)⟩
      · rw [if_neg h20] at H
        refine xp_ok htr 1 (d + 2) 0 0 [eB false] 104 58 [some (.ref 20), some (.int x1), some (.int x2)] [.int v17] (hM 23 s18 τ) ⟨h20, ?_⟩
        show xv l Ω (d + 2) 0 0 104 61 [some (.ref 20), some (.int x1), some (.int x2)] [] (hM 23 s18 τ) r
        cases q23 : g102 41 s18 with
        | none => rw [q23] at H; exact False.elim H
        | some q230 =>
          obtain ⟨v21 | v21, s22⟩ := q230
          · rw [q23] at H; dsimp only at H
            have hc := g102_run (Ω := Ω) htr d 23 τ 41 s18 q23
            refine xp_ok htr 3 (d + 2) 0 0 [eC (some (.int v21)) (hM 23 s22 τ)] 104 61 [some (.ref 20), some (.int x1), some (.int x2)] [] (hM 23 s18 τ) ⟨hc, ?_⟩
            show xv l Ω (d + 2) 0 0 104 67 [some (.ref 20), some (.int x1), some (.int x2)] [.int v21] (hM 23 s22 τ) r
            by_cases h24 : v21 = 0
            · rw [if_pos h24] at H
              refine xp_ok htr 1 (d + 2) 0 0 [eB false] 104 67 [some (.ref 20), some (.int x1), some (.int x2)] [.int v21] (hM 23 s22 τ) ⟨h24, ?_⟩
              show xv l Ω (d + 2) 0 0 104 70 [some (.ref 20), some (.int x1), some (.int x2)] [] (hM 23 s22 τ) r
              exact xp_ok htr 2 (d + 2) 0 0 [] 104 70 [some (.ref 20), some (.int x1), some (.int x2)] [] (hM 23 s22 τ) ⟨Or.inl rfl, (Eq.symm H)⟩
            · rw [if_neg h24] at H
              refine xp_ok htr 1 (d + 2) 0 0 [eB true] 104 67 [some (.ref 20), some (.int x1), some (.int x2)] [.int v21] (hM 23 s22 τ) ⟨h24, ?_⟩
              show xv l Ω (d + 2) 0 0 104 72 [some (.ref 20), some (.int x1), some (.int x2)] [] (hM 23 s22 τ) r
              cases q27 : g100 23 x2 0 0 s22 with
              | none => rw [q27] at H; exact False.elim H
              | some q270 =>
                obtain ⟨v25 | v25, s26⟩ := q270
                · rw [q27] at H; dsimp only at H
                  have hc := g100_run_23 (Ω := Ω) htr (d + 1) 23 τ x2 0 0 s22 q27
                  refine xp_ok htr 6 (d + 2) 0 0 [eC none (hM 23 s26 τ)] 104 72 [some (.ref 20), some (.int x1), some (.int x2)] [] (hM 23 s22 τ) ⟨hc, ?_⟩
                  show xv l Ω (d + 2) 0 0 104 82 [some (.ref 20), some (.int x1), some (.int x2)] [] (hM 23 s26 τ) r
                  exact xp_ok htr 2 (d + 2) 0 0 [] 104 82 [some (.ref 20), some (.int x1), some (.int x2)] [] (hM 23 s26 τ) ⟨Or.inr rfl, (Eq.symm H)⟩
                · rw [q27] at H; exact False.elim H
          · rw [q23] at H; exact False.elim H
    · rw [q19] at H; exact False.elim H
theorem g104_run_23 {l : Launch} {Ω : xo_O} (htr : xH l) (d : Nat) (τ : Nat → Nat → Int64) (rc : Int32 → xS → xO) (hrc : ∀ (b1 : Int32) (σ : xS) (q : xQ), rc b1 σ = some q → xv l Ω d 0 0 103 0 (xs_loc (xm_l 103) [.ref 20, .int b1]) [] (hM 23 σ τ) (xq_R false 23 τ q)) (a1 : Int32) (σ : xS) {q : xQ} (hq : g104 23 rc a1 σ = some q) : xv l Ω (d + 2) 0 0 104 0 (xs_loc (xm_l 104) [.ref 20, .int a1]) [] (hM 23 σ τ) (xq_R false 23 τ q) := by
  have H : xo (xB false 23 τ (xq_R false 23 τ q)) (g104 23 rc a1 σ) := by rw [hq]; exact rfl
  generalize xq_R false 23 τ q = r at H ⊢
  show xv l Ω (d + 2) 0 0 104 0 [some (.ref 20), some (.int a1), none] [] (hM 23 σ τ) r
  unfold g104 at H
  by_cases h1 : a1 ≤ 6
  · rw [if_pos h1] at H
    refine xp_ok htr 3 (d + 2) 0 0 [eB true] 104 0 [some (.ref 20), some (.int a1), none] [] (hM 23 σ τ) ⟨h1, ?_⟩
    show xv l Ω (d + 2) 0 0 104 8 [some (.ref 20), some (.int a1), none] [] (hM 23 σ τ) r
    cases q4 : g90 ((σ 20 2) + 1) σ with
    | none => rw [q4] at H; exact False.elim H
    | some q40 =>
      obtain ⟨v2 | v2, s3⟩ := q40
      · rw [q4] at H; dsimp only at H
        have hc := g90_run (Ω := Ω) htr (d + 1) 23 τ ((σ 20 2) + 1) σ q4
        refine xp_ok htr 6 (d + 2) 0 0 [eC none (hM 23 s3 τ)] 104 8 [some (.ref 20), some (.int a1), none] [] (hM 23 σ τ) ⟨hc, ?_⟩
        show xv l Ω (d + 2) 0 0 104 18 [some (.ref 20), some (.int a1), none] [] (hM 23 s3 τ) r
        cases q7 : rc a1 s3 with
        | none => rw [q7] at H; exact False.elim H
        | some q70 =>
          obtain ⟨v5 | v5, s6⟩ := q70
          · rw [q7] at H; dsimp only at H
            have hc := xv_mono (d' := d + 1) (Nat.le_add_right _ _) (Nat.le_refl _) (Nat.le_refl _) (hrc a1 s3 _ q7)
            refine xp_ok htr 3 (d + 2) 0 0 [eC (some (.int v5)) (hM 23 s6 τ)] 104 18 [some (.ref 20), some (.int a1), none] [] (hM 23 s3 τ) ⟨hc, ?_⟩
            show xv l Ω (d + 2) 0 0 104 23 [some (.ref 20), some (.int a1), none] [.int v5] (hM 23 s6 τ) r
            by_cases h8 : v5 = 0
            · rw [if_pos h8] at H
              refine xp_ok htr 1 (d + 2) 0 0 [eB false] 104 23 [some (.ref 20), some (.int a1), none] [.int v5] (hM 23 s6 τ) ⟨h8, ?_⟩
              show xv l Ω (d + 2) 0 0 104 26 [some (.ref 20), some (.int a1), none] [] (hM 23 s6 τ) r
              exact xp_ok htr 2 (d + 2) 0 0 [] 104 26 [some (.ref 20), some (.int a1), none] [] (hM 23 s6 τ) ⟨Or.inl rfl, (Eq.symm H)⟩
            · rw [if_neg h8] at H
              refine xp_ok htr 1 (d + 2) 0 0 [eB true] 104 23 [some (.ref 20), some (.int a1), none] [.int v5] (hM 23 s6 τ) ⟨h8, ?_⟩
              show xv l Ω (d + 2) 0 0 104 28 [some (.ref 20), some (.int a1), none] [] (hM 23 s6 τ) r
              cases q11 : g102 38 s6 with
              | none => rw [q11] at H; exact False.elim H
              | some q110 =>
                obtain ⟨v9 | v9, s10⟩ := q110
                · rw [q11] at H; dsimp only at H
                  have hc := g102_run (Ω := Ω) htr d 23 τ 38 s6 q11
                  refine xp_ok htr 6 (d + 2) 0 0 [eC (some (.int v9)) (hM 23 s10 τ)] 104 28 [some (.ref 20), some (.int a1), none] [] (hM 23 s6 τ) ⟨hc, ?_⟩
                  show xv l Ω (d + 2) 0 0 104 39 [some (.ref 20), some (.int a1), some (.int (s6 20 3))] [.int v9] (hM 23 s10 τ) r
                  by_cases h12 : v9 = 0
                  · rw [if_pos h12] at H
                    refine xp_ok htr 1 (d + 2) 0 0 [eB false] 104 39 [some (.ref 20), some (.int a1), some (.int (s6 20 3))] [.int v9] (hM 23 s10 τ) ⟨h12, ?_⟩
                    show xv l Ω (d + 2) 0 0 104 42 [some (.ref 20), some (.int a1), some (.int (s6 20 3))] [] (hM 23 s10 τ) r
                    cases q15 : g102 124 s10 with
                    | none => rw [q15] at H; exact False.elim H
                    | some q150 =>
                      obtain ⟨v13 | v13, s14⟩ := q150
                      · rw [q15] at H; dsimp only at H
                        have hc := g102_run (Ω := Ω) htr d 23 τ 124 s10 q15
                        refine xp_ok htr 3 (d + 2) 0 0 [eC (some (.int v13)) (hM 23 s14 τ)] 104 42 [some (.ref 20), some (.int a1), some (.int (s6 20 3))] [] (hM 23 s10 τ) ⟨hc, ?_⟩
                        show xv l Ω (d + 2) 0 0 104 48 [some (.ref 20), some (.int a1), some (.int (s6 20 3))] [.int v13] (hM 23 s14 τ) r
                        by_cases h16 : v13 = 0
                        · rw [if_pos h16] at H
                          refine xp_ok htr 1 (d + 2) 0 0 [eB false] 104 48 [some (.ref 20), some (.int a1), some (.int (s6 20 3))] [.int v13] (hM 23 s14 τ) ⟨h16, ?_⟩
                          show xv l Ω (d + 2) 0 0 104 51 [some (.ref 20), some (.int a1), some (.int (s6 20 3))] [] (hM 23 s14 τ) r
                          exact xp_ok htr 2 (d + 2) 0 0 [] 104 51 [some (.ref 20), some (.int a1), some (.int (s6 20 3))] [] (hM 23 s14 τ) ⟨Or.inl rfl, (Eq.symm H)⟩
                        · rw [if_neg h16] at H
                          refine xp_ok htr 1 (d + 2) 0 0 [eB true] 104 48 [some (.ref 20), some (.int a1), some (.int (s6 20 3))] [.int v13] (hM 23 s14 τ) ⟨h16, ?_⟩
                          show xv l Ω (d + 2) 0 0 104 53 [some (.ref 20), some (.int a1), some (.int (s6 20 3))] [] (hM 23 s14 τ) r
                          exact xv_sub (L' := [some (.ref 20), some (.int a1), some (.int (s6 20 3))]) ⟨rfl, ⟨rfl, ⟨rfl, trivial⟩⟩⟩ (g104_53_ok_23 htr d  τ rc hrc a1 (s6 20 3) s14 r H)
                      · rw [q15] at H; exact False.elim H
                  · rw [if_neg h12] at H
                    refine xp_ok htr 1 (d + 2) 0 0 [eB true] 104 39 [some (.ref 20), some (.int a1), some (.int (s6 20 3))] [.int v9] (hM 23 s10 τ) ⟨h12, ?_⟩
                    show xv l Ω (d + 2) 0 0 104 53 [some (.ref 20), some (.int a1), some (.int (s6 20 3))] [] (hM 23 s10 τ) r
                    exact xv_sub (L' := [some (.ref 20), some (.int a1), some (.int (s6 20 3))]) ⟨rfl, ⟨rfl, ⟨rfl, trivial⟩⟩⟩ (g104_53_ok_23 htr d  τ rc hrc a1 (s6 20 3) s10 r H)
                · rw [q11] at H; exact False.elim H
          · rw [q7] at H; exact False.elim H
      · rw [q4] at H; exact False.elim H
  · rw [if_neg h1] at H
    refine xp_ok htr 3 (d + 2) 0 0 [eB false] 104 0 [some (.ref 20), some (.int a1), none] [] (hM 23 σ τ) ⟨h1, ?_⟩
    show xv l Ω (d + 2) 0 0 104 6 [some (.ref 20), some (.int a1), none] [] (hM 23 σ τ) r
    exact xp_ok htr 2 (d + 2) 0 0 [] 104 6 [some (.ref 20), some (.int a1), none] [] (hM 23 σ τ) ⟨Or.inl rfl, (Eq.symm H)⟩
theorem g104_53_ok_36 {l : Launch} {Ω : xo_O} (htr : xH l) (d : Nat) (τ : Nat → Nat → Int64) (rc : Int32 → xS → xO) (hrc : ∀ (b1 : Int32) (σ : xS) (q : xQ), rc b1 σ = some q → xv l Ω d 0 0 103 0 (xs_loc (xm_l 103) [.ref 20, .int b1]) [] (hM 36 σ τ) (xq_R false 36 τ q)) (x1 : Int32) (x2 : Int32) (σ : xS) (r : xv_R) (H : xo (xB false 36 τ r) (g104_53 36 rc x1 x2 σ)) : xv l Ω (d + 2) 0 0 104 53 [some (.ref 20), some (.int x1), some (.int x2)] [] (hM 36 σ τ) r := by
  unfold g104_53 at H
  cases q19 : rc x1 σ with
  | none => rw [q19] at H; exact False.elim H
  | some q190 =>
    obtain ⟨v17 | v17, s18⟩ := q190
    · rw [q19] at H; dsimp only at H
      have hc := xv_mono (d' := d + 1) (Nat.le_add_right _ _) (Nat.le_refl _) (Nat.le_refl _) (hrc x1 σ _ q19)
      refine xp_ok htr 3 (d + 2) 0 0 [eC (some (.int v17)) (hM 36 s18 τ)] 104 53 [some (.ref 20), some (.int x1), some (.int x2)] [] (hM 36 σ τ) ⟨hc, ?_⟩
      show xv l Ω (d + 2) 0 0 104 58 [some (.ref 20), some (.int x1), some (.int x2)] [.int v17] (hM 36 s18 τ) r
      by_cases h20 : v17 = 0
      · rw [if_pos h20] at H
        refine xp_ok htr 1 (d + 2) 0 0 [eB true] 104 58 [some (.ref 20), some (.int x1), some (.int x2)] [.int v17] (hM 36 s18 τ) ⟨h20, ?_⟩
        show xv l Ω (d + 2) 0 0 104 70 [some (.ref 20), some (.int x1), some (.int x2)] [] (hM 36 s18 τ) r
        exact xp_ok htr 2 (d + 2) 0 0 [] 104 70 [some (.ref 20), some (.int x1), some (.int x2)] [] (hM 36 s18 τ) ⟨Or.inl rfl, (Eq.symm H)⟩
      · rw [if_neg h20] at H
        refine xp_ok htr 1 (d + 2) 0 0 [eB false] 104 58 [some (.ref 20), some (.int x1), some (.int x2)] [.int v17] (hM 36 s18 τ) ⟨h20, ?_⟩
        show xv l Ω (d + 2) 0 0 104 61 [some (.ref 20), some (.int x1), some (.int x2)] [] (hM 36 s18 τ) r
        cases q23 : g102 41 s18 with
        | none => rw [q23] at H; exact False.elim H
        | some q230 =>
          obtain ⟨v21 | v21, s22⟩ := q230
          · rw [q23] at H; dsimp only at H
            have hc := g102_run (Ω := Ω) htr d 36 τ 41 s18 q23
            refine xp_ok htr 3 (d + 2) 0 0 [eC (some (.int v21)) (hM 36 s22 τ)] 104 61 [some (.ref 20), some (.int x1), some (.int x2)] [] (hM 36 s18 τ) ⟨hc, ?_⟩
            show xv l Ω (d + 2) 0 0 104 67 [some (.ref 20), some (.int x1), some (.int x2)] [.int v21] (hM 36 s22 τ) r
            by_cases h24 : v21 = 0
            · rw [if_pos h24] at H
              refine xp_ok htr 1 (d + 2) 0 0 [eB false] 104 67 [some (.ref 20), some (.int x1), some (.int x2)] [.int v21] (hM 36 s22 τ) ⟨h24, ?_⟩
              show xv l Ω (d + 2) 0 0 104 70 [some (.ref 20), some (.int x1), some (.int x2)] [] (hM 36 s22 τ) r
              exact xp_ok htr 2 (d + 2) 0 0 [] 104 70 [some (.ref 20), some (.int x1), some (.int x2)] [] (hM 36 s22 τ) ⟨Or.inl rfl, (Eq.symm H)⟩
            · rw [if_neg h24] at H
              refine xp_ok htr 1 (d + 2) 0 0 [eB true] 104 67 [some (.ref 20), some (.int x1), some (.int x2)] [.int v21] (hM 36 s22 τ) ⟨h24, ?_⟩
              show xv l Ω (d + 2) 0 0 104 72 [some (.ref 20), some (.int x1), some (.int x2)] [] (hM 36 s22 τ) r
              cases q27 : g100 36 x2 0 0 s22 with
              | none => rw [q27] at H; exact False.elim H
              | some q270 =>
                obtain ⟨v25 | v25, s26⟩ := q270
                · rw [q27] at H; dsimp only at H
                  have hc := g100_run_36 (Ω := Ω) htr (d + 1) 36 τ x2 0 0 s22 q27
                  refine xp_ok htr 6 (d + 2) 0 0 [eC none (hM 36 s26 τ)] 104 72 [some (.ref 20), some (.int x1), some (.int x2)] [] (hM 36 s22 τ) ⟨hc, ?_⟩
                  show xv l Ω (d + 2) 0 0 104 82 [some (.ref 20), some (.int x1), some (.int x2)] [] (hM 36 s26 τ) r
                  exact xp_ok htr 2 (d + 2) 0 0 [] 104 82 [some (.ref 20), some (.int x1), some (.int x2)] [] (hM 36 s26 τ) ⟨Or.inr rfl, (Eq.symm H)⟩
                · rw [q27] at H; exact False.elim H
          · rw [q23] at H; exact False.elim H
    · rw [q19] at H; exact False.elim H
theorem g104_run_36 {l : Launch} {Ω : xo_O} (htr : xH l) (d : Nat) (τ : Nat → Nat → Int64) (rc : Int32 → xS → xO) (hrc : ∀ (b1 : Int32) (σ : xS) (q : xQ), rc b1 σ = some q → xv l Ω d 0 0 103 0 (xs_loc (xm_l 103) [.ref 20, .int b1]) [] (hM 36 σ τ) (xq_R false 36 τ q)) (a1 : Int32) (σ : xS) {q : xQ} (hq : g104 36 rc a1 σ = some q) : xv l Ω (d + 2) 0 0 104 0 (xs_loc (xm_l 104) [.ref 20, .int a1]) [] (hM 36 σ τ) (xq_R false 36 τ q) := by
  have H : xo (xB false 36 τ (xq_R false 36 τ q)) (g104 36 rc a1 σ) := by rw [hq]; exact rfl
  generalize xq_R false 36 τ q = r at H ⊢
  show xv l Ω (d + 2) 0 0 104 0 [some (.ref 20), some (.int a1), none] [] (hM 36 σ τ) r
  unfold g104 at H
  by_cases h1 : a1 ≤ 6
  · rw [if_pos h1] at H
    refine xp_ok htr 3 (d + 2) 0 0 [eB true] 104 0 [some (.ref 20), some (.int a1), none] [] (hM 36 σ τ) ⟨h1, ?_⟩
    show xv l Ω (d + 2) 0 0 104 8 [some (.ref 20), some (.int a1), none] [] (hM 36 σ τ) r
    cases q4 : g90 ((σ 20 2) + 1) σ with
    | none => rw [q4] at H; exact False.elim H
    | some q40 =>
      obtain ⟨v2 | v2, s3⟩ := q40
      · rw [q4] at H; dsimp only at H
        have hc := g90_run (Ω := Ω) htr (d + 1) 36 τ ((σ 20 2) + 1) σ q4
        refine xp_ok htr 6 (d + 2) 0 0 [eC none (hM 36 s3 τ)] 104 8 [some (.ref 20), some (.int a1), none] [] (hM 36 σ τ) ⟨hc, ?_⟩
        show xv l Ω (d + 2) 0 0 104 18 [some (.ref 20), some (.int a1), none] [] (hM 36 s3 τ) r
        cases q7 : rc a1 s3 with
        | none => rw [q7] at H; exact False.elim H
        | some q70 =>
          obtain ⟨v5 | v5, s6⟩ := q70
          · rw [q7] at H; dsimp only at H
            have hc := xv_mono (d' := d + 1) (Nat.le_add_right _ _) (Nat.le_refl _) (Nat.le_refl _) (hrc a1 s3 _ q7)
            refine xp_ok htr 3 (d + 2) 0 0 [eC (some (.int v5)) (hM 36 s6 τ)] 104 18 [some (.ref 20), some (.int a1), none] [] (hM 36 s3 τ) ⟨hc, ?_⟩
            show xv l Ω (d + 2) 0 0 104 23 [some (.ref 20), some (.int a1), none] [.int v5] (hM 36 s6 τ) r
            by_cases h8 : v5 = 0
            · rw [if_pos h8] at H
              refine xp_ok htr 1 (d + 2) 0 0 [eB false] 104 23 [some (.ref 20), some (.int a1), none] [.int v5] (hM 36 s6 τ) ⟨h8, ?_⟩
              show xv l Ω (d + 2) 0 0 104 26 [some (.ref 20), some (.int a1), none] [] (hM 36 s6 τ) r
              exact xp_ok htr 2 (d + 2) 0 0 [] 104 26 [some (.ref 20), some (.int a1), none] [] (hM 36 s6 τ) ⟨Or.inl rfl, (Eq.symm H)⟩
            · rw [if_neg h8] at H
              refine xp_ok htr 1 (d + 2) 0 0 [eB true] 104 23 [some (.ref 20), some (.int a1), none] [.int v5] (hM 36 s6 τ) ⟨h8, ?_⟩
              show xv l Ω (d + 2) 0 0 104 28 [some (.ref 20), some (.int a1), none] [] (hM 36 s6 τ) r
              cases q11 : g102 38 s6 with
              | none => rw [q11] at H; exact False.elim H
              | some q110 =>
                obtain ⟨v9 | v9, s10⟩ := q110
                · rw [q11] at H; dsimp only at H
                  have hc := g102_run (Ω := Ω) htr d 36 τ 38 s6 q11
                  refine xp_ok htr 6 (d + 2) 0 0 [eC (some (.int v9)) (hM 36 s10 τ)] 104 28 [some (.ref 20), some (.int a1), none] [] (hM 36 s6 τ) ⟨hc, ?_⟩
                  show xv l Ω (d + 2) 0 0 104 39 [some (.ref 20), some (.int a1), some (.int (s6 20 3))] [.int v9] (hM 36 s10 τ) r
                  by_cases h12 : v9 = 0
                  · rw [if_pos h12] at H
                    refine xp_ok htr 1 (d + 2) 0 0 [eB false] 104 39 [some (.ref 20), some (.int a1), some (.int (s6 20 3))] [.int v9] (hM 36 s10 τ) ⟨h12, ?_⟩
                    show xv l Ω (d + 2) 0 0 104 42 [some (.ref 20), some (.int a1), some (.int (s6 20 3))] [] (hM 36 s10 τ) r
                    cases q15 : g102 124 s10 with
                    | none => rw [q15] at H; exact False.elim H
                    | some q150 =>
                      obtain ⟨v13 | v13, s14⟩ := q150
                      · rw [q15] at H; dsimp only at H
                        have hc := g102_run (Ω := Ω) htr d 36 τ 124 s10 q15
                        refine xp_ok htr 3 (d + 2) 0 0 [eC (some (.int v13)) (hM 36 s14 τ)] 104 42 [some (.ref 20), some (.int a1), some (.int (s6 20 3))] [] (hM 36 s10 τ) ⟨hc, ?_⟩
                        show xv l Ω (d + 2) 0 0 104 48 [some (.ref 20), some (.int a1), some (.int (s6 20 3))] [.int v13] (hM 36 s14 τ) r
                        by_cases h16 : v13 = 0
                        · rw [if_pos h16] at H
                          refine xp_ok htr 1 (d + 2) 0 0 [eB false] 104 48 [some (.ref 20), some (.int a1), some (.int (s6 20 3))] [.int v13] (hM 36 s14 τ) ⟨h16, ?_⟩
                          show xv l Ω (d + 2) 0 0 104 51 [some (.ref 20), some (.int a1), some (.int (s6 20 3))] [] (hM 36 s14 τ) r
                          exact xp_ok htr 2 (d + 2) 0 0 [] 104 51 [some (.ref 20), some (.int a1), some (.int (s6 20 3))] [] (hM 36 s14 τ) ⟨Or.inl rfl, (Eq.symm H)⟩
                        · rw [if_neg h16] at H
                          refine xp_ok htr 1 (d + 2) 0 0 [eB true] 104 48 [some (.ref 20), some (.int a1), some (.int (s6 20 3))] [.int v13] (hM 36 s14 τ) ⟨h16, ?_⟩
                          show xv l Ω (d + 2) 0 0 104 53 [some (.ref 20), some (.int a1), some (.int (s6 20 3))] [] (hM 36 s14 τ) r
                          exact xv_sub (L' := [some (.ref 20), some (.int a1), some (.int (s6 20 3))]) ⟨rfl, ⟨rfl, ⟨rfl, trivial⟩⟩⟩ (g104_53_ok_36 htr d  τ rc hrc a1 (s6 20 3) s14 r H)
                      · rw [q15] at H; exact False.elim H
                  · rw [if_neg h12] at H
                    refine xp_ok htr 1 (d + 2) 0 0 [eB true] 104 39 [some (.ref 20), some (.int a1), some (.int (s6 20 3))] [.int v9] (hM 36 s10 τ) ⟨h12, ?_⟩
                    show xv l Ω (d + 2) 0 0 104 53 [some (.ref 20), some (.int a1), some (.int (s6 20 3))] [] (hM 36 s10 τ) r
                    exact xv_sub (L' := [some (.ref 20), some (.int a1), some (.int (s6 20 3))]) ⟨rfl, ⟨rfl, ⟨rfl, trivial⟩⟩⟩ (g104_53_ok_36 htr d  τ rc hrc a1 (s6 20 3) s10 r H)
                · rw [q11] at H; exact False.elim H
          · rw [q7] at H; exact False.elim H
      · rw [q4] at H; exact False.elim H
  · rw [if_neg h1] at H
    refine xp_ok htr 3 (d + 2) 0 0 [eB false] 104 0 [some (.ref 20), some (.int a1), none] [] (hM 36 σ τ) ⟨h1, ?_⟩
    show xv l Ω (d + 2) 0 0 104 6 [some (.ref 20), some (.int a1), none] [] (hM 36 σ τ) r
    exact xp_ok htr 2 (d + 2) 0 0 [] 104 6 [some (.ref 20), some (.int a1), none] [] (hM 36 σ τ) ⟨Or.inl rfl, (Eq.symm H)⟩
/- AccessDesk$Reader.readExpression -/
def g103_59 (p : Nat) (rc : Int32 → xS → xO) (x2 : Int32) (k0 : Int32) (σ : xS) : Option xQ := (if k0 = 0 then (bif decide (k0 = 0 ∨ k0 = 1) then some ((Sum.inl k0, σ)) else none) else (if x2 = 0 then (bif decide (k0 = 0 ∨ k0 = 1) then some ((Sum.inl k0, σ)) else none) else (match g100 p 33 0 0 σ with | some (Sum.inl v10, s11) => (bif decide (k0 = 0 ∨ k0 = 1) then some ((Sum.inl k0, s11)) else none) | some (Sum.inr v10, s11) => none | none => none)))
def g103_36 (p : Nat) (rc : Int32 → xS → xO) (x1 : Int32) (x2 : Int32) (σ : xS) : Option xQ := (if (σ 20 3) = 40 then (match g104 p rc (x1 + 1) σ with | some (Sum.inl v3, s4) => g103_59 p rc x2 v3 s4 | some (Sum.inr v3, s4) => none | none => none) else (match g96 p σ with | some (Sum.inl v14, s15) => g103_59 p rc x2 v14 s15 | some (Sum.inr v14, s15) => none | none => none))
def g103_29 (p : Nat) (rc : Int32 → xS → xO) (x1 : Int32) (x3 : Int32) (k0 : Int32) (σ : xS) : Option ((Int32 × Int32 × Int32 × xS) ⊕ xQ) := some (Sum.inl (x1, k0, (x3 + 1), σ))
def g103_4b (p : Nat) (rc : Int32 → xS → xO) (x1 : Int32) (x2 : Int32) (x3 : Int32) (σ : xS) : Option ((Int32 × Int32 × Int32 × xS) ⊕ xQ) := (if 300 ≤ x3 then Option.map Sum.inr (g103_36 p rc x1 x2 σ) else (match g102 33 σ with | some (Sum.inl v17, s18) => (if v17 = 0 then Option.map Sum.inr (g103_36 p rc x1 x2 s18) else (if x2 = 0 then g103_29 p rc x1 x3 1 s18 else g103_29 p rc x1 x3 0 s18)) | some (Sum.inr v17, s18) => none | none => none))
def g103_4 (p : Nat) (rc : Int32 → xS → xO) (x1 : Int32) (x2 : Int32) (x3 : Int32) (σ : xS) : Option xQ := xlo (fun a : Int32 × Int32 × Int32 × xS => g103_4b p rc a.1 a.2.1 a.2.2.1 a.2.2.2) 1000 (x1, x2, x3, σ)
def g103e (p : Nat) (rc : Int32 → xS → xO) (a1 : Int32) (σ : xS) : xO := g103_4 p rc a1 0 0 σ
def a103_4 (l : Launch) (Ω : xo_O) (d p : Nat) (τ : Nat → Nat → Int64) (r : xv_R) : Int32 × Int32 × Int32 × xS → Prop := fun a => xv l Ω (d + 3) 0 0 103 4 [some (.ref 20), some (.int a.1), some (.int a.2.1), some (.int a.2.2.1)] [] (hM p a.2.2.2 τ) r
def g103 (p : Nat) : Nat → Int32 → xS → xO
  | 0, _, _ => none
  | n + 1, a1, σ => g103e p (g103 p n) a1 σ
theorem g103_59_ok_23 {l : Launch} {Ω : xo_O} (htr : xH l) (d : Nat) (τ : Nat → Nat → Int64) (rc : Int32 → xS → xO) (hrc : ∀ (b1 : Int32) (σ : xS) (q : xQ), rc b1 σ = some q → xv l Ω d 0 0 103 0 (xs_loc (xm_l 103) [.ref 20, .int b1]) [] (hM 23 σ τ) (xq_R false 23 τ q)) (x2 : Int32) (k0 : Int32) (σ : xS) (r : xv_R) (H : xo (xB false 23 τ r) (g103_59 23 rc x2 k0 σ)) : xv l Ω (d + 3) 0 0 103 59 [some (.ref 20), none, some (.int x2), none] [.int k0] (hM 23 σ τ) r := by
  unfold g103_59 at H
  by_cases h6 : k0 = 0
  · rw [if_pos h6] at H
    refine xp_ok htr 3 (d + 3) 0 0 [eB true] 103 59 [some (.ref 20), none, some (.int x2), none] [.int k0] (hM 23 σ τ) ⟨h6, ?_⟩
    show xv l Ω (d + 3) 0 0 103 79 [some (.ref 20), none, some (.int x2), some (.int k0)] [] (hM 23 σ τ) r
    cases g7 : decide (k0 = 0 ∨ k0 = 1) with
    | false => rw [g7, cond_false] at H; exact False.elim H
    | true =>
      rw [g7, cond_true] at H
      exact xp_ok htr 2 (d + 3) 0 0 [] 103 79 [some (.ref 20), none, some (.int x2), some (.int k0)] [] (hM 23 σ τ) ⟨(xb01 g7), (Eq.symm H)⟩
  · rw [if_neg h6] at H
    refine xp_ok htr 3 (d + 3) 0 0 [eB false] 103 59 [some (.ref 20), none, some (.int x2), none] [.int k0] (hM 23 σ τ) ⟨h6, ?_⟩
    show xv l Ω (d + 3) 0 0 103 64 [some (.ref 20), none, some (.int x2), some (.int k0)] [] (hM 23 σ τ) r
    by_cases h8 : x2 = 0
    · rw [if_pos h8] at H
      refine xp_ok htr 2 (d + 3) 0 0 [eB true] 103 64 [some (.ref 20), none, some (.int x2), some (.int k0)] [] (hM 23 σ τ) ⟨h8, ?_⟩
      show xv l Ω (d + 3) 0 0 103 79 [some (.ref 20), none, some (.int x2), some (.int k0)] [] (hM 23 σ τ) r
      cases g9 : decide (k0 = 0 ∨ k0 = 1) with
      | false => rw [g9, cond_false] at H; exact False.elim H
      | true =>
        rw [g9, cond_true] at H
        exact xp_ok htr 2 (d + 3) 0 0 [] 103 79 [some (.ref 20), none, some (.int x2), some (.int k0)] [] (hM 23 σ τ) ⟨(xb01 g9), (Eq.symm H)⟩
    · rw [if_neg h8] at H
      refine xp_ok htr 2 (d + 3) 0 0 [eB false] 103 64 [some (.ref 20), none, some (.int x2), some (.int k0)] [] (hM 23 σ τ) ⟨h8, ?_⟩
      show xv l Ω (d + 3) 0 0 103 68 [some (.ref 20), none, some (.int x2), some (.int k0)] [] (hM 23 σ τ) r
      cases q12 : g100 23 33 0 0 σ with
      | none => rw [q12] at H; exact False.elim H
      | some q120 =>
        obtain ⟨v10 | v10, s11⟩ := q120
        · rw [q12] at H; dsimp only at H
          have hc := g100_run_23 (Ω := Ω) htr (d + 2) 23 τ 33 0 0 σ q12
          refine xp_ok htr 6 (d + 3) 0 0 [eC none (hM 23 s11 τ)] 103 68 [some (.ref 20), none, some (.int x2), some (.int k0)] [] (hM 23 σ τ) ⟨hc, ?_⟩
          show xv l Ω (d + 3) 0 0 103 79 [some (.ref 20), none, some (.int x2), some (.int k0)] [] (hM 23 s11 τ) r
          cases g13 : decide (k0 = 0 ∨ k0 = 1) with
          | false => rw [g13, cond_false] at H; exact False.elim H
          | true =>
            rw [g13, cond_true] at H
            exact xp_ok htr 2 (d + 3) 0 0 [] 103 79 [some (.ref 20), none, some (.int x2), some (.int k0)] [] (hM 23 s11 τ) ⟨(xb01 g13), (Eq.symm H)⟩
        · rw [q12] at H; exact False.elim H
theorem g103_36_ok_23 {l : Launch} {Ω : xo_O} (htr : xH l) (d : Nat) (τ : Nat → Nat → Int64) (rc : Int32 → xS → xO) (hrc : ∀ (b1 : Int32) (σ : xS) (q : xQ), rc b1 σ = some q → xv l Ω d 0 0 103 0 (xs_loc (xm_l 103) [.ref 20, .int b1]) [] (hM 23 σ τ) (xq_R false 23 τ q)) (x1 : Int32) (x2 : Int32) (σ : xS) (r : xv_R) (H : xo (xB false 23 τ r) (g103_36 23 rc x1 x2 σ)) : xv l Ω (d + 3) 0 0 103 36 [some (.ref 20), some (.int x1), some (.int x2), none] [] (hM 23 σ τ) r := by
  unfold g103_36 at H
  by_cases h2 : (σ 20 3) = 40
  · rw [if_pos h2] at H
    refine xp_ok htr 4 (d + 3) 0 0 [eB false] 103 36 [some (.ref 20), some (.int x1), some (.int x2), none] [] (hM 23 σ τ) ⟨h2, ?_⟩
    show xv l Ω (d + 3) 0 0 103 45 [some (.ref 20), some (.int x1), some (.int x2), none] [] (hM 23 σ τ) r
    cases q5 : g104 23 rc (x1 + 1) σ with
    | none => rw [q5] at H; exact False.elim H
    | some q50 =>
      obtain ⟨v3 | v3, s4⟩ := q50
      · rw [q5] at H; dsimp only at H
        have hc := xv_mono (d' := d + 2) (by omega) (Nat.le_refl _) (Nat.le_refl _) (g104_run_23 (Ω := Ω) htr d τ rc hrc (x1 + 1) σ q5)
        refine xp_ok htr 5 (d + 3) 0 0 [eC (some (.int v3)) (hM 23 s4 τ)] 103 45 [some (.ref 20), some (.int x1), some (.int x2), none] [] (hM 23 σ τ) ⟨hc, ?_⟩
        show xv l Ω (d + 3) 0 0 103 52 [some (.ref 20), some (.int x1), some (.int x2), none] [.int v3] (hM 23 s4 τ) r
        refine xp_ok htr 1 (d + 3) 0 0 [] 103 52 [some (.ref 20), some (.int x1), some (.int x2), none] [.int v3] (hM 23 s4 τ) ?_
        show xv l Ω (d + 3) 0 0 103 59 [some (.ref 20), some (.int x1), some (.int x2), none] [.int v3] (hM 23 s4 τ) r
        exact xv_sub (L' := [some (.ref 20), none, some (.int x2), none]) ⟨rfl, ⟨rfl, trivial⟩⟩ (g103_59_ok_23 htr d  τ rc hrc x2 v3 s4 r H)
      · rw [q5] at H; exact False.elim H
  · rw [if_neg h2] at H
    refine xp_ok htr 4 (d + 3) 0 0 [eB true] 103 36 [some (.ref 20), some (.int x1), some (.int x2), none] [] (hM 23 σ τ) ⟨h2, ?_⟩
    show xv l Ω (d + 3) 0 0 103 55 [some (.ref 20), some (.int x1), some (.int x2), none] [] (hM 23 σ τ) r
    cases q16 : g96 23 σ with
    | none => rw [q16] at H; exact False.elim H
    | some q160 =>
      obtain ⟨v14 | v14, s15⟩ := q160
      · rw [q16] at H; dsimp only at H
        have hc := g96_run_23 (Ω := Ω) htr d  τ  σ q16
        refine xp_ok htr 2 (d + 3) 0 0 [eC (some (.int v14)) (hM 23 s15 τ)] 103 55 [some (.ref 20), some (.int x1), some (.int x2), none] [] (hM 23 σ τ) ⟨hc, ?_⟩
        show xv l Ω (d + 3) 0 0 103 59 [some (.ref 20), some (.int x1), some (.int x2), none] [.int v14] (hM 23 s15 τ) r
        exact xv_sub (L' := [some (.ref 20), none, some (.int x2), none]) ⟨rfl, ⟨rfl, trivial⟩⟩ (g103_59_ok_23 htr d  τ rc hrc x2 v14 s15 r H)
      · rw [q16] at H; exact False.elim H
theorem g103_29_ok_23 {l : Launch} {Ω : xo_O} (htr : xH l) (d : Nat) (τ : Nat → Nat → Int64) (rc : Int32 → xS → xO) (hrc : ∀ (b1 : Int32) (σ : xS) (q : xQ), rc b1 σ = some q → xv l Ω d 0 0 103 0 (xs_loc (xm_l 103) [.ref 20, .int b1]) [] (hM 23 σ τ) (xq_R false 23 τ q)) (x1 : Int32) (x3 : Int32) (k0 : Int32) (σ : xS) (r : xv_R) (H : xo (xd (a103_4 l Ω d 23 τ r) (xB false 23 τ r)) (g103_29 23 rc x1 x3 k0 σ)) : xv l Ω (d + 3) 0 0 103 29 [some (.ref 20), some (.int x1), none, some (.int x3)] [.int k0] (hM 23 σ τ) r := by
  unfold g103_29 at H
  refine xp_ok htr 3 (d + 3) 0 0 [] 103 29 [some (.ref 20), some (.int x1), none, some (.int x3)] [.int k0] (hM 23 σ τ) ?_
  show xv l Ω (d + 3) 0 0 103 4 [some (.ref 20), some (.int x1), some (.int k0), some (.int (x3 + 1))] [] (hM 23 σ τ) r
  exact xv_sub (L' := [some (.ref 20), some (.int x1), some (.int k0), some (.int (x3 + 1))]) ⟨rfl, ⟨rfl, ⟨rfl, ⟨rfl, trivial⟩⟩⟩⟩ H
theorem g103_4b_ok_23 {l : Launch} {Ω : xo_O} (htr : xH l) (d : Nat) (τ : Nat → Nat → Int64) (rc : Int32 → xS → xO) (hrc : ∀ (b1 : Int32) (σ : xS) (q : xQ), rc b1 σ = some q → xv l Ω d 0 0 103 0 (xs_loc (xm_l 103) [.ref 20, .int b1]) [] (hM 23 σ τ) (xq_R false 23 τ q)) (x1 : Int32) (x2 : Int32) (x3 : Int32) (σ : xS) (r : xv_R) (H : xo (xd (a103_4 l Ω d 23 τ r) (xB false 23 τ r)) (g103_4b 23 rc x1 x2 x3 σ)) : xv l Ω (d + 3) 0 0 103 4 [some (.ref 20), some (.int x1), some (.int x2), some (.int x3)] [] (hM 23 σ τ) r := by
  unfold g103_4b at H
  by_cases h1 : 300 ≤ x3
  · rw [if_pos h1] at H
    refine xp_ok htr 3 (d + 3) 0 0 [eB true] 103 4 [some (.ref 20), some (.int x1), some (.int x2), some (.int x3)] [] (hM 23 σ τ) ⟨h1, ?_⟩
    show xv l Ω (d + 3) 0 0 103 36 [some (.ref 20), some (.int x1), some (.int x2), some (.int x3)] [] (hM 23 σ τ) r
    exact xv_sub (L' := [some (.ref 20), some (.int x1), some (.int x2), none]) ⟨rfl, ⟨rfl, ⟨rfl, trivial⟩⟩⟩ (g103_36_ok_23 htr d  τ rc hrc x1 x2 σ r (xo_map H))
  · rw [if_neg h1] at H
    refine xp_ok htr 3 (d + 3) 0 0 [eB false] 103 4 [some (.ref 20), some (.int x1), some (.int x2), some (.int x3)] [] (hM 23 σ τ) ⟨h1, ?_⟩
    show xv l Ω (d + 3) 0 0 103 11 [some (.ref 20), some (.int x1), some (.int x2), some (.int x3)] [] (hM 23 σ τ) r
    cases q19 : g102 33 σ with
    | none => rw [q19] at H; exact False.elim H
    | some q190 =>
      obtain ⟨v17 | v17, s18⟩ := q190
      · rw [q19] at H; dsimp only at H
        have hc := g102_run (Ω := Ω) htr (d + 1) 23 τ 33 σ q19
        refine xp_ok htr 3 (d + 3) 0 0 [eC (some (.int v17)) (hM 23 s18 τ)] 103 11 [some (.ref 20), some (.int x1), some (.int x2), some (.int x3)] [] (hM 23 σ τ) ⟨hc, ?_⟩
        show xv l Ω (d + 3) 0 0 103 17 [some (.ref 20), some (.int x1), some (.int x2), some (.int x3)] [.int v17] (hM 23 s18 τ) r
        by_cases h20 : v17 = 0
        · rw [if_pos h20] at H
          refine xp_ok htr 1 (d + 3) 0 0 [eB true] 103 17 [some (.ref 20), some (.int x1), some (.int x2), some (.int x3)] [.int v17] (hM 23 s18 τ) ⟨h20, ?_⟩
          show xv l Ω (d + 3) 0 0 103 36 [some (.ref 20), some (.int x1), some (.int x2), some (.int x3)] [] (hM 23 s18 τ) r
          exact xv_sub (L' := [some (.ref 20), some (.int x1), some (.int x2), none]) ⟨rfl, ⟨rfl, ⟨rfl, trivial⟩⟩⟩ (g103_36_ok_23 htr d  τ rc hrc x1 x2 s18 r (xo_map H))
        · rw [if_neg h20] at H
          refine xp_ok htr 1 (d + 3) 0 0 [eB false] 103 17 [some (.ref 20), some (.int x1), some (.int x2), some (.int x3)] [.int v17] (hM 23 s18 τ) ⟨h20, ?_⟩
          show xv l Ω (d + 3) 0 0 103 20 [some (.ref 20), some (.int x1), some (.int x2), some (.int x3)] [] (hM 23 s18 τ) r
          by_cases h21 : x2 = 0
          · rw [if_pos h21] at H
            refine xp_ok htr 2 (d + 3) 0 0 [eB false] 103 20 [some (.ref 20), some (.int x1), some (.int x2), some (.int x3)] [] (hM 23 s18 τ) ⟨h21, ?_⟩
            show xv l Ω (d + 3) 0 0 103 24 [some (.ref 20), some (.int x1), some (.int x2), some (.int x3)] [] (hM 23 s18 τ) r
            refine xp_ok htr 2 (d + 3) 0 0 [] 103 24 [some (.ref 20), some (.int x1), some (.int x2), some (.int x3)] [] (hM 23 s18 τ) ?_
            show xv l Ω (d + 3) 0 0 103 29 [some (.ref 20), some (.int x1), some (.int x2), some (.int x3)] [.int 1] (hM 23 s18 τ) r
            exact xv_sub (L' := [some (.ref 20), some (.int x1), none, some (.int x3)]) ⟨rfl, ⟨rfl, ⟨rfl, trivial⟩⟩⟩ (g103_29_ok_23 htr d  τ rc hrc x1 x3 1 s18 r H)
          · rw [if_neg h21] at H
            refine xp_ok htr 2 (d + 3) 0 0 [eB true] 103 20 [some (.ref 20), some (.int x1), some (.int x2), some (.int x3)] [] (hM 23 s18 τ) ⟨h21, ?_⟩
            show xv l Ω (d + 3) 0 0 103 28 [some (.ref 20), some (.int x1), some (.int x2), some (.int x3)] [] (hM 23 s18 τ) r
            refine xp_ok htr 1 (d + 3) 0 0 [] 103 28 [some (.ref 20), some (.int x1), some (.int x2), some (.int x3)] [] (hM 23 s18 τ) ?_
            show xv l Ω (d + 3) 0 0 103 29 [some (.ref 20), some (.int x1), some (.int x2), some (.int x3)] [.int 0] (hM 23 s18 τ) r
            exact xv_sub (L' := [some (.ref 20), some (.int x1), none, some (.int x3)]) ⟨rfl, ⟨rfl, ⟨rfl, trivial⟩⟩⟩ (g103_29_ok_23 htr d  τ rc hrc x1 x3 0 s18 r H)
      · rw [q19] at H; exact False.elim H
theorem g103_4_ok_23 {l : Launch} {Ω : xo_O} (htr : xH l) (d : Nat) (τ : Nat → Nat → Int64) (rc : Int32 → xS → xO) (hrc : ∀ (b1 : Int32) (σ : xS) (q : xQ), rc b1 σ = some q → xv l Ω d 0 0 103 0 (xs_loc (xm_l 103) [.ref 20, .int b1]) [] (hM 23 σ τ) (xq_R false 23 τ q)) (x1 : Int32) (x2 : Int32) (x3 : Int32) (σ : xS) (r : xv_R) (H : xo (xB false 23 τ r) (g103_4 23 rc x1 x2 x3 σ)) : xv l Ω (d + 3) 0 0 103 4 [some (.ref 20), some (.int x1), some (.int x2), some (.int x3)] [] (hM 23 σ τ) r :=
  xlo_ok (A := a103_4 l Ω d 23 τ r) (fun a H => g103_4b_ok_23 htr d  τ rc hrc a.1 a.2.1 a.2.2.1 a.2.2.2 r H) 1000 (x1, x2, x3, σ) H
theorem g103e_run_23 {l : Launch} {Ω : xo_O} (htr : xH l) (d : Nat) (τ : Nat → Nat → Int64) (rc : Int32 → xS → xO) (hrc : ∀ (b1 : Int32) (σ : xS) (q : xQ), rc b1 σ = some q → xv l Ω d 0 0 103 0 (xs_loc (xm_l 103) [.ref 20, .int b1]) [] (hM 23 σ τ) (xq_R false 23 τ q)) (a1 : Int32) (σ : xS) {q : xQ} (hq : g103e 23 rc a1 σ = some q) : xv l Ω (d + 3) 0 0 103 0 (xs_loc (xm_l 103) [.ref 20, .int a1]) [] (hM 23 σ τ) (xq_R false 23 τ q) := by
  have H : xo (xB false 23 τ (xq_R false 23 τ q)) (g103e 23 rc a1 σ) := by rw [hq]; exact rfl
  generalize xq_R false 23 τ q = r at H ⊢
  show xv l Ω (d + 3) 0 0 103 0 [some (.ref 20), some (.int a1), none, none] [] (hM 23 σ τ) r
  unfold g103e at H
  refine xp_ok htr 4 (d + 3) 0 0 [] 103 0 [some (.ref 20), some (.int a1), none, none] [] (hM 23 σ τ) ?_
  show xv l Ω (d + 3) 0 0 103 4 [some (.ref 20), some (.int a1), some (.int 0), some (.int 0)] [] (hM 23 σ τ) r
  exact xv_sub (L' := [some (.ref 20), some (.int a1), some (.int 0), some (.int 0)]) ⟨rfl, ⟨rfl, ⟨rfl, ⟨rfl, trivial⟩⟩⟩⟩ (g103_4_ok_23 htr d  τ rc hrc a1 0 0 σ r H)
theorem g103_59_ok_36 {l : Launch} {Ω : xo_O} (htr : xH l) (d : Nat) (τ : Nat → Nat → Int64) (rc : Int32 → xS → xO) (hrc : ∀ (b1 : Int32) (σ : xS) (q : xQ), rc b1 σ = some q → xv l Ω d 0 0 103 0 (xs_loc (xm_l 103) [.ref 20, .int b1]) [] (hM 36 σ τ) (xq_R false 36 τ q)) (x2 : Int32) (k0 : Int32) (σ : xS) (r : xv_R) (H : xo (xB false 36 τ r) (g103_59 36 rc x2 k0 σ)) : xv l Ω (d + 3) 0 0 103 59 [some (.ref 20), none, some (.int x2), none] [.int k0] (hM 36 σ τ) r := by
  unfold g103_59 at H
  by_cases h6 : k0 = 0
  · rw [if_pos h6] at H
    refine xp_ok htr 3 (d + 3) 0 0 [eB true] 103 59 [some (.ref 20), none, some (.int x2), none] [.int k0] (hM 36 σ τ) ⟨h6, ?_⟩
    show xv l Ω (d + 3) 0 0 103 79 [some (.ref 20), none, some (.int x2), some (.int k0)] [] (hM 36 σ τ) r
    cases g7 : decide (k0 = 0 ∨ k0 = 1) with
    | false => rw [g7, cond_false] at H; exact False.elim H
    | true =>
      rw [g7, cond_true] at H
      exact xp_ok htr 2 (d + 3) 0 0 [] 103 79 [some (.ref 20), none, some (.int x2), some (.int k0)] [] (hM 36 σ τ) ⟨(xb01 g7), (Eq.symm H)⟩
  · rw [if_neg h6] at H
    refine xp_ok htr 3 (d + 3) 0 0 [eB false] 103 59 [some (.ref 20), none, some (.int x2), none] [.int k0] (hM 36 σ τ) ⟨h6, ?_⟩
    show xv l Ω (d + 3) 0 0 103 64 [some (.ref 20), none, some (.int x2), some (.int k0)] [] (hM 36 σ τ) r
    by_cases h8 : x2 = 0
    · rw [if_pos h8] at H
      refine xp_ok htr 2 (d + 3) 0 0 [eB true] 103 64 [some (.ref 20), none, some (.int x2), some (.int k0)] [] (hM 36 σ τ) ⟨h8, ?_⟩
      show xv l Ω (d + 3) 0 0 103 79 [some (.ref 20), none, some (.int x2), some (.int k0)] [] (hM 36 σ τ) r
      cases g9 : decide (k0 = 0 ∨ k0 = 1) with
      | false => rw [g9, cond_false] at H; exact False.elim H
      | true =>
        rw [g9, cond_true] at H
        exact xp_ok htr 2 (d + 3) 0 0 [] 103 79 [some (.ref 20), none, some (.int x2), some (.int k0)] [] (hM 36 σ τ) ⟨(xb01 g9), (Eq.symm H)⟩
    · rw [if_neg h8] at H
      refine xp_ok htr 2 (d + 3) 0 0 [eB false] 103 64 [some (.ref 20), none, some (.int x2), some (.int k0)] [] (hM 36 σ τ) ⟨h8, ?_⟩
      show xv l Ω (d + 3) 0 0 103 68 [some (.ref 20), none, some (.int x2), some (.int k0)] [] (hM 36 σ τ) r
      cases q12 : g100 36 33 0 0 σ with
      | none => rw [q12] at H; exact False.elim H
      | some q120 =>
        obtain ⟨v10 | v10, s11⟩ := q120
        · rw [q12] at H; dsimp only at H
          have hc := g100_run_36 (Ω := Ω) htr (d + 2) 36 τ 33 0 0 σ q12
          refine xp_ok htr 6 (d + 3) 0 0 [eC none (hM 36 s11 τ)] 103 68 [some (.ref 20), none, some (.int x2), some (.int k0)] [] (hM 36 σ τ) ⟨hc, ?_⟩
          show xv l Ω (d + 3) 0 0 103 79 [some (.ref 20), none, some (.int x2), some (.int k0)] [] (hM 36 s11 τ) r
          cases g13 : decide (k0 = 0 ∨ k0 = 1) with
          | false => rw [g13, cond_false] at H; exact False.elim H
          | true =>
            rw [g13, cond_true] at H
            exact xp_ok htr 2 (d + 3) 0 0 [] 103 79 [some (.ref 20), none, some (.int x2), some (.int k0)] [] (hM 36 s11 τ) ⟨(xb01 g13), (Eq.symm H)⟩
        · rw [q12] at H; exact False.elim H
theorem g103_36_ok_36 {l : Launch} {Ω : xo_O} (htr : xH l) (d : Nat) (τ : Nat → Nat → Int64) (rc : Int32 → xS → xO) (hrc : ∀ (b1 : Int32) (σ : xS) (q : xQ), rc b1 σ = some q → xv l Ω d 0 0 103 0 (xs_loc (xm_l 103) [.ref 20, .int b1]) [] (hM 36 σ τ) (xq_R false 36 τ q)) (x1 : Int32) (x2 : Int32) (σ : xS) (r : xv_R) (H : xo (xB false 36 τ r) (g103_36 36 rc x1 x2 σ)) : xv l Ω (d + 3) 0 0 103 36 [some (.ref 20), some (.int x1), some (.int x2), none] [] (hM 36 σ τ) r := by
  unfold g103_36 at H
  by_cases h2 : (σ 20 3) = 40
  · rw [if_pos h2] at H
    refine xp_ok htr 4 (d + 3) 0 0 [eB false] 103 36 [some (.ref 20), some (.int x1), some (.int x2), none] [] (hM 36 σ τ) ⟨h2, ?_⟩
    show xv l Ω (d + 3) 0 0 103 45 [some (.ref 20), some (.int x1), some (.int x2), none] [] (hM 36 σ τ) r
    cases q5 : g104 36 rc (x1 + 1) σ with
    | none => rw [q5] at H; exact False.elim H
    | some q50 =>
      obtain ⟨v3 | v3, s4⟩ := q50
      · rw [q5] at H; dsimp only at H
        have hc := xv_mono (d' := d + 2) (by omega) (Nat.le_refl _) (Nat.le_refl _) (g104_run_36 (Ω := Ω) htr d τ rc hrc (x1 + 1) σ q5)
        refine xp_ok htr 5 (d + 3) 0 0 [eC (some (.int v3)) (hM 36 s4 τ)] 103 45 [some (.ref 20), some (.int x1), some (.int x2), none] [] (hM 36 σ τ) ⟨hc, ?_⟩
        show xv l Ω (d + 3) 0 0 103 52 [some (.ref 20), some (.int x1), some (.int x2), none] [.int v3] (hM 36 s4 τ) r
        refine xp_ok htr 1 (d + 3) 0 0 [] 103 52 [some (.ref 20), some (.int x1), some (.int x2), none] [.int v3] (hM 36 s4 τ) ?_
        show xv l Ω (d + 3) 0 0 103 59 [some (.ref 20), some (.int x1), some (.int x2), none] [.int v3] (hM 36 s4 τ) r
        exact xv_sub (L' := [some (.ref 20), none, some (.int x2), none]) ⟨rfl, ⟨rfl, trivial⟩⟩ (g103_59_ok_36 htr d  τ rc hrc x2 v3 s4 r H)
      · rw [q5] at H; exact False.elim H
  · rw [if_neg h2] at H
    refine xp_ok htr 4 (d + 3) 0 0 [eB true] 103 36 [some (.ref 20), some (.int x1), some (.int x2), none] [] (hM 36 σ τ) ⟨h2, ?_⟩
    show xv l Ω (d + 3) 0 0 103 55 [some (.ref 20), some (.int x1), some (.int x2), none] [] (hM 36 σ τ) r
    cases q16 : g96 36 σ with
    | none => rw [q16] at H; exact False.elim H
    | some q160 =>
      obtain ⟨v14 | v14, s15⟩ := q160
      · rw [q16] at H; dsimp only at H
        have hc := g96_run_36 (Ω := Ω) htr d  τ  σ q16
        refine xp_ok htr 2 (d + 3) 0 0 [eC (some (.int v14)) (hM 36 s15 τ)] 103 55 [some (.ref 20), some (.int x1), some (.int x2), none] [] (hM 36 σ τ) ⟨hc, ?_⟩
        show xv l Ω (d + 3) 0 0 103 59 [some (.ref 20), some (.int x1), some (.int x2), none] [.int v14] (hM 36 s15 τ) r
        exact xv_sub (L' := [some (.ref 20), none, some (.int x2), none]) ⟨rfl, ⟨rfl, trivial⟩⟩ (g103_59_ok_36 htr d  τ rc hrc x2 v14 s15 r H)
      · rw [q16] at H; exact False.elim H
theorem g103_29_ok_36 {l : Launch} {Ω : xo_O} (htr : xH l) (d : Nat) (τ : Nat → Nat → Int64) (rc : Int32 → xS → xO) (hrc : ∀ (b1 : Int32) (σ : xS) (q : xQ), rc b1 σ = some q → xv l Ω d 0 0 103 0 (xs_loc (xm_l 103) [.ref 20, .int b1]) [] (hM 36 σ τ) (xq_R false 36 τ q)) (x1 : Int32) (x3 : Int32) (k0 : Int32) (σ : xS) (r : xv_R) (H : xo (xd (a103_4 l Ω d 36 τ r) (xB false 36 τ r)) (g103_29 36 rc x1 x3 k0 σ)) : xv l Ω (d + 3) 0 0 103 29 [some (.ref 20), some (.int x1), none, some (.int x3)] [.int k0] (hM 36 σ τ) r := by
  unfold g103_29 at H
  refine xp_ok htr 3 (d + 3) 0 0 [] 103 29 [some (.ref 20), some (.int x1), none, some (.int x3)] [.int k0] (hM 36 σ τ) ?_
  show xv l Ω (d + 3) 0 0 103 4 [some (.ref 20), some (.int x1), some (.int k0), some (.int (x3 + 1))] [] (hM 36 σ τ) r
  exact xv_sub (L' := [some (.ref 20), some (.int x1), some (.int k0), some (.int (x3 + 1))]) ⟨rfl, ⟨rfl, ⟨rfl, ⟨rfl, trivial⟩⟩⟩⟩ H
theorem g103_4b_ok_36 {l : Launch} {Ω : xo_O} (htr : xH l) (d : Nat) (τ : Nat → Nat → Int64) (rc : Int32 → xS → xO) (hrc : ∀ (b1 : Int32) (σ : xS) (q : xQ), rc b1 σ = some q → xv l Ω d 0 0 103 0 (xs_loc (xm_l 103) [.ref 20, .int b1]) [] (hM 36 σ τ) (xq_R false 36 τ q)) (x1 : Int32) (x2 : Int32) (x3 : Int32) (σ : xS) (r : xv_R) (H : xo (xd (a103_4 l Ω d 36 τ r) (xB false 36 τ r)) (g103_4b 36 rc x1 x2 x3 σ)) : xv l Ω (d + 3) 0 0 103 4 [some (.ref 20), some (.int x1), some (.int x2), some (.int x3)] [] (hM 36 σ τ) r := by
  unfold g103_4b at H
  by_cases h1 : 300 ≤ x3
  · rw [if_pos h1] at H
    refine xp_ok htr 3 (d + 3) 0 0 [eB true] 103 4 [some (.ref 20), some (.int x1), some (.int x2), some (.int x3)] [] (hM 36 σ τ) ⟨h1, ?_⟩
    show xv l Ω (d + 3) 0 0 103 36 [some (.ref 20), some (.int x1), some (.int x2), some (.int x3)] [] (hM 36 σ τ) r
    exact xv_sub (L' := [some (.ref 20), some (.int x1), some (.int x2), none]) ⟨rfl, ⟨rfl, ⟨rfl, trivial⟩⟩⟩ (g103_36_ok_36 htr d  τ rc hrc x1 x2 σ r (xo_map H))
  · rw [if_neg h1] at H
    refine xp_ok htr 3 (d + 3) 0 0 [eB false] 103 4 [some (.ref 20), some (.int x1), some (.int x2), some (.int x3)] [] (hM 36 σ τ) ⟨h1, ?_⟩
    show xv l Ω (d + 3) 0 0 103 11 [some (.ref 20), some (.int x1), some (.int x2), some (.int x3)] [] (hM 36 σ τ) r
    cases q19 : g102 33 σ with
    | none => rw [q19] at H; exact False.elim H
    | some q190 =>
      obtain ⟨v17 | v17, s18⟩ := q190
      · rw [q19] at H; dsimp only at H
        have hc := g102_run (Ω := Ω) htr (d + 1) 36 τ 33 σ q19
        refine xp_ok htr 3 (d + 3) 0 0 [eC (some (.int v17)) (hM 36 s18 τ)] 103 11 [some (.ref 20), some (.int x1), some (.int x2), some (.int x3)] [] (hM 36 σ τ) ⟨hc, ?_⟩
        show xv l Ω (d + 3) 0 0 103 17 [some (.ref 20), some (.int x1), some (.int x2), some (.int x3)] [.int v17] (hM 36 s18 τ) r
        by_cases h20 : v17 = 0
        · rw [if_pos h20] at H
          refine xp_ok htr 1 (d + 3) 0 0 [eB true] 103 17 [some (.ref 20), some (.int x1), some (.int x2), some (.int x3)] [.int v17] (hM 36 s18 τ) ⟨h20, ?_⟩
          show xv l Ω (d + 3) 0 0 103 36 [some (.ref 20), some (.int x1), some (.int x2), some (.int x3)] [] (hM 36 s18 τ) r
          exact xv_sub (L' := [some (.ref 20), some (.int x1), some (.int x2), none]) ⟨rfl, ⟨rfl, ⟨rfl, trivial⟩⟩⟩ (g103_36_ok_36 htr d  τ rc hrc x1 x2 s18 r (xo_map H))
        · rw [if_neg h20] at H
          refine xp_ok htr 1 (d + 3) 0 0 [eB false] 103 17 [some (.ref 20), some (.int x1), some (.int x2), some (.int x3)] [.int v17] (hM 36 s18 τ) ⟨h20, ?_⟩
          show xv l Ω (d + 3) 0 0 103 20 [some (.ref 20), some (.int x1), some (.int x2), some (.int x3)] [] (hM 36 s18 τ) r
          by_cases h21 : x2 = 0
          · rw [if_pos h21] at H
            refine xp_ok htr 2 (d + 3) 0 0 [eB false] 103 20 [some (.ref 20), some (.int x1), some (.int x2), some (.int x3)] [] (hM 36 s18 τ) ⟨h21, ?_⟩
            show xv l Ω (d + 3) 0 0 103 24 [some (.ref 20), some (.int x1), some (.int x2), some (.int x3)] [] (hM 36 s18 τ) r
            refine xp_ok htr 2 (d + 3) 0 0 [] 103 24 [some (.ref 20), some (.int x1), some (.int x2), some (.int x3)] [] (hM 36 s18 τ) ?_
            show xv l Ω (d + 3) 0 0 103 29 [some (.ref 20), some (.int x1), some (.int x2), some (.int x3)] [.int 1] (hM 36 s18 τ) r
            exact xv_sub (L' := [some (.ref 20), some (.int x1), none, some (.int x3)]) ⟨rfl, ⟨rfl, ⟨rfl, trivial⟩⟩⟩ (g103_29_ok_36 htr d  τ rc hrc x1 x3 1 s18 r H)
          · rw [if_neg h21] at H
            refine xp_ok htr 2 (d + 3) 0 0 [eB true] 103 20 [some (.ref 20), some (.int x1), some (.int x2), some (.int x3)] [] (hM 36 s18 τ) ⟨h21, ?_⟩
            show xv l Ω (d + 3) 0 0 103 28 [some (.ref 20), some (.int x1), some (.int x2), some (.int x3)] [] (hM 36 s18 τ) r
            refine xp_ok htr 1 (d + 3) 0 0 [] 103 28 [some (.ref 20), some (.int x1), some (.int x2), some (.int x3)] [] (hM 36 s18 τ) ?_
            show xv l Ω (d + 3) 0 0 103 29 [some (.ref 20), some (.int x1), some (.int x2), some (.int x3)] [.int 0] (hM 36 s18 τ) r
            exact xv_sub (L' := [some (.ref 20), some (.int x1), none, some (.int x3)]) ⟨rfl, ⟨rfl, ⟨rfl, trivial⟩⟩⟩ (g103_29_ok_36 htr d  τ rc hrc x1 x3 0 s18 r H)
      · rw [q19] at H; exact False.elim H
theorem g103_4_ok_36 {l : Launch} {Ω : xo_O} (htr : xH l) (d : Nat) (τ : Nat → Nat → Int64) (rc : Int32 → xS → xO) (hrc : ∀ (b1 : Int32) (σ : xS) (q : xQ), rc b1 σ = some q → xv l Ω d 0 0 103 0 (xs_loc (xm_l 103) [.ref 20, .int b1]) [] (hM 36 σ τ) (xq_R false 36 τ q)) (x1 : Int32) (x2 : Int32) (x3 : Int32) (σ : xS) (r : xv_R) (H : xo (xB false 36 τ r) (g103_4 36 rc x1 x2 x3 σ)) : xv l Ω (d + 3) 0 0 103 4 [some (.ref 20), some (.int x1), some (.int x2), some (.int x3)] [] (hM 36 σ τ) r :=
  xlo_ok (A := a103_4 l Ω d 36 τ r) (fun a H => g103_4b_ok_36 htr d  τ rc hrc a.1 a.2.1 a.2.2.1 a.2.2.2 r H) 1000 (x1, x2, x3, σ) H
theorem g103e_run_36 {l : Launch} {Ω : xo_O} (htr : xH l) (d : Nat) (τ : Nat → Nat → Int64) (rc : Int32 → xS → xO) (hrc : ∀ (b1 : Int32) (σ : xS) (q : xQ), rc b1 σ = some q → xv l Ω d 0 0 103 0 (xs_loc (xm_l 103) [.ref 20, .int b1]) [] (hM 36 σ τ) (xq_R false 36 τ q)) (a1 : Int32) (σ : xS) {q : xQ} (hq : g103e 36 rc a1 σ = some q) : xv l Ω (d + 3) 0 0 103 0 (xs_loc (xm_l 103) [.ref 20, .int a1]) [] (hM 36 σ τ) (xq_R false 36 τ q) := by
  have H : xo (xB false 36 τ (xq_R false 36 τ q)) (g103e 36 rc a1 σ) := by rw [hq]; exact rfl
  generalize xq_R false 36 τ q = r at H ⊢
  show xv l Ω (d + 3) 0 0 103 0 [some (.ref 20), some (.int a1), none, none] [] (hM 36 σ τ) r
  unfold g103e at H
  refine xp_ok htr 4 (d + 3) 0 0 [] 103 0 [some (.ref 20), some (.int a1), none, none] [] (hM 36 σ τ) ?_
  show xv l Ω (d + 3) 0 0 103 4 [some (.ref 20), some (.int a1), some (.int 0), some (.int 0)] [] (hM 36 σ τ) r
  exact xv_sub (L' := [some (.ref 20), some (.int a1), some (.int 0), some (.int 0)]) ⟨rfl, ⟨rfl, ⟨rfl, ⟨rfl, trivial⟩⟩⟩⟩ (g103_4_ok_36 htr d  τ rc hrc a1 0 0 σ r H)
theorem g103_rn_23 {l : Launch} {Ω : xo_O} (htr : xH l) (d : Nat) (τ : Nat → Nat → Int64) : ∀ (n : Nat) (a1 : Int32) (σ : xS) (q : xQ), g103 23 n a1 σ = some q → xv l Ω (d + 3 * n) 0 0 103 0 (xs_loc (xm_l 103) [.ref 20, .int a1]) [] (hM 23 σ τ) (xq_R false 23 τ q)
  | 0, _, _, _, h => by cases h
  | n + 1, a1, σ, q, h => g103e_run_23 htr (d + 3 * n) τ (g103 23 n) (fun a1 σ q h => g103_rn_23 htr d τ n a1 σ q h) a1 σ h
theorem g103_run_23 {l : Launch} {Ω : xo_O} (htr : xH l) (d : Nat) (τ : Nat → Nat → Int64) (a1 : Int32) (σ : xS) {q : xQ} (hq : g103 23 8 a1 σ = some q) : xv l Ω (d + 24) 0 0 103 0 (xs_loc (xm_l 103) [.ref 20, .int a1]) [] (hM 23 σ τ) (xq_R false 23 τ q) := g103_rn_23 htr d τ 8 a1 σ q hq
theorem g103_rn_36 {l : Launch} {Ω : xo_O} (htr : xH l) (d : Nat) (τ : Nat → Nat → Int64) : ∀ (n : Nat) (a1 : Int32) (σ : xS) (q : xQ), g103 36 n a1 σ = some q → xv l Ω (d + 3 * n) 0 0 103 0 (xs_loc (xm_l 103) [.ref 20, .int a1]) [] (hM 36 σ τ) (xq_R false 36 τ q)
  | 0, _, _, _, h => by cases h
  | n + 1, a1, σ, q, h => g103e_run_36 htr (d + 3 * n) τ (g103 36 n) (fun a1 σ q h => g103_rn_36 htr d τ n a1 σ q h) a1 σ h
theorem g103_run_36 {l : Launch} {Ω : xo_O} (htr : xH l) (d : Nat) (τ : Nat → Nat → Int64) (a1 : Int32) (σ : xS) {q : xQ} (hq : g103 36 8 a1 σ = some q) : xv l Ω (d + 24) 0 0 103 0 (xs_loc (xm_l 103) [.ref 20, .int a1]) [] (hM 36 σ τ) (xq_R false 36 τ q) := g103_rn_36 htr d τ 8 a1 σ q hq
/- AccessDesk$Reader.readDuties -/
def g105_91  (σ : xS) : Option xQ := (if (σ 20 4) = 0 then some ((Sum.inl 0, σ)) else some ((Sum.inl 1, σ)))
def g105_17b (x2 : Int32) (σ : xS) : Option ((Int32 × xS) ⊕ xQ) := (if 8 ≤ x2 then Option.map Sum.inr (g105_91 σ) else (match g25 ((σ 20 3) - 48) 8 σ with | some (Sum.inl v7, s8) => (if v7 = 0 then Option.map Sum.inr (g105_91 s8) else (match g28 (s8 20 4) ((s8 20 3) - 48) s8 with | some (Sum.inl v11, s12) => (if v11 = 0 then (match g90 (((xh_ui s12 20 4 ((s12 20 4) ||| (1 <<< (((s12 20 3) - 48) &&& 31)))) 20 2) + 1) (xh_ui s12 20 4 ((s12 20 4) ||| (1 <<< (((s12 20 3) - 48) &&& 31)))) with | some (Sum.inl v15, s16) => some (Sum.inl ((x2 + 1), s16)) | some (Sum.inr v15, s16) => none | none => none) else some (Sum.inr ((Sum.inl 0, s12)))) | some (Sum.inr v11, s12) => none | none => none)) | some (Sum.inr v7, s8) => none | none => none))
def g105_17 (x2 : Int32) (σ : xS) : Option xQ := xlo (fun a : Int32 × xS => g105_17b a.1 a.2) 1000 (x2, σ)
def g105 (a1 : Int32) (σ : xS) : xO := (match g102 a1 (xh_ui σ 20 4 0) with | some (Sum.inl v1, s2) => (if v1 = 0 then some ((Sum.inl 1, s2)) else g105_17 0 s2) | some (Sum.inr v1, s2) => none | none => none)
def a105_17 (l : Launch) (Ω : xo_O) (d p : Nat) (τ : Nat → Nat → Int64) (r : xv_R) : Int32 × xS → Prop := fun a => xv l Ω (d + 2) 0 0 105 17 [some (.ref 20), none, some (.int a.1)] [] (hM p a.2 τ) r
theorem g105_91_ok {l : Launch} {Ω : xo_O} (htr : xH l) (d : Nat) (p : Nat) (τ : Nat → Nat → Int64)  (σ : xS) (r : xv_R) (H : xo (xB false p τ r) (g105_91 σ)) : xv l Ω (d + 2) 0 0 105 91 [some (.ref 20), none, none] [] (hM p σ τ) r := by
  unfold g105_91 at H
  by_cases h6 : (σ 20 4) = 0
  · rw [if_pos h6] at H
    refine xp_ok htr 3 (d + 2) 0 0 [eB true] 105 91 [some (.ref 20), none, none] [] (hM p σ τ) ⟨h6, ?_⟩
    show xv l Ω (d + 2) 0 0 105 102 [some (.ref 20), none, none] [] (hM p σ τ) r
    exact xp_ok htr 2 (d + 2) 0 0 [] 105 102 [some (.ref 20), none, none] [] (hM p σ τ) ⟨Or.inl rfl, (Eq.symm H)⟩
  · rw [if_neg h6] at H
    refine xp_ok htr 3 (d + 2) 0 0 [eB false] 105 91 [some (.ref 20), none, none] [] (hM p σ τ) ⟨h6, ?_⟩
    show xv l Ω (d + 2) 0 0 105 98 [some (.ref 20), none, none] [] (hM p σ τ) r
    exact xp_ok htr 3 (d + 2) 0 0 [] 105 98 [some (.ref 20), none, none] [] (hM p σ τ) ⟨Or.inr rfl, (Eq.symm H)⟩
theorem g105_17b_ok {l : Launch} {Ω : xo_O} (htr : xH l) (d : Nat) (p : Nat) (τ : Nat → Nat → Int64) (x2 : Int32) (σ : xS) (r : xv_R) (H : xo (xd (a105_17 l Ω d p τ r) (xB false p τ r)) (g105_17b x2 σ)) : xv l Ω (d + 2) 0 0 105 17 [some (.ref 20), none, some (.int x2)] [] (hM p σ τ) r := by
  unfold g105_17b at H
  by_cases h5 : 8 ≤ x2
  · rw [if_pos h5] at H
    refine xp_ok htr 3 (d + 2) 0 0 [eB true] 105 17 [some (.ref 20), none, some (.int x2)] [] (hM p σ τ) ⟨h5, ?_⟩
    show xv l Ω (d + 2) 0 0 105 91 [some (.ref 20), none, some (.int x2)] [] (hM p σ τ) r
    exact xv_sub (L' := [some (.ref 20), none, none]) ⟨rfl, trivial⟩ (g105_91_ok htr d p τ σ r (xo_map H))
  · rw [if_neg h5] at H
    refine xp_ok htr 3 (d + 2) 0 0 [eB false] 105 17 [some (.ref 20), none, some (.int x2)] [] (hM p σ τ) ⟨h5, ?_⟩
    show xv l Ω (d + 2) 0 0 105 23 [some (.ref 20), none, some (.int x2)] [] (hM p σ τ) r
    cases q9 : g25 ((σ 20 3) - 48) 8 σ with
    | none => rw [q9] at H; exact False.elim H
    | some q90 =>
      obtain ⟨v7 | v7, s8⟩ := q90
      · rw [q9] at H; dsimp only at H
        have hc := g25_run (Ω := Ω) htr (d + 1) p τ ((σ 20 3) - 48) 8 σ q9
        refine xp_ok htr 6 (d + 2) 0 0 [eC (some (.int v7)) (hM p s8 τ)] 105 23 [some (.ref 20), none, some (.int x2)] [] (hM p σ τ) ⟨hc, ?_⟩
        show xv l Ω (d + 2) 0 0 105 35 [some (.ref 20), none, some (.int x2)] [.int v7] (hM p s8 τ) r
        by_cases h10 : v7 = 0
        · rw [if_pos h10] at H
          refine xp_ok htr 1 (d + 2) 0 0 [eB true] 105 35 [some (.ref 20), none, some (.int x2)] [.int v7] (hM p s8 τ) ⟨h10, ?_⟩
          show xv l Ω (d + 2) 0 0 105 91 [some (.ref 20), none, some (.int x2)] [] (hM p s8 τ) r
          exact xv_sub (L' := [some (.ref 20), none, none]) ⟨rfl, trivial⟩ (g105_91_ok htr d p τ s8 r (xo_map H))
        · rw [if_neg h10] at H
          refine xp_ok htr 1 (d + 2) 0 0 [eB false] 105 35 [some (.ref 20), none, some (.int x2)] [.int v7] (hM p s8 τ) ⟨h10, ?_⟩
          show xv l Ω (d + 2) 0 0 105 38 [some (.ref 20), none, some (.int x2)] [] (hM p s8 τ) r
          cases q13 : g28 (s8 20 4) ((s8 20 3) - 48) s8 with
          | none => rw [q13] at H; exact False.elim H
          | some q130 =>
            obtain ⟨v11 | v11, s12⟩ := q130
            · rw [q13] at H; dsimp only at H
              have hc := g28_run (Ω := Ω) htr (d + 1) p τ (s8 20 4) ((s8 20 3) - 48) s8 q13
              refine xp_ok htr 7 (d + 2) 0 0 [eC (some (.int v11)) (hM p s12 τ)] 105 38 [some (.ref 20), none, some (.int x2)] [] (hM p s8 τ) ⟨hc, ?_⟩
              show xv l Ω (d + 2) 0 0 105 52 [some (.ref 20), none, some (.int x2)] [.int v11] (hM p s12 τ) r
              by_cases h14 : v11 = 0
              · rw [if_pos h14] at H
                refine xp_ok htr 1 (d + 2) 0 0 [eB true] 105 52 [some (.ref 20), none, some (.int x2)] [.int v11] (hM p s12 τ) ⟨h14, ?_⟩
                show xv l Ω (d + 2) 0 0 105 57 [some (.ref 20), none, some (.int x2)] [] (hM p s12 τ) r
                refine xp_ok htr 8 (d + 2) 0 0 [] 105 57 [some (.ref 20), none, some (.int x2)] [] (hM p s12 τ) ?_
                show xv l Ω (d + 2) 0 0 105 70 [some (.ref 20), none, some (.int x2)] [.int ((s12 20 3) - 48), .int 1, .int (s12 20 4), .ref 20] (hM p s12 τ) r
                refine xp_ok htr 8 (d + 2) 0 0 [] 105 70 [some (.ref 20), none, some (.int x2)] [.int ((s12 20 3) - 48), .int 1, .int (s12 20 4), .ref 20] (hM p s12 τ) ?_
                show xv l Ω (d + 2) 0 0 105 82 [some (.ref 20), none, some (.int x2)] [.int (((xh_ui s12 20 4 ((s12 20 4) ||| (1 <<< (((s12 20 3) - 48) &&& 31)))) 20 2) + 1), .ref 20] (hM p (xh_ui s12 20 4 ((s12 20 4) ||| (1 <<< (((s12 20 3) - 48) &&& 31)))) τ) r
                cases q17 : g90 (((xh_ui s12 20 4 ((s12 20 4) ||| (1 <<< (((s12 20 3) - 48) &&& 31)))) 20 2) + 1) (xh_ui s12 20 4 ((s12 20 4) ||| (1 <<< (((s12 20 3) - 48) &&& 31)))) with
                | none => rw [q17] at H; exact False.elim H
                | some q170 =>
                  obtain ⟨v15 | v15, s16⟩ := q170
                  · rw [q17] at H; dsimp only at H
                    have hc := g90_run (Ω := Ω) htr (d + 1) p τ (((xh_ui s12 20 4 ((s12 20 4) ||| (1 <<< (((s12 20 3) - 48) &&& 31)))) 20 2) + 1) (xh_ui s12 20 4 ((s12 20 4) ||| (1 <<< (((s12 20 3) - 48) &&& 31)))) q17
                    refine xp_ok htr 1 (d + 2) 0 0 [eC none (hM p s16 τ)] 105 82 [some (.ref 20), none, some (.int x2)] [.int (((xh_ui s12 20 4 ((s12 20 4) ||| (1 <<< (((s12 20 3) - 48) &&& 31)))) 20 2) + 1), .ref 20] (hM p (xh_ui s12 20 4 ((s12 20 4) ||| (1 <<< (((s12 20 3) - 48) &&& 31)))) τ) ⟨hc, ?_⟩
                    show xv l Ω (d + 2) 0 0 105 85 [some (.ref 20), none, some (.int x2)] [] (hM p s16 τ) r
                    refine xp_ok htr 2 (d + 2) 0 0 [] 105 85 [some (.ref 20), none, some (.int x2)] [] (hM p s16 τ) ?_
                    show xv l Ω (d + 2) 0 0 105 17 [some (.ref 20), none, some (.int (x2 + 1))] [] (hM p s16 τ) r
                    exact xv_sub (L' := [some (.ref 20), none, some (.int (x2 + 1))]) ⟨rfl, ⟨rfl, trivial⟩⟩ H
                  · rw [q17] at H; exact False.elim H
              · rw [if_neg h14] at H
                refine xp_ok htr 1 (d + 2) 0 0 [eB false] 105 52 [some (.ref 20), none, some (.int x2)] [.int v11] (hM p s12 τ) ⟨h14, ?_⟩
                show xv l Ω (d + 2) 0 0 105 55 [some (.ref 20), none, some (.int x2)] [] (hM p s12 τ) r
                exact xp_ok htr 2 (d + 2) 0 0 [] 105 55 [some (.ref 20), none, some (.int x2)] [] (hM p s12 τ) ⟨Or.inl rfl, (Eq.symm H)⟩
            · rw [q13] at H; exact False.elim H
      · rw [q9] at H; exact False.elim H
theorem g105_17_ok {l : Launch} {Ω : xo_O} (htr : xH l) (d : Nat) (p : Nat) (τ : Nat → Nat → Int64) (x2 : Int32) (σ : xS) (r : xv_R) (H : xo (xB false p τ r) (g105_17 x2 σ)) : xv l Ω (d + 2) 0 0 105 17 [some (.ref 20), none, some (.int x2)] [] (hM p σ τ) r :=
  xlo_ok (A := a105_17 l Ω d p τ r) (fun a H => g105_17b_ok htr d p τ a.1 a.2 r H) 1000 (x2, σ) H
theorem g105_run {l : Launch} {Ω : xo_O} (htr : xH l) (d : Nat) (p : Nat) (τ : Nat → Nat → Int64) (a1 : Int32) (σ : xS) {q : xQ} (hq : g105 a1 σ = some q) : xv l Ω (d + 2) 0 0 105 0 (xs_loc (xm_l 105) [.ref 20, .int a1]) [] (hM p σ τ) (xq_R false p τ q) := by
  have H : xo (xB false p τ (xq_R false p τ q)) (g105 a1 σ) := by rw [hq]; exact rfl
  generalize xq_R false p τ q = r at H ⊢
  show xv l Ω (d + 2) 0 0 105 0 [some (.ref 20), some (.int a1), none] [] (hM p σ τ) r
  unfold g105 at H
  cases q3 : g102 a1 (xh_ui σ 20 4 0) with
  | none => rw [q3] at H; exact False.elim H
  | some q30 =>
    obtain ⟨v1 | v1, s2⟩ := q30
    · rw [q3] at H; dsimp only at H
      have hc := g102_run (Ω := Ω) htr d p τ a1 (xh_ui σ 20 4 0) q3
      refine xp_ok htr 6 (d + 2) 0 0 [eC (some (.int v1)) (hM p s2 τ)] 105 0 [some (.ref 20), some (.int a1), none] [] (hM p σ τ) ⟨hc, ?_⟩
      show xv l Ω (d + 2) 0 0 105 10 [some (.ref 20), some (.int a1), none] [.int v1] (hM p s2 τ) r
      by_cases h4 : v1 = 0
      · rw [if_pos h4] at H
        refine xp_ok htr 1 (d + 2) 0 0 [eB false] 105 10 [some (.ref 20), some (.int a1), none] [.int v1] (hM p s2 τ) ⟨h4, ?_⟩
        show xv l Ω (d + 2) 0 0 105 13 [some (.ref 20), some (.int a1), none] [] (hM p s2 τ) r
        exact xp_ok htr 2 (d + 2) 0 0 [] 105 13 [some (.ref 20), some (.int a1), none] [] (hM p s2 τ) ⟨Or.inr rfl, (Eq.symm H)⟩
      · rw [if_neg h4] at H
        refine xp_ok htr 1 (d + 2) 0 0 [eB true] 105 10 [some (.ref 20), some (.int a1), none] [.int v1] (hM p s2 τ) ⟨h4, ?_⟩
        show xv l Ω (d + 2) 0 0 105 15 [some (.ref 20), some (.int a1), none] [] (hM p s2 τ) r
        refine xp_ok htr 2 (d + 2) 0 0 [] 105 15 [some (.ref 20), some (.int a1), none] [] (hM p s2 τ) ?_
        show xv l Ω (d + 2) 0 0 105 17 [some (.ref 20), some (.int a1), some (.int 0)] [] (hM p s2 τ) r
        exact xv_sub (L' := [some (.ref 20), none, some (.int 0)]) ⟨rfl, ⟨rfl, trivial⟩⟩ (g105_17_ok htr d p τ 0 s2 r H)
    · rw [q3] at H; exact False.elim H
/- AccessDesk$Reader.readRule -/
def g93_52 (p : Nat) (x2 : Int32) (σ : xS) : Option xQ := (bif xn x2 40 then (match g105 43 (xh_ui σ (p + 7) (Int32.toNatClampNeg x2) (σ p 11)) with | some (Sum.inl v16, s17) => (if v16 = 0 then some ((Sum.inl 0, s17)) else (match g102 59 (xh_ui (xh_ui s17 (p + 3) (Int32.toNatClampNeg x2) (s17 20 4)) (p + 4) (Int32.toNatClampNeg x2) ((xh_ui s17 (p + 3) (Int32.toNatClampNeg x2) (s17 20 4)) 20 4)) with | some (Sum.inl v20, s21) => (bif decide (v20 = 0 ∨ v20 = 1) then some ((Sum.inl v20, s21)) else none) | some (Sum.inr v20, s21) => none | none => none)) | some (Sum.inr v16, s17) => none | none => none) else none)
def g93 (p : Nat) (a1 : Int32) (σ : xS) : xO := (match g94 p (σ 20 3) a1 σ with | some (Sum.inl v1, s2) => (match g90 ((s2 20 2) + 1) s2 with | some (Sum.inl v4, s5) => (match g95 p v1 s5 with | some (Sum.inl v7, s8) => (if v7 = 0 then some ((Sum.inl 0, s8)) else (match g102 63 s8 with | some (Sum.inl v11, s12) => (if v11 = 0 then g93_52 p v1 s12 else (match g103 p 8 0 s12 with | some (Sum.inl v24, s25) => (if v24 = 0 then some ((Sum.inl 0, s25)) else g93_52 p v1 s25) | some (Sum.inr v24, s25) => none | none => none)) | some (Sum.inr v11, s12) => none | none => none)) | some (Sum.inr v7, s8) => none | none => none) | some (Sum.inr v4, s5) => none | none => none) | some (Sum.inr v1, s2) => none | none => none)
theorem g93_52_ok_23 {l : Launch} {Ω : xo_O} (htr : xH l) (d : Nat) (τ : Nat → Nat → Int64) (x2 : Int32) (σ : xS) (r : xv_R) (H : xo (xB false 23 τ r) (g93_52 23 x2 σ)) : xv l Ω (d + 25) 0 0 93 52 [some (.ref 20), none, some (.int x2)] [] (hM 23 σ τ) r := by
  unfold g93_52 at H
  cases g15 : xn x2 40 with
  | false => rw [g15, cond_false] at H; exact False.elim H
  | true =>
    rw [g15, cond_true] at H
    refine xp_ok htr 8 (d + 25) 0 0 [] 93 52 [some (.ref 20), none, some (.int x2)] [] (hM 23 σ τ) ⟨(xn_in g15), ?_⟩
    show xv l Ω (d + 25) 0 0 93 68 [some (.ref 20), none, some (.int x2)] [] (hM 23 (xh_ui σ (23 + 7) (Int32.toNatClampNeg x2) (σ 23 11)) τ) r
    cases q18 : g105 43 (xh_ui σ (23 + 7) (Int32.toNatClampNeg x2) (σ 23 11)) with
    | none => rw [q18] at H; exact False.elim H
    | some q180 =>
      obtain ⟨v16 | v16, s17⟩ := q180
      · rw [q18] at H; dsimp only at H
        have hc := g105_run (Ω := Ω) htr (d + 22) 23 τ 43 (xh_ui σ (23 + 7) (Int32.toNatClampNeg x2) (σ 23 11)) q18
        refine xp_ok htr 3 (d + 25) 0 0 [eC (some (.int v16)) (hM 23 s17 τ)] 93 68 [some (.ref 20), none, some (.int x2)] [] (hM 23 (xh_ui σ (23 + 7) (Int32.toNatClampNeg x2) (σ 23 11)) τ) ⟨hc, ?_⟩
        show xv l Ω (d + 25) 0 0 93 74 [some (.ref 20), none, some (.int x2)] [.int v16] (hM 23 s17 τ) r
        by_cases h19 : v16 = 0
        · rw [if_pos h19] at H
          refine xp_ok htr 1 (d + 25) 0 0 [eB false] 93 74 [some (.ref 20), none, some (.int x2)] [.int v16] (hM 23 s17 τ) ⟨h19, ?_⟩
          show xv l Ω (d + 25) 0 0 93 77 [some (.ref 20), none, some (.int x2)] [] (hM 23 s17 τ) r
          exact xp_ok htr 2 (d + 25) 0 0 [] 93 77 [some (.ref 20), none, some (.int x2)] [] (hM 23 s17 τ) ⟨Or.inl rfl, (Eq.symm H)⟩
        · rw [if_neg h19] at H
          refine xp_ok htr 1 (d + 25) 0 0 [eB true] 93 74 [some (.ref 20), none, some (.int x2)] [.int v16] (hM 23 s17 τ) ⟨h19, ?_⟩
          show xv l Ω (d + 25) 0 0 93 79 [some (.ref 20), none, some (.int x2)] [] (hM 23 s17 τ) r
          refine xp_ok htr 8 (d + 25) 0 0 [] 93 79 [some (.ref 20), none, some (.int x2)] [] (hM 23 s17 τ) ⟨(xn_in g15), ?_⟩
          show xv l Ω (d + 25) 0 0 93 93 [some (.ref 20), none, some (.int x2)] [.ref 20] (hM 23 (xh_ui s17 (23 + 3) (Int32.toNatClampNeg x2) (s17 20 4)) τ) r
          refine xp_ok htr 8 (d + 25) 0 0 [] 93 93 [some (.ref 20), none, some (.int x2)] [.ref 20] (hM 23 (xh_ui s17 (23 + 3) (Int32.toNatClampNeg x2) (s17 20 4)) τ) ⟨(xn_in g15), ?_⟩
          show xv l Ω (d + 25) 0 0 93 108 [some (.ref 20), none, some (.int x2)] [.int 59, .ref 20] (hM 23 (xh_ui (xh_ui s17 (23 + 3) (Int32.toNatClampNeg x2) (s17 20 4)) (23 + 4) (Int32.toNatClampNeg x2) ((xh_ui s17 (23 + 3) (Int32.toNatClampNeg x2) (s17 20 4)) 20 4)) τ) r
          cases q22 : g102 59 (xh_ui (xh_ui s17 (23 + 3) (Int32.toNatClampNeg x2) (s17 20 4)) (23 + 4) (Int32.toNatClampNeg x2) ((xh_ui s17 (23 + 3) (Int32.toNatClampNeg x2) (s17 20 4)) 20 4)) with
          | none => rw [q22] at H; exact False.elim H
          | some q220 =>
            obtain ⟨v20 | v20, s21⟩ := q220
            · rw [q22] at H; dsimp only at H
              have hc := g102_run (Ω := Ω) htr (d + 23) 23 τ 59 (xh_ui (xh_ui s17 (23 + 3) (Int32.toNatClampNeg x2) (s17 20 4)) (23 + 4) (Int32.toNatClampNeg x2) ((xh_ui s17 (23 + 3) (Int32.toNatClampNeg x2) (s17 20 4)) 20 4)) q22
              refine xp_ok htr 1 (d + 25) 0 0 [eC (some (.int v20)) (hM 23 s21 τ)] 93 108 [some (.ref 20), none, some (.int x2)] [.int 59, .ref 20] (hM 23 (xh_ui (xh_ui s17 (23 + 3) (Int32.toNatClampNeg x2) (s17 20 4)) (23 + 4) (Int32.toNatClampNeg x2) ((xh_ui s17 (23 + 3) (Int32.toNatClampNeg x2) (s17 20 4)) 20 4)) τ) ⟨hc, ?_⟩
              show xv l Ω (d + 25) 0 0 93 111 [some (.ref 20), none, some (.int x2)] [.int v20] (hM 23 s21 τ) r
              cases g23 : decide (v20 = 0 ∨ v20 = 1) with
              | false => rw [g23, cond_false] at H; exact False.elim H
              | true =>
                rw [g23, cond_true] at H
                exact xp_ok htr 1 (d + 25) 0 0 [] 93 111 [some (.ref 20), none, some (.int x2)] [.int v20] (hM 23 s21 τ) ⟨(xb01 g23), (Eq.symm H)⟩
            · rw [q22] at H; exact False.elim H
      · rw [q18] at H; exact False.elim H
theorem g93_run_23 {l : Launch} {Ω : xo_O} (htr : xH l) (d : Nat) (τ : Nat → Nat → Int64) (a1 : Int32) (σ : xS) {q : xQ} (hq : g93 23 a1 σ = some q) : xv l Ω (d + 25) 0 0 93 0 (xs_loc (xm_l 93) [.ref 20, .int a1]) [] (hM 23 σ τ) (xq_R false 23 τ q) := by
  have H : xo (xB false 23 τ (xq_R false 23 τ q)) (g93 23 a1 σ) := by rw [hq]; exact rfl
  generalize xq_R false 23 τ q = r at H ⊢
  show xv l Ω (d + 25) 0 0 93 0 [some (.ref 20), some (.int a1), none] [] (hM 23 σ τ) r
  unfold g93 at H
  cases q3 : g94 23 (σ 20 3) a1 σ with
  | none => rw [q3] at H; exact False.elim H
  | some q30 =>
    obtain ⟨v1 | v1, s2⟩ := q30
    · rw [q3] at H; dsimp only at H
      have hc := g94_run_23 (Ω := Ω) htr (d + 24) 23 τ (σ 20 3) a1 σ q3
      refine xp_ok htr 6 (d + 25) 0 0 [eC (some (.int v1)) (hM 23 s2 τ)] 93 0 [some (.ref 20), some (.int a1), none] [] (hM 23 σ τ) ⟨hc, ?_⟩
      show xv l Ω (d + 25) 0 0 93 12 [some (.ref 20), some (.int a1), none] [.int v1] (hM 23 s2 τ) r
      cases q6 : g90 ((s2 20 2) + 1) s2 with
      | none => rw [q6] at H; exact False.elim H
      | some q60 =>
        obtain ⟨v4 | v4, s5⟩ := q60
        · rw [q6] at H; dsimp only at H
          have hc := g90_run (Ω := Ω) htr (d + 24) 23 τ ((s2 20 2) + 1) s2 q6
          refine xp_ok htr 7 (d + 25) 0 0 [eC none (hM 23 s5 τ)] 93 12 [some (.ref 20), some (.int a1), none] [.int v1] (hM 23 s2 τ) ⟨hc, ?_⟩
          show xv l Ω (d + 25) 0 0 93 23 [some (.ref 20), some (.int a1), some (.int v1)] [] (hM 23 s5 τ) r
          cases q9 : g95 23 v1 s5 with
          | none => rw [q9] at H; exact False.elim H
          | some q90 =>
            obtain ⟨v7 | v7, s8⟩ := q90
            · rw [q9] at H; dsimp only at H
              have hc := g95_run_23 (Ω := Ω) htr (d + 21)  τ v1 s5 q9
              refine xp_ok htr 3 (d + 25) 0 0 [eC (some (.int v7)) (hM 23 s8 τ)] 93 23 [some (.ref 20), some (.int a1), some (.int v1)] [] (hM 23 s5 τ) ⟨hc, ?_⟩
              show xv l Ω (d + 25) 0 0 93 28 [some (.ref 20), some (.int a1), some (.int v1)] [.int v7] (hM 23 s8 τ) r
              by_cases h10 : v7 = 0
              · rw [if_pos h10] at H
                refine xp_ok htr 1 (d + 25) 0 0 [eB false] 93 28 [some (.ref 20), some (.int a1), some (.int v1)] [.int v7] (hM 23 s8 τ) ⟨h10, ?_⟩
                show xv l Ω (d + 25) 0 0 93 31 [some (.ref 20), some (.int a1), some (.int v1)] [] (hM 23 s8 τ) r
                exact xp_ok htr 2 (d + 25) 0 0 [] 93 31 [some (.ref 20), some (.int a1), some (.int v1)] [] (hM 23 s8 τ) ⟨Or.inl rfl, (Eq.symm H)⟩
              · rw [if_neg h10] at H
                refine xp_ok htr 1 (d + 25) 0 0 [eB true] 93 28 [some (.ref 20), some (.int a1), some (.int v1)] [.int v7] (hM 23 s8 τ) ⟨h10, ?_⟩
                show xv l Ω (d + 25) 0 0 93 33 [some (.ref 20), some (.int a1), some (.int v1)] [] (hM 23 s8 τ) r
                cases q13 : g102 63 s8 with
                | none => rw [q13] at H; exact False.elim H
                | some q130 =>
                  obtain ⟨v11 | v11, s12⟩ := q130
                  · rw [q13] at H; dsimp only at H
                    have hc := g102_run (Ω := Ω) htr (d + 23) 23 τ 63 s8 q13
                    refine xp_ok htr 3 (d + 25) 0 0 [eC (some (.int v11)) (hM 23 s12 τ)] 93 33 [some (.ref 20), some (.int a1), some (.int v1)] [] (hM 23 s8 τ) ⟨hc, ?_⟩
                    show xv l Ω (d + 25) 0 0 93 39 [some (.ref 20), some (.int a1), some (.int v1)] [.int v11] (hM 23 s12 τ) r
                    by_cases h14 : v11 = 0
                    · rw [if_pos h14] at H
                      refine xp_ok htr 1 (d + 25) 0 0 [eB true] 93 39 [some (.ref 20), some (.int a1), some (.int v1)] [.int v11] (hM 23 s12 τ) ⟨h14, ?_⟩
                      show xv l Ω (d + 25) 0 0 93 52 [some (.ref 20), some (.int a1), some (.int v1)] [] (hM 23 s12 τ) r
                      exact xv_sub (L' := [some (.ref 20), none, some (.int v1)]) ⟨rfl, ⟨rfl, trivial⟩⟩ (g93_52_ok_23 htr d  τ v1 s12 r H)
                    · rw [if_neg h14] at H
                      refine xp_ok htr 1 (d + 25) 0 0 [eB false] 93 39 [some (.ref 20), some (.int a1), some (.int v1)] [.int v11] (hM 23 s12 τ) ⟨h14, ?_⟩
                      show xv l Ω (d + 25) 0 0 93 42 [some (.ref 20), some (.int a1), some (.int v1)] [] (hM 23 s12 τ) r
                      cases q26 : g103 23 8 0 s12 with
                      | none => rw [q26] at H; exact False.elim H
                      | some q260 =>
                        obtain ⟨v24 | v24, s25⟩ := q260
                        · rw [q26] at H; dsimp only at H
                          have hc := g103_run_23 (Ω := Ω) htr d  τ 0 s12 q26
                          refine xp_ok htr 3 (d + 25) 0 0 [eC (some (.int v24)) (hM 23 s25 τ)] 93 42 [some (.ref 20), some (.int a1), some (.int v1)] [] (hM 23 s12 τ) ⟨hc, ?_⟩
                          show xv l Ω (d + 25) 0 0 93 47 [some (.ref 20), some (.int a1), some (.int v1)] [.int v24] (hM 23 s25 τ) r
                          by_cases h27 : v24 = 0
                          · rw [if_pos h27] at H
                            refine xp_ok htr 1 (d + 25) 0 0 [eB false] 93 47 [some (.ref 20), some (.int a1), some (.int v1)] [.int v24] (hM 23 s25 τ) ⟨h27, ?_⟩
                            show xv l Ω (d + 25) 0 0 93 50 [some (.ref 20), some (.int a1), some (.int v1)] [] (hM 23 s25 τ) r
                            exact xp_ok htr 2 (d + 25) 0 0 [] 93 50 [some (.ref 20), some (.int a1), some (.int v1)] [] (hM 23 s25 τ) ⟨Or.inl rfl, (Eq.symm H)⟩
                          · rw [if_neg h27] at H
                            refine xp_ok htr 1 (d + 25) 0 0 [eB true] 93 47 [some (.ref 20), some (.int a1), some (.int v1)] [.int v24] (hM 23 s25 τ) ⟨h27, ?_⟩
                            show xv l Ω (d + 25) 0 0 93 52 [some (.ref 20), some (.int a1), some (.int v1)] [] (hM 23 s25 τ) r
                            exact xv_sub (L' := [some (.ref 20), none, some (.int v1)]) ⟨rfl, ⟨rfl, trivial⟩⟩ (g93_52_ok_23 htr d  τ v1 s25 r H)
                        · rw [q26] at H; exact False.elim H
                  · rw [q13] at H; exact False.elim H
            · rw [q9] at H; exact False.elim H
        · rw [q6] at H; exact False.elim H
    · rw [q3] at H; exact False.elim H
theorem g93_52_ok_36 {l : Launch} {Ω : xo_O} (htr : xH l) (d : Nat) (τ : Nat → Nat → Int64) (x2 : Int32) (σ : xS) (r : xv_R) (H : xo (xB false 36 τ r) (g93_52 36 x2 σ)) : xv l Ω (d + 25) 0 0 93 52 [some (.ref 20), none, some (.int x2)] [] (hM 36 σ τ) r := by
  unfold g93_52 at H
  cases g15 : xn x2 40 with
  | false => rw [g15, cond_false] at H; exact False.elim H
  | true =>
    rw [g15, cond_true] at H
    refine xp_ok htr 8 (d + 25) 0 0 [] 93 52 [some (.ref 20), none, some (.int x2)] [] (hM 36 σ τ) ⟨(xn_in g15), ?_⟩
    show xv l Ω (d + 25) 0 0 93 68 [some (.ref 20), none, some (.int x2)] [] (hM 36 (xh_ui σ (36 + 7) (Int32.toNatClampNeg x2) (σ 36 11)) τ) r
    cases q18 : g105 43 (xh_ui σ (36 + 7) (Int32.toNatClampNeg x2) (σ 36 11)) with
    | none => rw [q18] at H; exact False.elim H
    | some q180 =>
      obtain ⟨v16 | v16, s17⟩ := q180
      · rw [q18] at H; dsimp only at H
        have hc := g105_run (Ω := Ω) htr (d + 22) 36 τ 43 (xh_ui σ (36 + 7) (Int32.toNatClampNeg x2) (σ 36 11)) q18
        refine xp_ok htr 3 (d + 25) 0 0 [eC (some (.int v16)) (hM 36 s17 τ)] 93 68 [some (.ref 20), none, some (.int x2)] [] (hM 36 (xh_ui σ (36 + 7) (Int32.toNatClampNeg x2) (σ 36 11)) τ) ⟨hc, ?_⟩
        show xv l Ω (d + 25) 0 0 93 74 [some (.ref 20), none, some (.int x2)] [.int v16] (hM 36 s17 τ) r
        by_cases h19 : v16 = 0
        · rw [if_pos h19] at H
          refine xp_ok htr 1 (d + 25) 0 0 [eB false] 93 74 [some (.ref 20), none, some (.int x2)] [.int v16] (hM 36 s17 τ) ⟨h19, ?_⟩
          show xv l Ω (d + 25) 0 0 93 77 [some (.ref 20), none, some (.int x2)] [] (hM 36 s17 τ) r
          exact xp_ok htr 2 (d + 25) 0 0 [] 93 77 [some (.ref 20), none, some (.int x2)] [] (hM 36 s17 τ) ⟨Or.inl rfl, (Eq.symm H)⟩
        · rw [if_neg h19] at H
          refine xp_ok htr 1 (d + 25) 0 0 [eB true] 93 74 [some (.ref 20), none, some (.int x2)] [.int v16] (hM 36 s17 τ) ⟨h19, ?_⟩
          show xv l Ω (d + 25) 0 0 93 79 [some (.ref 20), none, some (.int x2)] [] (hM 36 s17 τ) r
          refine xp_ok htr 8 (d + 25) 0 0 [] 93 79 [some (.ref 20), none, some (.int x2)] [] (hM 36 s17 τ) ⟨(xn_in g15), ?_⟩
          show xv l Ω (d + 25) 0 0 93 93 [some (.ref 20), none, some (.int x2)] [.ref 20] (hM 36 (xh_ui s17 (36 + 3) (Int32.toNatClampNeg x2) (s17 20 4)) τ) r
          refine xp_ok htr 8 (d + 25) 0 0 [] 93 93 [some (.ref 20), none, some (.int x2)] [.ref 20] (hM 36 (xh_ui s17 (36 + 3) (Int32.toNatClampNeg x2) (s17 20 4)) τ) ⟨(xn_in g15), ?_⟩
          show xv l Ω (d + 25) 0 0 93 108 [some (.ref 20), none, some (.int x2)] [.int 59, .ref 20] (hM 36 (xh_ui (xh_ui s17 (36 + 3) (Int32.toNatClampNeg x2) (s17 20 4)) (36 + 4) (Int32.toNatClampNeg x2) ((xh_ui s17 (36 + 3) (Int32.toNatClampNeg x2) (s17 20 4)) 20 4)) τ) r
          cases q22 : g102 59 (xh_ui (xh_ui s17 (36 + 3) (Int32.toNatClampNeg x2) (s17 20 4)) (36 + 4) (Int32.toNatClampNeg x2) ((xh_ui s17 (36 + 3) (Int32.toNatClampNeg x2) (s17 20 4)) 20 4)) with
          | none => rw [q22] at H; exact False.elim H
          | some q220 =>
            obtain ⟨v20 | v20, s21⟩ := q220
            · rw [q22] at H; dsimp only at H
              have hc := g102_run (Ω := Ω) htr (d + 23) 36 τ 59 (xh_ui (xh_ui s17 (36 + 3) (Int32.toNatClampNeg x2) (s17 20 4)) (36 + 4) (Int32.toNatClampNeg x2) ((xh_ui s17 (36 + 3) (Int32.toNatClampNeg x2) (s17 20 4)) 20 4)) q22
              refine xp_ok htr 1 (d + 25) 0 0 [eC (some (.int v20)) (hM 36 s21 τ)] 93 108 [some (.ref 20), none, some (.int x2)] [.int 59, .ref 20] (hM 36 (xh_ui (xh_ui s17 (36 + 3) (Int32.toNatClampNeg x2) (s17 20 4)) (36 + 4) (Int32.toNatClampNeg x2) ((xh_ui s17 (36 + 3) (Int32.toNatClampNeg x2) (s17 20 4)) 20 4)) τ) ⟨hc, ?_⟩
              show xv l Ω (d + 25) 0 0 93 111 [some (.ref 20), none, some (.int x2)] [.int v20] (hM 36 s21 τ) r
              cases g23 : decide (v20 = 0 ∨ v20 = 1) with
              | false => rw [g23, cond_false] at H; exact False.elim H
              | true =>
                rw [g23, cond_true] at H
                exact xp_ok htr 1 (d + 25) 0 0 [] 93 111 [some (.ref 20), none, some (.int x2)] [.int v20] (hM 36 s21 τ) ⟨(xb01 g23), (Eq.symm H)⟩
            · rw [q22] at H; exact False.elim H
      · rw [q18] at H; exact False.elim H
theorem g93_run_36 {l : Launch} {Ω : xo_O} (htr : xH l) (d : Nat) (τ : Nat → Nat → Int64) (a1 : Int32) (σ : xS) {q : xQ} (hq : g93 36 a1 σ = some q) : xv l Ω (d + 25) 0 0 93 0 (xs_loc (xm_l 93) [.ref 20, .int a1]) [] (hM 36 σ τ) (xq_R false 36 τ q) := by
  have H : xo (xB false 36 τ (xq_R false 36 τ q)) (g93 36 a1 σ) := by rw [hq]; exact rfl
  generalize xq_R false 36 τ q = r at H ⊢
  show xv l Ω (d + 25) 0 0 93 0 [some (.ref 20), some (.int a1), none] [] (hM 36 σ τ) r
  unfold g93 at H
  cases q3 : g94 36 (σ 20 3) a1 σ with
  | none => rw [q3] at H; exact False.elim H
  | some q30 =>
    obtain ⟨v1 | v1, s2⟩ := q30
    · rw [q3] at H; dsimp only at H
      have hc := g94_run_36 (Ω := Ω) htr (d + 24) 36 τ (σ 20 3) a1 σ q3
      refine xp_ok htr 6 (d + 25) 0 0 [eC (some (.int v1)) (hM 36 s2 τ)] 93 0 [some (.ref 20), some (.int a1), none] [] (hM 36 σ τ) ⟨hc, ?_⟩
      show xv l Ω (d + 25) 0 0 93 12 [some (.ref 20), some (.int a1), none] [.int v1] (hM 36 s2 τ) r
      cases q6 : g90 ((s2 20 2) + 1) s2 with
      | none => rw [q6] at H; exact False.elim H
      | some q60 =>
        obtain ⟨v4 | v4, s5⟩ := q60
        · rw [q6] at H; dsimp only at H
          have hc := g90_run (Ω := Ω) htr (d + 24) 36 τ ((s2 20 2) + 1) s2 q6
          refine xp_ok htr 7 (d + 25) 0 0 [eC none (hM 36 s5 τ)] 93 12 [some (.ref 20), some (.int a1), none] [.int v1] (hM 36 s2 τ) ⟨hc, ?_⟩
          show xv l Ω (d + 25) 0 0 93 23 [some (.ref 20), some (.int a1), some (.int v1)] [] (hM 36 s5 τ) r
          cases q9 : g95 36 v1 s5 with
          | none => rw [q9] at H; exact False.elim H
          | some q90 =>
            obtain ⟨v7 | v7, s8⟩ := q90
            · rw [q9] at H; dsimp only at H
              have hc := g95_run_36 (Ω := Ω) htr (d + 21)  τ v1 s5 q9
              refine xp_ok htr 3 (d + 25) 0 0 [eC (some (.int v7)) (hM 36 s8 τ)] 93 23 [some (.ref 20), some (.int a1), some (.int v1)] [] (hM 36 s5 τ) ⟨hc, ?_⟩
              show xv l Ω (d + 25) 0 0 93 28 [some (.ref 20), some (.int a1), some (.int v1)] [.int v7] (hM 36 s8 τ) r
              by_cases h10 : v7 = 0
              · rw [if_pos h10] at H
                refine xp_ok htr 1 (d + 25) 0 0 [eB false] 93 28 [some (.ref 20), some (.int a1), some (.int v1)] [.int v7] (hM 36 s8 τ) ⟨h10, ?_⟩
                show xv l Ω (d + 25) 0 0 93 31 [some (.ref 20), some (.int a1), some (.int v1)] [] (hM 36 s8 τ) r
                exact xp_ok htr 2 (d + 25) 0 0 [] 93 31 [some (.ref 20), some (.int a1), some (.int v1)] [] (hM 36 s8 τ) ⟨Or.inl rfl, (Eq.symm H)⟩
              · rw [if_neg h10] at H
                refine xp_ok htr 1 (d + 25) 0 0 [eB true] 93 28 [some (.ref 20), some (.int a1), some (.int v1)] [.int v7] (hM 36 s8 τ) ⟨h10, ?_⟩
                show xv l Ω (d + 25) 0 0 93 33 [some (.ref 20), some (.int a1), some (.int v1)] [] (hM 36 s8 τ) r
                cases q13 : g102 63 s8 with
                | none => rw [q13] at H; exact False.elim H
                | some q130 =>
                  obtain ⟨v11 | v11, s12⟩ := q130
                  · rw [q13] at H; dsimp only at H
                    have hc := g102_run (Ω := Ω) htr (d + 23) 36 τ 63 s8 q13
                    refine xp_ok htr 3 (d + 25) 0 0 [eC (some (.int v11)) (hM 36 s12 τ)] 93 33 [some (.ref 20), some (.int a1), some (.int v1)] [] (hM 36 s8 τ) ⟨hc, ?_⟩
                    show xv l Ω (d + 25) 0 0 93 39 [some (.ref 20), some (.int a1), some (.int v1)] [.int v11] (hM 36 s12 τ) r
                    by_cases h14 : v11 = 0
                    · rw [if_pos h14] at H
                      refine xp_ok htr 1 (d + 25) 0 0 [eB true] 93 39 [some (.ref 20), some (.int a1), some (.int v1)] [.int v11] (hM 36 s12 τ) ⟨h14, ?_⟩
                      show xv l Ω (d + 25) 0 0 93 52 [some (.ref 20), some (.int a1), some (.int v1)] [] (hM 36 s12 τ) r
                      exact xv_sub (L' := [some (.ref 20), none, some (.int v1)]) ⟨rfl, ⟨rfl, trivial⟩⟩ (g93_52_ok_36 htr d  τ v1 s12 r H)
                    · rw [if_neg h14] at H
                      refine xp_ok htr 1 (d + 25) 0 0 [eB false] 93 39 [some (.ref 20), some (.int a1), some (.int v1)] [.int v11] (hM 36 s12 τ) ⟨h14, ?_⟩
                      show xv l Ω (d + 25) 0 0 93 42 [some (.ref 20), some (.int a1), some (.int v1)] [] (hM 36 s12 τ) r
                      cases q26 : g103 36 8 0 s12 with
                      | none => rw [q26] at H; exact False.elim H
                      | some q260 =>
                        obtain ⟨v24 | v24, s25⟩ := q260
                        · rw [q26] at H; dsimp only at H
                          have hc := g103_run_36 (Ω := Ω) htr d  τ 0 s12 q26
                          refine xp_ok htr 3 (d + 25) 0 0 [eC (some (.int v24)) (hM 36 s25 τ)] 93 42 [some (.ref 20), some (.int a1), some (.int v1)] [] (hM 36 s12 τ) ⟨hc, ?_⟩
                          show xv l Ω (d + 25) 0 0 93 47 [some (.ref 20), some (.int a1), some (.int v1)] [.int v24] (hM 36 s25 τ) r
                          by_cases h27 : v24 = 0
                          · rw [if_pos h27] at H
                            refine xp_ok htr 1 (d + 25) 0 0 [eB false] 93 47 [some (.ref 20), some (.int a1), some (.int v1)] [.int v24] (hM 36 s25 τ) ⟨h27, ?_⟩
                            show xv l Ω (d + 25) 0 0 93 50 [some (.ref 20), some (.int a1), some (.int v1)] [] (hM 36 s25 τ) r
                            exact xp_ok htr 2 (d + 25) 0 0 [] 93 50 [some (.ref 20), some (.int a1), some (.int v1)] [] (hM 36 s25 τ) ⟨Or.inl rfl, (Eq.symm H)⟩
                          · rw [if_neg h27] at H
                            refine xp_ok htr 1 (d + 25) 0 0 [eB true] 93 47 [some (.ref 20), some (.int a1), some (.int v1)] [.int v24] (hM 36 s25 τ) ⟨h27, ?_⟩
                            show xv l Ω (d + 25) 0 0 93 52 [some (.ref 20), some (.int a1), some (.int v1)] [] (hM 36 s25 τ) r
                            exact xv_sub (L' := [some (.ref 20), none, some (.int v1)]) ⟨rfl, ⟨rfl, trivial⟩⟩ (g93_52_ok_36 htr d  τ v1 s25 r H)
                        · rw [q26] at H; exact False.elim H
                  · rw [q13] at H; exact False.elim H
            · rw [q9] at H; exact False.elim H
        · rw [q6] at H; exact False.elim H
    · rw [q3] at H; exact False.elim H
