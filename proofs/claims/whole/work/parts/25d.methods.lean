/-! the methods as functions: laid by program (wip/whole/dec.py) -/
/- AccessDesk$Reader.isCombining -/
def g106 (a0 : Int32) (σ : xS) : xO := (if a0 = 68 then some ((Sum.inl 1, σ)) else (if a0 = 70 then some ((Sum.inl 1, σ)) else (if a0 = 79 then some ((Sum.inl 1, σ)) else (if a0 = 80 then some ((Sum.inl 1, σ)) else (if a0 = 88 then some ((Sum.inl 1, σ)) else (if a0 = 89 then some ((Sum.inl 1, σ)) else some ((Sum.inl 0, σ))))))))
theorem g106_run {l : Launch} {Ω : xo_O} (htr : xH l) (d : Nat) (p : Nat) (τ : Nat → Nat → Int64) (a0 : Int32) (σ : xS) {q : xQ} (hq : g106 a0 σ = some q) : xv l Ω d 0 0 106 0 (xs_loc (xm_l 106) [.int a0]) [] (hM p σ τ) (xq_R false p τ q) := by
  have H : xo (xB false p τ (xq_R false p τ q)) (g106 a0 σ) := by rw [hq]; exact rfl
  generalize xq_R false p τ q = r at H ⊢
  show xv l Ω d 0 0 106 0 [some (.int a0)] [] (hM p σ τ) r
  unfold g106 at H
  by_cases h1_0 : a0 = 68
  · rw [if_pos h1_0] at H
    refine xp_ok htr 2 d 0 0 [eS (some 68)] 106 0 [some (.int a0)] [] (hM p σ τ) ⟨h1_0, ?_⟩
    show xv l Ω d 0 0 106 60 [some (.int a0)] [] (hM p σ τ) r
    exact xp_ok htr 2 d 0 0 [] 106 60 [some (.int a0)] [] (hM p σ τ) ⟨Or.inr rfl, (Eq.symm H)⟩
  rw [if_neg h1_0] at H
  by_cases h1_1 : a0 = 70
  · rw [if_pos h1_1] at H
    refine xp_ok htr 2 d 0 0 [eS (some 70)] 106 0 [some (.int a0)] [] (hM p σ τ) ⟨h1_1, ?_⟩
    show xv l Ω d 0 0 106 60 [some (.int a0)] [] (hM p σ τ) r
    exact xp_ok htr 2 d 0 0 [] 106 60 [some (.int a0)] [] (hM p σ τ) ⟨Or.inr rfl, (Eq.symm H)⟩
  rw [if_neg h1_1] at H
  by_cases h1_2 : a0 = 79
  · rw [if_pos h1_2] at H
    refine xp_ok htr 2 d 0 0 [eS (some 79)] 106 0 [some (.int a0)] [] (hM p σ τ) ⟨h1_2, ?_⟩
    show xv l Ω d 0 0 106 60 [some (.int a0)] [] (hM p σ τ) r
    exact xp_ok htr 2 d 0 0 [] 106 60 [some (.int a0)] [] (hM p σ τ) ⟨Or.inr rfl, (Eq.symm H)⟩
  rw [if_neg h1_2] at H
  by_cases h1_3 : a0 = 80
  · rw [if_pos h1_3] at H
    refine xp_ok htr 2 d 0 0 [eS (some 80)] 106 0 [some (.int a0)] [] (hM p σ τ) ⟨h1_3, ?_⟩
    show xv l Ω d 0 0 106 60 [some (.int a0)] [] (hM p σ τ) r
    exact xp_ok htr 2 d 0 0 [] 106 60 [some (.int a0)] [] (hM p σ τ) ⟨Or.inr rfl, (Eq.symm H)⟩
  rw [if_neg h1_3] at H
  by_cases h1_4 : a0 = 88
  · rw [if_pos h1_4] at H
    refine xp_ok htr 2 d 0 0 [eS (some 88)] 106 0 [some (.int a0)] [] (hM p σ τ) ⟨h1_4, ?_⟩
    show xv l Ω d 0 0 106 60 [some (.int a0)] [] (hM p σ τ) r
    exact xp_ok htr 2 d 0 0 [] 106 60 [some (.int a0)] [] (hM p σ τ) ⟨Or.inr rfl, (Eq.symm H)⟩
  rw [if_neg h1_4] at H
  by_cases h1_5 : a0 = 89
  · rw [if_pos h1_5] at H
    refine xp_ok htr 2 d 0 0 [eS (some 89)] 106 0 [some (.int a0)] [] (hM p σ τ) ⟨h1_5, ?_⟩
    show xv l Ω d 0 0 106 60 [some (.int a0)] [] (hM p σ τ) r
    exact xp_ok htr 2 d 0 0 [] 106 60 [some (.int a0)] [] (hM p σ τ) ⟨Or.inr rfl, (Eq.symm H)⟩
  rw [if_neg h1_5] at H
  refine xp_ok htr 2 d 0 0 [eS none] 106 0 [some (.int a0)] [] (hM p σ τ) ⟨⟨h1_0, h1_1, h1_2, h1_3, h1_4, h1_5, trivial⟩, ?_⟩
  show xv l Ω d 0 0 106 62 [some (.int a0)] [] (hM p σ τ) r
  exact xp_ok htr 2 d 0 0 [] 106 62 [some (.int a0)] [] (hM p σ τ) ⟨Or.inl rfl, (Eq.symm H)⟩
/- AccessDesk$Reader.readNodes -/
def g108_2b (p : Nat) (rc : Int32 → Int32 → xS → xO) (x1 : Int32) (x2 : Int32) (x3 : Int32) (σ : xS) : Option ((Int32 × Int32 × Int32 × xS) ⊕ xQ) := (if 40 ≤ x3 then some (Sum.inr ((Sum.inl 0, σ))) else (match rc x1 x2 σ with | some (Sum.inl v2, s3) => (if v2 = 0 then some (Sum.inr ((Sum.inl 0, s3))) else (match g102 125 s3 with | some (Sum.inl v6, s7) => (if v6 = 0 then some (Sum.inl (x1, x2, (x3 + 1), s7)) else some (Sum.inr ((Sum.inl 1, s7)))) | some (Sum.inr v6, s7) => none | none => none)) | some (Sum.inr v2, s3) => none | none => none))
def g108_2 (p : Nat) (rc : Int32 → Int32 → xS → xO) (x1 : Int32) (x2 : Int32) (x3 : Int32) (σ : xS) : Option xQ := xlo (fun a : Int32 × Int32 × Int32 × xS => g108_2b p rc a.1 a.2.1 a.2.2.1 a.2.2.2) 1000 (x1, x2, x3, σ)
def g108 (p : Nat) (rc : Int32 → Int32 → xS → xO) (a1 : Int32) (a2 : Int32) (σ : xS) : xO := g108_2 p rc a1 a2 0 σ
def a108_2 (l : Launch) (Ω : xo_O) (d p : Nat) (τ : Nat → Nat → Int64) (r : xv_R) : Int32 × Int32 × Int32 × xS → Prop := fun a => xv l Ω (d + 2) 0 0 108 2 [some (.ref 20), some (.int a.1), some (.int a.2.1), some (.int a.2.2.1)] [] (hM p a.2.2.2 τ) r
theorem g108_2b_ok_23 {l : Launch} {Ω : xo_O} (htr : xH l) (d : Nat) (τ : Nat → Nat → Int64) (rc : Int32 → Int32 → xS → xO) (hrc : ∀ (b1 b2 : Int32) (σ : xS) (q : xQ), rc b1 b2 σ = some q → xv l Ω d 0 0 91 0 (xs_loc (xm_l 91) [.ref 20, .int b1, .int b2]) [] (hM 23 σ τ) (xq_R false 23 τ q)) (x1 : Int32) (x2 : Int32) (x3 : Int32) (σ : xS) (r : xv_R) (H : xo (xd (a108_2 l Ω d 23 τ r) (xB false 23 τ r)) (g108_2b 23 rc x1 x2 x3 σ)) : xv l Ω (d + 2) 0 0 108 2 [some (.ref 20), some (.int x1), some (.int x2), some (.int x3)] [] (hM 23 σ τ) r := by
  unfold g108_2b at H
  by_cases h1 : 40 ≤ x3
  · rw [if_pos h1] at H
    refine xp_ok htr 3 (d + 2) 0 0 [eB true] 108 2 [some (.ref 20), some (.int x1), some (.int x2), some (.int x3)] [] (hM 23 σ τ) ⟨h1, ?_⟩
    show xv l Ω (d + 2) 0 0 108 36 [some (.ref 20), some (.int x1), some (.int x2), some (.int x3)] [] (hM 23 σ τ) r
    exact xp_ok htr 2 (d + 2) 0 0 [] 108 36 [some (.ref 20), some (.int x1), some (.int x2), some (.int x3)] [] (hM 23 σ τ) ⟨Or.inl rfl, (Eq.symm H)⟩
  · rw [if_neg h1] at H
    refine xp_ok htr 3 (d + 2) 0 0 [eB false] 108 2 [some (.ref 20), some (.int x1), some (.int x2), some (.int x3)] [] (hM 23 σ τ) ⟨h1, ?_⟩
    show xv l Ω (d + 2) 0 0 108 8 [some (.ref 20), some (.int x1), some (.int x2), some (.int x3)] [] (hM 23 σ τ) r
    cases q4 : rc x1 x2 σ with
    | none => rw [q4] at H; exact False.elim H
    | some q40 =>
      obtain ⟨v2 | v2, s3⟩ := q40
      · rw [q4] at H; dsimp only at H
        have hc := xv_mono (d' := d + 1) (Nat.le_add_right _ _) (Nat.le_refl _) (Nat.le_refl _) (hrc x1 x2 σ _ q4)
        refine xp_ok htr 4 (d + 2) 0 0 [eC (some (.int v2)) (hM 23 s3 τ)] 108 8 [some (.ref 20), some (.int x1), some (.int x2), some (.int x3)] [] (hM 23 σ τ) ⟨hc, ?_⟩
        show xv l Ω (d + 2) 0 0 108 14 [some (.ref 20), some (.int x1), some (.int x2), some (.int x3)] [.int v2] (hM 23 s3 τ) r
        by_cases h5 : v2 = 0
        · rw [if_pos h5] at H
          refine xp_ok htr 1 (d + 2) 0 0 [eB false] 108 14 [some (.ref 20), some (.int x1), some (.int x2), some (.int x3)] [.int v2] (hM 23 s3 τ) ⟨h5, ?_⟩
          show xv l Ω (d + 2) 0 0 108 17 [some (.ref 20), some (.int x1), some (.int x2), some (.int x3)] [] (hM 23 s3 τ) r
          exact xp_ok htr 2 (d + 2) 0 0 [] 108 17 [some (.ref 20), some (.int x1), some (.int x2), some (.int x3)] [] (hM 23 s3 τ) ⟨Or.inl rfl, (Eq.symm H)⟩
        · rw [if_neg h5] at H
          refine xp_ok htr 1 (d + 2) 0 0 [eB true] 108 14 [some (.ref 20), some (.int x1), some (.int x2), some (.int x3)] [.int v2] (hM 23 s3 τ) ⟨h5, ?_⟩
          show xv l Ω (d + 2) 0 0 108 19 [some (.ref 20), some (.int x1), some (.int x2), some (.int x3)] [] (hM 23 s3 τ) r
          cases q8 : g102 125 s3 with
          | none => rw [q8] at H; exact False.elim H
          | some q80 =>
            obtain ⟨v6 | v6, s7⟩ := q80
            · rw [q8] at H; dsimp only at H
              have hc := g102_run (Ω := Ω) htr d 23 τ 125 s3 q8
              refine xp_ok htr 3 (d + 2) 0 0 [eC (some (.int v6)) (hM 23 s7 τ)] 108 19 [some (.ref 20), some (.int x1), some (.int x2), some (.int x3)] [] (hM 23 s3 τ) ⟨hc, ?_⟩
              show xv l Ω (d + 2) 0 0 108 25 [some (.ref 20), some (.int x1), some (.int x2), some (.int x3)] [.int v6] (hM 23 s7 τ) r
              by_cases h9 : v6 = 0
              · rw [if_pos h9] at H
                refine xp_ok htr 1 (d + 2) 0 0 [eB true] 108 25 [some (.ref 20), some (.int x1), some (.int x2), some (.int x3)] [.int v6] (hM 23 s7 τ) ⟨h9, ?_⟩
                show xv l Ω (d + 2) 0 0 108 30 [some (.ref 20), some (.int x1), some (.int x2), some (.int x3)] [] (hM 23 s7 τ) r
                refine xp_ok htr 2 (d + 2) 0 0 [] 108 30 [some (.ref 20), some (.int x1), some (.int x2), some (.int x3)] [] (hM 23 s7 τ) ?_
                show xv l Ω (d + 2) 0 0 108 2 [some (.ref 20), some (.int x1), some (.int x2), some (.int (x3 + 1))] [] (hM 23 s7 τ) r
                exact xv_sub (L' := [some (.ref 20), some (.int x1), some (.int x2), some (.int (x3 + 1))]) ⟨rfl, ⟨rfl, ⟨rfl, ⟨rfl, trivial⟩⟩⟩⟩ H
              · rw [if_neg h9] at H
                refine xp_ok htr 1 (d + 2) 0 0 [eB false] 108 25 [some (.ref 20), some (.int x1), some (.int x2), some (.int x3)] [.int v6] (hM 23 s7 τ) ⟨h9, ?_⟩
                show xv l Ω (d + 2) 0 0 108 28 [some (.ref 20), some (.int x1), some (.int x2), some (.int x3)] [] (hM 23 s7 τ) r
                exact xp_ok htr 2 (d + 2) 0 0 [] 108 28 [some (.ref 20), some (.int x1), some (.int x2), some (.int x3)] [] (hM 23 s7 τ) ⟨Or.inr rfl, (Eq.symm H)⟩
            · rw [q8] at H; exact False.elim H
      · rw [q4] at H; exact False.elim H
theorem g108_2_ok_23 {l : Launch} {Ω : xo_O} (htr : xH l) (d : Nat) (τ : Nat → Nat → Int64) (rc : Int32 → Int32 → xS → xO) (hrc : ∀ (b1 b2 : Int32) (σ : xS) (q : xQ), rc b1 b2 σ = some q → xv l Ω d 0 0 91 0 (xs_loc (xm_l 91) [.ref 20, .int b1, .int b2]) [] (hM 23 σ τ) (xq_R false 23 τ q)) (x1 : Int32) (x2 : Int32) (x3 : Int32) (σ : xS) (r : xv_R) (H : xo (xB false 23 τ r) (g108_2 23 rc x1 x2 x3 σ)) : xv l Ω (d + 2) 0 0 108 2 [some (.ref 20), some (.int x1), some (.int x2), some (.int x3)] [] (hM 23 σ τ) r :=
  xlo_ok (A := a108_2 l Ω d 23 τ r) (fun a H => g108_2b_ok_23 htr d  τ rc hrc a.1 a.2.1 a.2.2.1 a.2.2.2 r H) 1000 (x1, x2, x3, σ) H
theorem g108_run_23 {l : Launch} {Ω : xo_O} (htr : xH l) (d : Nat) (τ : Nat → Nat → Int64) (rc : Int32 → Int32 → xS → xO) (hrc : ∀ (b1 b2 : Int32) (σ : xS) (q : xQ), rc b1 b2 σ = some q → xv l Ω d 0 0 91 0 (xs_loc (xm_l 91) [.ref 20, .int b1, .int b2]) [] (hM 23 σ τ) (xq_R false 23 τ q)) (a1 : Int32) (a2 : Int32) (σ : xS) {q : xQ} (hq : g108 23 rc a1 a2 σ = some q) : xv l Ω (d + 2) 0 0 108 0 (xs_loc (xm_l 108) [.ref 20, .int a1, .int a2]) [] (hM 23 σ τ) (xq_R false 23 τ q) := by
  have H : xo (xB false 23 τ (xq_R false 23 τ q)) (g108 23 rc a1 a2 σ) := by rw [hq]; exact rfl
  generalize xq_R false 23 τ q = r at H ⊢
  show xv l Ω (d + 2) 0 0 108 0 [some (.ref 20), some (.int a1), some (.int a2), none] [] (hM 23 σ τ) r
  unfold g108 at H
  refine xp_ok htr 2 (d + 2) 0 0 [] 108 0 [some (.ref 20), some (.int a1), some (.int a2), none] [] (hM 23 σ τ) ?_
  show xv l Ω (d + 2) 0 0 108 2 [some (.ref 20), some (.int a1), some (.int a2), some (.int 0)] [] (hM 23 σ τ) r
  exact xv_sub (L' := [some (.ref 20), some (.int a1), some (.int a2), some (.int 0)]) ⟨rfl, ⟨rfl, ⟨rfl, ⟨rfl, trivial⟩⟩⟩⟩ (g108_2_ok_23 htr d  τ rc hrc a1 a2 0 σ r H)
theorem g108_2b_ok_36 {l : Launch} {Ω : xo_O} (htr : xH l) (d : Nat) (τ : Nat → Nat → Int64) (rc : Int32 → Int32 → xS → xO) (hrc : ∀ (b1 b2 : Int32) (σ : xS) (q : xQ), rc b1 b2 σ = some q → xv l Ω d 0 0 91 0 (xs_loc (xm_l 91) [.ref 20, .int b1, .int b2]) [] (hM 36 σ τ) (xq_R false 36 τ q)) (x1 : Int32) (x2 : Int32) (x3 : Int32) (σ : xS) (r : xv_R) (H : xo (xd (a108_2 l Ω d 36 τ r) (xB false 36 τ r)) (g108_2b 36 rc x1 x2 x3 σ)) : xv l Ω (d + 2) 0 0 108 2 [some (.ref 20), some (.int x1), some (.int x2), some (.int x3)] [] (hM 36 σ τ) r := by
  unfold g108_2b at H
  by_cases h1 : 40 ≤ x3
  · rw [if_pos h1] at H
    refine xp_ok htr 3 (d + 2) 0 0 [eB true] 108 2 [some (.ref 20), some (.int x1), some (.int x2), some (.int x3)] [] (hM 36 σ τ) ⟨h1, ?_⟩
    show xv l Ω (d + 2) 0 0 108 36 [some (.ref 20), some (.int x1), some (.int x2), some (.int x3)] [] (hM 36 σ τ) r
    exact xp_ok htr 2 (d + 2) 0 0 [] 108 36 [some (.ref 20), some (.int x1), some (.int x2), some (.int x3)] [] (hM 36 σ τ) ⟨Or.inl rfl, (Eq.symm H)⟩
  · rw [if_neg h1] at H
    refine xp_ok htr 3 (d + 2) 0 0 [eB false] 108 2 [some (.ref 20), some (.int x1), some (.int x2), some (.int x3)] [] (hM 36 σ τ) ⟨h1, ?_⟩
    show xv l Ω (d + 2) 0 0 108 8 [some (.ref 20), some (.int x1), some (.int x2), some (.int x3)] [] (hM 36 σ τ) r
    cases q4 : rc x1 x2 σ with
    | none => rw [q4] at H; exact False.elim H
    | some q40 =>
      obtain ⟨v2 | v2, s3⟩ := q40
      · rw [q4] at H; dsimp only at H
        have hc := xv_mono (d' := d + 1) (Nat.le_add_right _ _) (Nat.le_refl _) (Nat.le_refl _) (hrc x1 x2 σ _ q4)
        refine xp_ok htr 4 (d + 2) 0 0 [eC (some (.int v2)) (hM 36 s3 τ)] 108 8 [some (.ref 20), some (.int x1), some (.int x2), some (.int x3)] [] (hM 36 σ τ) ⟨hc, ?_⟩
        show xv l Ω (d + 2) 0 0 108 14 [some (.ref 20), some (.int x1), some (.int x2), some (.int x3)] [.int v2] (hM 36 s3 τ) r
        by_cases h5 : v2 = 0
        · rw [if_pos h5] at H
          refine xp_ok htr 1 (d + 2) 0 0 [eB false] 108 14 [some (.ref 20), some (.int x1), some (.int x2), some (.int x3)] [.int v2] (hM 36 s3 τ) ⟨h5, ?_⟩
          show xv l Ω (d + 2) 0 0 108 17 [some (.ref 20), some (.int x1), some (.int x2), some (.int x3)] [] (hM 36 s3 τ) r
          exact xp_ok htr 2 (d + 2) 0 0 [] 108 17 [some (.ref 20), some (.int x1), some (.int x2), some (.int x3)] [] (hM 36 s3 τ) ⟨Or.inl rfl, (Eq.symm H)⟩
        · rw [if_neg h5] at H
          refine xp_ok htr 1 (d + 2) 0 0 [eB true] 108 14 [some (.ref 20), some (.int x1), some (.int x2), some (.int x3)] [.int v2] (hM 36 s3 τ) ⟨h5, ?_⟩
          show xv l Ω (d + 2) 0 0 108 19 [some (.ref 20), some (.int x1), some (.int x2), some (.int x3)] [] (hM 36 s3 τ) r
          cases q8 : g102 125 s3 with
          | none => rw [q8] at H; exact False.elim H
          | some q80 =>
            obtain ⟨v6 | v6, s7⟩ := q80
            · rw [q8] at H; dsimp only at H
              have hc := g102_run (Ω := Ω) htr d 36 τ 125 s3 q8
              refine xp_ok htr 3 (d + 2) 0 0 [eC (some (.int v6)) (hM 36 s7 τ)] 108 19 [some (.ref 20), some (.int x1), some (.int x2), some (.int x3)] [] (hM 36 s3 τ) ⟨hc, ?_⟩
              show xv l Ω (d + 2) 0 0 108 25 [some (.ref 20), some (.int x1), some (.int x2), some (.int x3)] [.int v6] (hM 36 s7 τ) r
              by_cases h9 : v6 = 0
              · rw [if_pos h9] at H
                refine xp_ok htr 1 (d + 2) 0 0 [eB true] 108 25 [some (.ref 20), some (.int x1), some (.int x2), some (.int x3)] [.int v6] (hM 36 s7 τ) ⟨h9, ?_⟩
                show xv l Ω (d + 2) 0 0 108 30 [some (.ref 20), some (.int x1), some (.int x2), some (.int x3)] [] (hM 36 s7 τ) r
                refine xp_ok htr 2 (d + 2) 0 0 [] 108 30 [some (.ref 20), some (.int x1), some (.int x2), some (.int x3)] [] (hM 36 s7 τ) ?_
                show xv l Ω (d + 2) 0 0 108 2 [some (.ref 20), some (.int x1), some (.int x2), some (.int (x3 + 1))] [] (hM 36 s7 τ) r
                exact xv_sub (L' := [some (.ref 20), some (.int x1), some (.int x2), some (.int (x3 + 1))]) ⟨rfl, ⟨rfl, ⟨rfl, ⟨rfl, trivial⟩⟩⟩⟩ H
              · rw [if_neg h9] at H
                refine xp_ok htr 1 (d + 2) 0 0 [eB false] 108 25 [some (.ref 20), some (.int x1), some (.int x2), some (.int x3)] [.int v6] (hM 36 s7 τ) ⟨h9, ?_⟩
                show xv l Ω (d + 2) 0 0 108 28 [some (.ref 20), some (.int x1), some (.int x2), some (.int x3)] [] (hM 36 s7 τ) r
                exact xp_ok htr 2 (d + 2) 0 0 [] 108 28 [some (.ref 20), some (.int x1), some (.int x2), some (.int x3)] [] (hM 36 s7 τ) ⟨Or.inr rfl, (Eq.symm H)⟩
            · rw [q8] at H; exact False.elim H
      · rw [q4] at H; exact False.elim H
theorem g108_2_ok_36 {l : Launch} {Ω : xo_O} (htr : xH l) (d : Nat) (τ : Nat → Nat → Int64) (rc : Int32 → Int32 → xS → xO) (hrc : ∀ (b1 b2 : Int32) (σ : xS) (q : xQ), rc b1 b2 σ = some q → xv l Ω d 0 0 91 0 (xs_loc (xm_l 91) [.ref 20, .int b1, .int b2]) [] (hM 36 σ τ) (xq_R false 36 τ q)) (x1 : Int32) (x2 : Int32) (x3 : Int32) (σ : xS) (r : xv_R) (H : xo (xB false 36 τ r) (g108_2 36 rc x1 x2 x3 σ)) : xv l Ω (d + 2) 0 0 108 2 [some (.ref 20), some (.int x1), some (.int x2), some (.int x3)] [] (hM 36 σ τ) r :=
  xlo_ok (A := a108_2 l Ω d 36 τ r) (fun a H => g108_2b_ok_36 htr d  τ rc hrc a.1 a.2.1 a.2.2.1 a.2.2.2 r H) 1000 (x1, x2, x3, σ) H
theorem g108_run_36 {l : Launch} {Ω : xo_O} (htr : xH l) (d : Nat) (τ : Nat → Nat → Int64) (rc : Int32 → Int32 → xS → xO) (hrc : ∀ (b1 b2 : Int32) (σ : xS) (q : xQ), rc b1 b2 σ = some q → xv l Ω d 0 0 91 0 (xs_loc (xm_l 91) [.ref 20, .int b1, .int b2]) [] (hM 36 σ τ) (xq_R false 36 τ q)) (a1 : Int32) (a2 : Int32) (σ : xS) {q : xQ} (hq : g108 36 rc a1 a2 σ = some q) : xv l Ω (d + 2) 0 0 108 0 (xs_loc (xm_l 108) [.ref 20, .int a1, .int a2]) [] (hM 36 σ τ) (xq_R false 36 τ q) := by
  have H : xo (xB false 36 τ (xq_R false 36 τ q)) (g108 36 rc a1 a2 σ) := by rw [hq]; exact rfl
  generalize xq_R false 36 τ q = r at H ⊢
  show xv l Ω (d + 2) 0 0 108 0 [some (.ref 20), some (.int a1), some (.int a2), none] [] (hM 36 σ τ) r
  unfold g108 at H
  refine xp_ok htr 2 (d + 2) 0 0 [] 108 0 [some (.ref 20), some (.int a1), some (.int a2), none] [] (hM 36 σ τ) ?_
  show xv l Ω (d + 2) 0 0 108 2 [some (.ref 20), some (.int a1), some (.int a2), some (.int 0)] [] (hM 36 σ τ) r
  exact xv_sub (L' := [some (.ref 20), some (.int a1), some (.int a2), some (.int 0)]) ⟨rfl, ⟨rfl, ⟨rfl, ⟨rfl, trivial⟩⟩⟩⟩ (g108_2_ok_36 htr d  τ rc hrc a1 a2 0 σ r H)
/- AccessDesk$Reader.readPolicy -/
def g107 (p : Nat) (rc : Int32 → Int32 → xS → xO) (a1 : Int32) (a2 : Int32) (σ : xS) : xO := (match g94 p (σ 20 3) a1 σ with | some (Sum.inl v1, s2) => (match g90 ((s2 20 2) + 1) s2 with | some (Sum.inl v4, s5) => (match g95 p v1 s5 with | some (Sum.inl v7, s8) => (if v7 = 0 then some ((Sum.inl 0, s8)) else (match g102 123 s8 with | some (Sum.inl v11, s12) => (if v11 = 0 then some ((Sum.inl 0, s12)) else (match g108 p rc v1 a2 s12 with | some (Sum.inl v15, s16) => (if v15 = 0 then some ((Sum.inl 0, s16)) else (match g105 43 s16 with | some (Sum.inl v19, s20) => (if v19 = 0 then some ((Sum.inl 0, s20)) else (bif xn v1 40 then (match g105 45 (xh_ui s20 (p + 3) (Int32.toNatClampNeg v1) (s20 20 4)) with | some (Sum.inl v24, s25) => (if v24 = 0 then some ((Sum.inl 0, s25)) else some ((Sum.inl 1, (xh_ui s25 (p + 4) (Int32.toNatClampNeg v1) (s25 20 4))))) | some (Sum.inr v24, s25) => none | none => none) else none)) | some (Sum.inr v19, s20) => none | none => none)) | some (Sum.inr v15, s16) => none | none => none)) | some (Sum.inr v11, s12) => none | none => none)) | some (Sum.inr v7, s8) => none | none => none) | some (Sum.inr v4, s5) => none | none => none) | some (Sum.inr v1, s2) => none | none => none)
theorem g107_run_23 {l : Launch} {Ω : xo_O} (htr : xH l) (d : Nat) (τ : Nat → Nat → Int64) (rc : Int32 → Int32 → xS → xO) (hrc : ∀ (b1 b2 : Int32) (σ : xS) (q : xQ), rc b1 b2 σ = some q → xv l Ω d 0 0 91 0 (xs_loc (xm_l 91) [.ref 20, .int b1, .int b2]) [] (hM 23 σ τ) (xq_R false 23 τ q)) (a1 : Int32) (a2 : Int32) (σ : xS) {q : xQ} (hq : g107 23 rc a1 a2 σ = some q) : xv l Ω (d + 4) 0 0 107 0 (xs_loc (xm_l 107) [.ref 20, .int a1, .int a2]) [] (hM 23 σ τ) (xq_R false 23 τ q) := by
  have H : xo (xB false 23 τ (xq_R false 23 τ q)) (g107 23 rc a1 a2 σ) := by rw [hq]; exact rfl
  generalize xq_R false 23 τ q = r at H ⊢
  show xv l Ω (d + 4) 0 0 107 0 [some (.ref 20), some (.int a1), some (.int a2), none] [] (hM 23 σ τ) r
  unfold g107 at H
  cases q3 : g94 23 (σ 20 3) a1 σ with
  | none => rw [q3] at H; exact False.elim H
  | some q30 =>
    obtain ⟨v1 | v1, s2⟩ := q30
    · rw [q3] at H; dsimp only at H
      have hc := g94_run_23 (Ω := Ω) htr (d + 3) 23 τ (σ 20 3) a1 σ q3
      refine xp_ok htr 6 (d + 4) 0 0 [eC (some (.int v1)) (hM 23 s2 τ)] 107 0 [some (.ref 20), some (.int a1), some (.int a2), none] [] (hM 23 σ τ) ⟨hc, ?_⟩
      show xv l Ω (d + 4) 0 0 107 12 [some (.ref 20), some (.int a1), some (.int a2), none] [.int v1] (hM 23 s2 τ) r
      cases q6 : g90 ((s2 20 2) + 1) s2 with
      | none => rw [q6] at H; exact False.elim H
      | some q60 =>
        obtain ⟨v4 | v4, s5⟩ := q60
        · rw [q6] at H; dsimp only at H
          have hc := g90_run (Ω := Ω) htr (d + 3) 23 τ ((s2 20 2) + 1) s2 q6
          refine xp_ok htr 7 (d + 4) 0 0 [eC none (hM 23 s5 τ)] 107 12 [some (.ref 20), some (.int a1), some (.int a2), none] [.int v1] (hM 23 s2 τ) ⟨hc, ?_⟩
          show xv l Ω (d + 4) 0 0 107 23 [some (.ref 20), some (.int a1), some (.int a2), some (.int v1)] [] (hM 23 s5 τ) r
          cases q9 : g95 23 v1 s5 with
          | none => rw [q9] at H; exact False.elim H
          | some q90 =>
            obtain ⟨v7 | v7, s8⟩ := q90
            · rw [q9] at H; dsimp only at H
              have hc := g95_run_23 (Ω := Ω) htr d  τ v1 s5 q9
              refine xp_ok htr 3 (d + 4) 0 0 [eC (some (.int v7)) (hM 23 s8 τ)] 107 23 [some (.ref 20), some (.int a1), some (.int a2), some (.int v1)] [] (hM 23 s5 τ) ⟨hc, ?_⟩
              show xv l Ω (d + 4) 0 0 107 28 [some (.ref 20), some (.int a1), some (.int a2), some (.int v1)] [.int v7] (hM 23 s8 τ) r
              by_cases h10 : v7 = 0
              · rw [if_pos h10] at H
                refine xp_ok htr 1 (d + 4) 0 0 [eB true] 107 28 [some (.ref 20), some (.int a1), some (.int a2), some (.int v1)] [.int v7] (hM 23 s8 τ) ⟨h10, ?_⟩
                show xv l Ω (d + 4) 0 0 107 49 [some (.ref 20), some (.int a1), some (.int a2), some (.int v1)] [] (hM 23 s8 τ) r
                exact xp_ok htr 2 (d + 4) 0 0 [] 107 49 [some (.ref 20), some (.int a1), some (.int a2), some (.int v1)] [] (hM 23 s8 τ) ⟨Or.inl rfl, (Eq.symm H)⟩
              · rw [if_neg h10] at H
                refine xp_ok htr 1 (d + 4) 0 0 [eB false] 107 28 [some (.ref 20), some (.int a1), some (.int a2), some (.int v1)] [.int v7] (hM 23 s8 τ) ⟨h10, ?_⟩
                show xv l Ω (d + 4) 0 0 107 31 [some (.ref 20), some (.int a1), some (.int a2), some (.int v1)] [] (hM 23 s8 τ) r
                cases q13 : g102 123 s8 with
                | none => rw [q13] at H; exact False.elim H
                | some q130 =>
                  obtain ⟨v11 | v11, s12⟩ := q130
                  · rw [q13] at H; dsimp only at H
                    have hc := g102_run (Ω := Ω) htr (d + 2) 23 τ 123 s8 q13
                    refine xp_ok htr 3 (d + 4) 0 0 [eC (some (.int v11)) (hM 23 s12 τ)] 107 31 [some (.ref 20), some (.int a1), some (.int a2), some (.int v1)] [] (hM 23 s8 τ) ⟨hc, ?_⟩
                    show xv l Ω (d + 4) 0 0 107 37 [some (.ref 20), some (.int a1), some (.int a2), some (.int v1)] [.int v11] (hM 23 s12 τ) r
                    by_cases h14 : v11 = 0
                    · rw [if_pos h14] at H
                      refine xp_ok htr 1 (d + 4) 0 0 [eB true] 107 37 [some (.ref 20), some (.int a1), some (.int a2), some (.int v1)] [.int v11] (hM 23 s12 τ) ⟨h14, ?_⟩
                      show xv l Ω (d + 4) 0 0 107 49 [some (.ref 20), some (.int a1), some (.int a2), some (.int v1)] [] (hM 23 s12 τ) r
                      exact xp_ok htr 2 (d + 4) 0 0 [] 107 49 [some (.ref 20), some (.int a1), some (.int a2), some (.int v1)] [] (hM 23 s12 τ) ⟨Or.inl rfl, (Eq.symm H)⟩
                    · rw [if_neg h14] at H
                      refine xp_ok htr 1 (d + 4) 0 0 [eB false] 107 37 [some (.ref 20), some (.int a1), some (.int a2), some (.int v1)] [.int v11] (hM 23 s12 τ) ⟨h14, ?_⟩
                      show xv l Ω (d + 4) 0 0 107 40 [some (.ref 20), some (.int a1), some (.int a2), some (.int v1)] [] (hM 23 s12 τ) r
                      cases q17 : g108 23 rc v1 a2 s12 with
                      | none => rw [q17] at H; exact False.elim H
                      | some q170 =>
                        obtain ⟨v15 | v15, s16⟩ := q170
                        · rw [q17] at H; dsimp only at H
                          have hc := xv_mono (d' := d + 3) (by omega) (Nat.le_refl _) (Nat.le_refl _) (g108_run_23 (Ω := Ω) htr d τ rc hrc v1 a2 s12 q17)
                          refine xp_ok htr 4 (d + 4) 0 0 [eC (some (.int v15)) (hM 23 s16 τ)] 107 40 [some (.ref 20), some (.int a1), some (.int a2), some (.int v1)] [] (hM 23 s12 τ) ⟨hc, ?_⟩
                          show xv l Ω (d + 4) 0 0 107 46 [some (.ref 20), some (.int a1), some (.int a2), some (.int v1)] [.int v15] (hM 23 s16 τ) r
                          by_cases h18 : v15 = 0
                          · rw [if_pos h18] at H
                            refine xp_ok htr 1 (d + 4) 0 0 [eB false] 107 46 [some (.ref 20), some (.int a1), some (.int a2), some (.int v1)] [.int v15] (hM 23 s16 τ) ⟨h18, ?_⟩
                            show xv l Ω (d + 4) 0 0 107 49 [some (.ref 20), some (.int a1), some (.int a2), some (.int v1)] [] (hM 23 s16 τ) r
                            exact xp_ok htr 2 (d + 4) 0 0 [] 107 49 [some (.ref 20), some (.int a1), some (.int a2), some (.int v1)] [] (hM 23 s16 τ) ⟨Or.inl rfl, (Eq.symm H)⟩
                          · rw [if_neg h18] at H
                            refine xp_ok htr 1 (d + 4) 0 0 [eB true] 107 46 [some (.ref 20), some (.int a1), some (.int a2), some (.int v1)] [.int v15] (hM 23 s16 τ) ⟨h18, ?_⟩
                            show xv l Ω (d + 4) 0 0 107 51 [some (.ref 20), some (.int a1), some (.int a2), some (.int v1)] [] (hM 23 s16 τ) r
                            cases q21 : g105 43 s16 with
                            | none => rw [q21] at H; exact False.elim H
                            | some q210 =>
                              obtain ⟨v19 | v19, s20⟩ := q210
                              · rw [q21] at H; dsimp only at H
                                have hc := g105_run (Ω := Ω) htr (d + 1) 23 τ 43 s16 q21
                                refine xp_ok htr 3 (d + 4) 0 0 [eC (some (.int v19)) (hM 23 s20 τ)] 107 51 [some (.ref 20), some (.int a1), some (.int a2), some (.int v1)] [] (hM 23 s16 τ) ⟨hc, ?_⟩
                                show xv l Ω (d + 4) 0 0 107 57 [some (.ref 20), some (.int a1), some (.int a2), some (.int v1)] [.int v19] (hM 23 s20 τ) r
                                by_cases h22 : v19 = 0
                                · rw [if_pos h22] at H
                                  refine xp_ok htr 1 (d + 4) 0 0 [eB false] 107 57 [some (.ref 20), some (.int a1), some (.int a2), some (.int v1)] [.int v19] (hM 23 s20 τ) ⟨h22, ?_⟩
                                  show xv l Ω (d + 4) 0 0 107 60 [some (.ref 20), some (.int a1), some (.int a2), some (.int v1)] [] (hM 23 s20 τ) r
                                  exact xp_ok htr 2 (d + 4) 0 0 [] 107 60 [some (.ref 20), some (.int a1), some (.int a2), some (.int v1)] [] (hM 23 s20 τ) ⟨Or.inl rfl, (Eq.symm H)⟩
                                · rw [if_neg h22] at H
                                  refine xp_ok htr 1 (d + 4) 0 0 [eB true] 107 57 [some (.ref 20), some (.int a1), some (.int a2), some (.int v1)] [.int v19] (hM 23 s20 τ) ⟨h22, ?_⟩
                                  show xv l Ω (d + 4) 0 0 107 62 [some (.ref 20), some (.int a1), some (.int a2), some (.int v1)] [] (hM 23 s20 τ) r
                                  cases g23 : xn v1 40 with
                                  | false => rw [g23, cond_false] at H; exact False.elim H
                                  | true =>
                                    rw [g23, cond_true] at H
                                    refine xp_ok htr 8 (d + 4) 0 0 [] 107 62 [some (.ref 20), some (.int a1), some (.int a2), some (.int v1)] [] (hM 23 s20 τ) ⟨(xn_in g23), ?_⟩
                                    show xv l Ω (d + 4) 0 0 107 76 [some (.ref 20), some (.int a1), some (.int a2), some (.int v1)] [.ref 20] (hM 23 (xh_ui s20 (23 + 3) (Int32.toNatClampNeg v1) (s20 20 4)) τ) r
                                    cases q26 : g105 45 (xh_ui s20 (23 + 3) (Int32.toNatClampNeg v1) (s20 20 4)) with
                                    | none => rw [q26] at H; exact False.elim H
                                    | some q260 =>
                                      obtain ⟨v24 | v24, s25⟩ := q260
                                      · rw [q26] at H; dsimp only at H
                                        have hc := g105_run (Ω := Ω) htr (d + 1) 23 τ 45 (xh_ui s20 (23 + 3) (Int32.toNatClampNeg v1) (s20 20 4)) q26
                                        refine xp_ok htr 2 (d + 4) 0 0 [eC (some (.int v24)) (hM 23 s25 τ)] 107 76 [some (.ref 20), some (.int a1), some (.int a2), some (.int v1)] [.ref 20] (hM 23 (xh_ui s20 (23 + 3) (Int32.toNatClampNeg v1) (s20 20 4)) τ) ⟨hc, ?_⟩
                                        show xv l Ω (d + 4) 0 0 107 81 [some (.ref 20), some (.int a1), some (.int a2), some (.int v1)] [.int v24] (hM 23 s25 τ) r
                                        by_cases h27 : v24 = 0
                                        · rw [if_pos h27] at H
                                          refine xp_ok htr 1 (d + 4) 0 0 [eB false] 107 81 [some (.ref 20), some (.int a1), some (.int a2), some (.int v1)] [.int v24] (hM 23 s25 τ) ⟨h27, ?_⟩
                                          show xv l Ω (d + 4) 0 0 107 84 [some (.ref 20), some (.int a1), some (.int a2), some (.int v1)] [] (hM 23 s25 τ) r
                                          exact xp_ok htr 2 (d + 4) 0 0 [] 107 84 [some (.ref 20), some (.int a1), some (.int a2), some (.int v1)] [] (hM 23 s25 τ) ⟨Or.inl rfl, (Eq.symm H)⟩
                                        · rw [if_neg h27] at H
                                          refine xp_ok htr 1 (d + 4) 0 0 [eB true] 107 81 [some (.ref 20), some (.int a1), some (.int a2), some (.int v1)] [.int v24] (hM 23 s25 τ) ⟨h27, ?_⟩
                                          show xv l Ω (d + 4) 0 0 107 86 [some (.ref 20), some (.int a1), some (.int a2), some (.int v1)] [] (hM 23 s25 τ) r
                                          refine xp_ok htr 8 (d + 4) 0 0 [] 107 86 [some (.ref 20), some (.int a1), some (.int a2), some (.int v1)] [] (hM 23 s25 τ) ⟨(xn_in g23), ?_⟩
                                          show xv l Ω (d + 4) 0 0 107 100 [some (.ref 20), some (.int a1), some (.int a2), some (.int v1)] [.int 1] (hM 23 (xh_ui s25 (23 + 4) (Int32.toNatClampNeg v1) (s25 20 4)) τ) r
                                          exact xp_ok htr 1 (d + 4) 0 0 [] 107 100 [some (.ref 20), some (.int a1), some (.int a2), some (.int v1)] [.int 1] (hM 23 (xh_ui s25 (23 + 4) (Int32.toNatClampNeg v1) (s25 20 4)) τ) ⟨Or.inr rfl, (Eq.symm H)⟩
                                      · rw [q26] at H; exact False.elim H
                              · rw [q21] at H; exact False.elim H
                        · rw [q17] at H; exact False.elim H
                  · rw [q13] at H; exact False.elim H
            · rw [q9] at H; exact False.elim H
        · rw [q6] at H; exact False.elim H
    · rw [q3] at H; exact False.elim H
theorem g107_run_36 {l : Launch} {Ω : xo_O} (htr : xH l) (d : Nat) (τ : Nat → Nat → Int64) (rc : Int32 → Int32 → xS → xO) (hrc : ∀ (b1 b2 : Int32) (σ : xS) (q : xQ), rc b1 b2 σ = some q → xv l Ω d 0 0 91 0 (xs_loc (xm_l 91) [.ref 20, .int b1, .int b2]) [] (hM 36 σ τ) (xq_R false 36 τ q)) (a1 : Int32) (a2 : Int32) (σ : xS) {q : xQ} (hq : g107 36 rc a1 a2 σ = some q) : xv l Ω (d + 4) 0 0 107 0 (xs_loc (xm_l 107) [.ref 20, .int a1, .int a2]) [] (hM 36 σ τ) (xq_R false 36 τ q) := by
  have H : xo (xB false 36 τ (xq_R false 36 τ q)) (g107 36 rc a1 a2 σ) := by rw [hq]; exact rfl
  generalize xq_R false 36 τ q = r at H ⊢
  show xv l Ω (d + 4) 0 0 107 0 [some (.ref 20), some (.int a1), some (.int a2), none] [] (hM 36 σ τ) r
  unfold g107 at H
  cases q3 : g94 36 (σ 20 3) a1 σ with
  | none => rw [q3] at H; exact False.elim H
  | some q30 =>
    obtain ⟨v1 | v1, s2⟩ := q30
    · rw [q3] at H; dsimp only at H
      have hc := g94_run_36 (Ω := Ω) htr (d + 3) 36 τ (σ 20 3) a1 σ q3
      refine xp_ok htr 6 (d + 4) 0 0 [eC (some (.int v1)) (hM 36 s2 τ)] 107 0 [some (.ref 20), some (.int a1), some (.int a2), none] [] (hM 36 σ τ) ⟨hc, ?_⟩
      show xv l Ω (d + 4) 0 0 107 12 [some (.ref 20), some (.int a1), some (.int a2), none] [.int v1] (hM 36 s2 τ) r
      cases q6 : g90 ((s2 20 2) + 1) s2 with
      | none => rw [q6] at H; exact False.elim H
      | some q60 =>
        obtain ⟨v4 | v4, s5⟩ := q60
        · rw [q6] at H; dsimp only at H
          have hc := g90_run (Ω := Ω) htr (d + 3) 36 τ ((s2 20 2) + 1) s2 q6
          refine xp_ok htr 7 (d + 4) 0 0 [eC none (hM 36 s5 τ)] 107 12 [some (.ref 20), some (.int a1), some (.int a2), none] [.int v1] (hM 36 s2 τ) ⟨hc, ?_⟩
          show xv l Ω (d + 4) 0 0 107 23 [some (.ref 20), some (.int a1), some (.int a2), some (.int v1)] [] (hM 36 s5 τ) r
          cases q9 : g95 36 v1 s5 with
          | none => rw [q9] at H; exact False.elim H
          | some q90 =>
            obtain ⟨v7 | v7, s8⟩ := q90
            · rw [q9] at H; dsimp only at H
              have hc := g95_run_36 (Ω := Ω) htr d  τ v1 s5 q9
              refine xp_ok htr 3 (d + 4) 0 0 [eC (some (.int v7)) (hM 36 s8 τ)] 107 23 [some (.ref 20), some (.int a1), some (.int a2), some (.int v1)] [] (hM 36 s5 τ) ⟨hc, ?_⟩
              show xv l Ω (d + 4) 0 0 107 28 [some (.ref 20), some (.int a1), some (.int a2), some (.int v1)] [.int v7] (hM 36 s8 τ) r
              by_cases h10 : v7 = 0
              · rw [if_pos h10] at H
                refine xp_ok htr 1 (d + 4) 0 0 [eB true] 107 28 [some (.ref 20), some (.int a1), some (.int a2), some (.int v1)] [.int v7] (hM 36 s8 τ) ⟨h10, ?_⟩
                show xv l Ω (d + 4) 0 0 107 49 [some (.ref 20), some (.int a1), some (.int a2), some (.int v1)] [] (hM 36 s8 τ) r
                exact xp_ok htr 2 (d + 4) 0 0 [] 107 49 [some (.ref 20), some (.int a1), some (.int a2), some (.int v1)] [] (hM 36 s8 τ) ⟨Or.inl rfl, (Eq.symm H)⟩
              · rw [if_neg h10] at H
                refine xp_ok htr 1 (d + 4) 0 0 [eB false] 107 28 [some (.ref 20), some (.int a1), some (.int a2), some (.int v1)] [.int v7] (hM 36 s8 τ) ⟨h10, ?_⟩
                show xv l Ω (d + 4) 0 0 107 31 [some (.ref 20), some (.int a1), some (.int a2), some (.int v1)] [] (hM 36 s8 τ) r
                cases q13 : g102 123 s8 with
                | none => rw [q13] at H; exact False.elim H
                | some q130 =>
                  obtain ⟨v11 | v11, s12⟩ := q130
                  · rw [q13] at H; dsimp only at H
                    have hc := g102_run (Ω := Ω) htr (d + 2) 36 τ 123 s8 q13
                    refine xp_ok htr 3 (d + 4) 0 0 [eC (some (.int v11)) (hM 36 s12 τ)] 107 31 [some (.ref 20), some (.int a1), some (.int a2), some (.int v1)] [] (hM 36 s8 τ) ⟨hc, ?_⟩
                    show xv l Ω (d + 4) 0 0 107 37 [some (.ref 20), some (.int a1), some (.int a2), some (.int v1)] [.int v11] (hM 36 s12 τ) r
                    by_cases h14 : v11 = 0
                    · rw [if_pos h14] at H
                      refine xp_ok htr 1 (d + 4) 0 0 [eB true] 107 37 [some (.ref 20), some (.int a1), some (.int a2), some (.int v1)] [.int v11] (hM 36 s12 τ) ⟨h14, ?_⟩
                      show xv l Ω (d + 4) 0 0 107 49 [some (.ref 20), some (.int a1), some (.int a2), some (.int v1)] [] (hM 36 s12 τ) r
                      exact xp_ok htr 2 (d + 4) 0 0 [] 107 49 [some (.ref 20), some (.int a1), some (.int a2), some (.int v1)] [] (hM 36 s12 τ) ⟨Or.inl rfl, (Eq.symm H)⟩
                    · rw [if_neg h14] at H
                      refine xp_ok htr 1 (d + 4) 0 0 [eB false] 107 37 [some (.ref 20), some (.int a1), some (.int a2), some (.int v1)] [.int v11] (hM 36 s12 τ) ⟨h14, ?_⟩
                      show xv l Ω (d + 4) 0 0 107 40 [some (.ref 20), some (.int a1), some (.int a2), some (.int v1)] [] (hM 36 s12 τ) r
                      cases q17 : g108 36 rc v1 a2 s12 with
                      | none => rw [q17] at H; exact False.elim H
                      | some q170 =>
                        obtain ⟨v15 | v15, s16⟩ := q170
                        · rw [q17] at H; dsimp only at H
                          have hc := xv_mono (d' := d + 3) (by omega) (Nat.le_refl _) (Nat.le_refl _) (g108_run_36 (Ω := Ω) htr d τ rc hrc v1 a2 s12 q17)
                          refine xp_ok htr 4 (d + 4) 0 0 [eC (some (.int v15)) (hM 36 s16 τ)] 107 40 [some (.ref 20), some (.int a1), some (.int a2), some (.int v1)] [] (hM 36 s12 τ) ⟨hc, ?_⟩
                          show xv l Ω (d + 4) 0 0 107 46 [some (.ref 20), some (.int a1), some (.int a2), some (.int v1)] [.int v15] (hM 36 s16 τ) r
                          by_cases h18 : v15 = 0
                          · rw [if_pos h18] at H
                            refine xp_ok htr 1 (d + 4) 0 0 [eB false] 107 46 [some (.ref 20), some (.int a1), some (.int a2), some (.int v1)] [.int v15] (hM 36 s16 τ) ⟨h18, ?_⟩
                            show xv l Ω (d + 4) 0 0 107 49 [some (.ref 20), some (.int a1), some (.int a2), some (.int v1)] [] (hM 36 s16 τ) r
                            exact xp_ok htr 2 (d + 4) 0 0 [] 107 49 [some (.ref 20), some (.int a1), some (.int a2), some (.int v1)] [] (hM 36 s16 τ) ⟨Or.inl rfl, (Eq.symm H)⟩
                          · rw [if_neg h18] at H
                            refine xp_ok htr 1 (d + 4) 0 0 [eB true] 107 46 [some (.ref 20), some (.int a1), some (.int a2), some (.int v1)] [.int v15] (hM 36 s16 τ) ⟨h18, ?_⟩
                            show xv l Ω (d + 4) 0 0 107 51 [some (.ref 20), some (.int a1), some (.int a2), some (.int v1)] [] (hM 36 s16 τ) r
                            cases q21 : g105 43 s16 with
                            | none => rw [q21] at H; exact False.elim H
                            | some q210 =>
                              obtain ⟨v19 | v19, s20⟩ := q210
                              · rw [q21] at H; dsimp only at H
                                have hc := g105_run (Ω := Ω) htr (d + 1) 36 τ 43 s16 q21
                                refine xp_ok htr 3 (d + 4) 0 0 [eC (some (.int v19)) (hM 36 s20 τ)] 107 51 [some (.ref 20), some (.int a1), some (.int a2), some (.int v1)] [] (hM 36 s16 τ) ⟨hc, ?_⟩
                                show xv l Ω (d + 4) 0 0 107 57 [some (.ref 20), some (.int a1), some (.int a2), some (.int v1)] [.int v19] (hM 36 s20 τ) r
                                by_cases h22 : v19 = 0
                                · rw [if_pos h22] at H
                                  refine xp_ok htr 1 (d + 4) 0 0 [eB false] 107 57 [some (.ref 20), some (.int a1), some (.int a2), some (.int v1)] [.int v19] (hM 36 s20 τ) ⟨h22, ?_⟩
                                  show xv l Ω (d + 4) 0 0 107 60 [some (.ref 20), some (.int a1), some (.int a2), some (.int v1)] [] (hM 36 s20 τ) r
                                  exact xp_ok htr 2 (d + 4) 0 0 [] 107 60 [some (.ref 20), some (.int a1), some (.int a2), some (.int v1)] [] (hM 36 s20 τ) ⟨Or.inl rfl, (Eq.symm H)⟩
                                · rw [if_neg h22] at H
                                  refine xp_ok htr 1 (d + 4) 0 0 [eB true] 107 57 [some (.ref 20), some (.int a1), some (.int a2), some (.int v1)] [.int v19] (hM 36 s20 τ) ⟨h22, ?_⟩
                                  show xv l Ω (d + 4) 0 0 107 62 [some (.ref 20), some (.int a1), some (.int a2), some (.int v1)] [] (hM 36 s20 τ) r
                                  cases g23 : xn v1 40 with
                                  | false => rw [g23, cond_false] at H; exact False.elim H
                                  | true =>
                                    rw [g23, cond_true] at H
                                    refine xp_ok htr 8 (d + 4) 0 0 [] 107 62 [some (.ref 20), some (.int a1), some (.int a2), some (.int v1)] [] (hM 36 s20 τ) ⟨(xn_in g23), ?_⟩
                                    show xv l Ω (d + 4) 0 0 107 76 [some (.ref 20), some (.int a1), some (.int a2), some (.int v1)] [.ref 20] (hM 36 (xh_ui s20 (36 + 3) (Int32.toNatClampNeg v1) (s20 20 4)) τ) r
                                    cases q26 : g105 45 (xh_ui s20 (36 + 3) (Int32.toNatClampNeg v1) (s20 20 4)) with
                                    | none => rw [q26] at H; exact False.elim H
                                    | some q260 =>
                                      obtain ⟨v24 | v24, s25⟩ := q260
                                      · rw [q26] at H; dsimp only at H
                                        have hc := g105_run (Ω := Ω) htr (d + 1) 36 τ 45 (xh_ui s20 (36 + 3) (Int32.toNatClampNeg v1) (s20 20 4)) q26
                                        refine xp_ok htr 2 (d + 4) 0 0 [eC (some (.int v24)) (hM 36 s25 τ)] 107 76 [some (.ref 20), some (.int a1), some (.int a2), some (.int v1)] [.ref 20] (hM 36 (xh_ui s20 (36 + 3) (Int32.toNatClampNeg v1) (s20 20 4)) τ) ⟨hc, ?_⟩
                                        show xv l Ω (d + 4) 0 0 107 81 [some (.ref 20), some (.int a1), some (.int a2), some (.int v1)] [.int v24] (hM 36 s25 τ) r
                                        by_cases h27 : v24 = 0
                                        · rw [if_pos h27] at H
                                          refine xp_ok htr 1 (d + 4) 0 0 [eB false] 107 81 [some (.ref 20), some (.int a1), some (.int a2), some (.int v1)] [.int v24] (hM 36 s25 τ) ⟨h27, ?_⟩
                                          show xv l Ω (d + 4) 0 0 107 84 [some (.ref 20), some (.int a1), some (.int a2), some (.int v1)] [] (hM 36 s25 τ) r
                                          exact xp_ok htr 2 (d + 4) 0 0 [] 107 84 [some (.ref 20), some (.int a1), some (.int a2), some (.int v1)] [] (hM 36 s25 τ) ⟨Or.inl rfl, (Eq.symm H)⟩
                                        · rw [if_neg h27] at H
                                          refine xp_ok htr 1 (d + 4) 0 0 [eB true] 107 81 [some (.ref 20), some (.int a1), some (.int a2), some (.int v1)] [.int v24] (hM 36 s25 τ) ⟨h27, ?_⟩
                                          show xv l Ω (d + 4) 0 0 107 86 [some (.ref 20), some (.int a1), some (.int a2), some (.int v1)] [] (hM 36 s25 τ) r
                                          refine xp_ok htr 8 (d + 4) 0 0 [] 107 86 [some (.ref 20), some (.int a1), some (.int a2), some (.int v1)] [] (hM 36 s25 τ) ⟨(xn_in g23), ?_⟩
                                          show xv l Ω (d + 4) 0 0 107 100 [some (.ref 20), some (.int a1), some (.int a2), some (.int v1)] [.int 1] (hM 36 (xh_ui s25 (36 + 4) (Int32.toNatClampNeg v1) (s25 20 4)) τ) r
                                          exact xp_ok htr 1 (d + 4) 0 0 [] 107 100 [some (.ref 20), some (.int a1), some (.int a2), some (.int v1)] [.int 1] (hM 36 (xh_ui s25 (36 + 4) (Int32.toNatClampNeg v1) (s25 20 4)) τ) ⟨Or.inr rfl, (Eq.symm H)⟩
                                      · rw [q26] at H; exact False.elim H
                              · rw [q21] at H; exact False.elim H
                        · rw [q17] at H; exact False.elim H
                  · rw [q13] at H; exact False.elim H
            · rw [q9] at H; exact False.elim H
        · rw [q6] at H; exact False.elim H
    · rw [q3] at H; exact False.elim H
/- AccessDesk$Reader.readNode -/
def g91_54 (p : Nat) (rc : Int32 → Int32 → xS → xO) (x1 : Int32) (k0 : Int32) (σ : xS) : Option xQ := (if k0 = 0 then some ((Sum.inl 0, σ)) else (match g93 p x1 σ with | some (Sum.inl v8, s9) => (if v8 = 0 then some ((Sum.inl 0, s9)) else some ((Sum.inl 1, s9))) | some (Sum.inr v8, s9) => none | none => none))
def g91_49 (p : Nat) (rc : Int32 → Int32 → xS → xO) (x1 : Int32) (σ : xS) : Option xQ := g91_54 p rc x1 1 σ
def g91_30 (p : Nat) (rc : Int32 → Int32 → xS → xO) (x1 : Int32) (σ : xS) : Option xQ := (if x1 = (-1) then g91_49 p rc x1 σ else (bif xn x1 40 then (if (σ (p + 1) (Int32.toNatClampNeg x1)) = 79 then g91_54 p rc x1 0 σ else g91_49 p rc x1 σ) else none))
def g91e (p : Nat) (rc : Int32 → Int32 → xS → xO) (a1 : Int32) (a2 : Int32) (σ : xS) : xO := (match g92 p σ with | some (Sum.inl v1, s2) => (if v1 = 0 then (if (s2 20 3) = 112 then g91_30 p rc a1 s2 else (if (s2 20 3) = 100 then g91_30 p rc a1 s2 else (match g106 (s2 20 3) s2 with | some (Sum.inl v15, s16) => (if v15 = 0 then some ((Sum.inl 0, s16)) else (if 5 ≤ a2 then some ((Sum.inl 0, s16)) else (match g107 p rc a1 (a2 + 1) s16 with | some (Sum.inl v20, s21) => (if v20 = 0 then some ((Sum.inl 0, s21)) else some ((Sum.inl 1, s21))) | some (Sum.inr v20, s21) => none | none => none))) | some (Sum.inr v15, s16) => none | none => none))) else some ((Sum.inl 0, s2))) | some (Sum.inr v1, s2) => none | none => none)
def g91 (p : Nat) : Nat → Int32 → Int32 → xS → xO
  | 0, _, _, _ => none
  | n + 1, a1, a2, σ => g91e p (g91 p n) a1 a2 σ
theorem g91_54_ok_23 {l : Launch} {Ω : xo_O} (htr : xH l) (d : Nat) (τ : Nat → Nat → Int64) (rc : Int32 → Int32 → xS → xO) (hrc : ∀ (b1 b2 : Int32) (σ : xS) (q : xQ), rc b1 b2 σ = some q → xv l Ω d 0 0 91 0 (xs_loc (xm_l 91) [.ref 20, .int b1, .int b2]) [] (hM 23 σ τ) (xq_R false 23 τ q)) (x1 : Int32) (k0 : Int32) (σ : xS) (r : xv_R) (H : xo (xB false 23 τ r) (g91_54 23 rc x1 k0 σ)) : xv l Ω (d + 26) 0 0 91 54 [some (.ref 20), some (.int x1), none, none] [.int k0] (hM 23 σ τ) r := by
  unfold g91_54 at H
  by_cases h7 : k0 = 0
  · rw [if_pos h7] at H
    refine xp_ok htr 3 (d + 26) 0 0 [eB true] 91 54 [some (.ref 20), some (.int x1), none, none] [.int k0] (hM 23 σ τ) ⟨h7, ?_⟩
    show xv l Ω (d + 26) 0 0 91 71 [some (.ref 20), some (.int x1), none, some (.int k0)] [] (hM 23 σ τ) r
    exact xp_ok htr 2 (d + 26) 0 0 [] 91 71 [some (.ref 20), some (.int x1), none, some (.int k0)] [] (hM 23 σ τ) ⟨Or.inl rfl, (Eq.symm H)⟩
  · rw [if_neg h7] at H
    refine xp_ok htr 3 (d + 26) 0 0 [eB false] 91 54 [some (.ref 20), some (.int x1), none, none] [.int k0] (hM 23 σ τ) ⟨h7, ?_⟩
    show xv l Ω (d + 26) 0 0 91 59 [some (.ref 20), some (.int x1), none, some (.int k0)] [] (hM 23 σ τ) r
    cases q10 : g93 23 x1 σ with
    | none => rw [q10] at H; exact False.elim H
    | some q100 =>
      obtain ⟨v8 | v8, s9⟩ := q100
      · rw [q10] at H; dsimp only at H
        have hc := g93_run_23 (Ω := Ω) htr d  τ x1 σ q10
        refine xp_ok htr 3 (d + 26) 0 0 [eC (some (.int v8)) (hM 23 s9 τ)] 91 59 [some (.ref 20), some (.int x1), none, some (.int k0)] [] (hM 23 σ τ) ⟨hc, ?_⟩
        show xv l Ω (d + 26) 0 0 91 64 [some (.ref 20), some (.int x1), none, some (.int k0)] [.int v8] (hM 23 s9 τ) r
        by_cases h11 : v8 = 0
        · rw [if_pos h11] at H
          refine xp_ok htr 1 (d + 26) 0 0 [eB true] 91 64 [some (.ref 20), some (.int x1), none, some (.int k0)] [.int v8] (hM 23 s9 τ) ⟨h11, ?_⟩
          show xv l Ω (d + 26) 0 0 91 71 [some (.ref 20), some (.int x1), none, some (.int k0)] [] (hM 23 s9 τ) r
          exact xp_ok htr 2 (d + 26) 0 0 [] 91 71 [some (.ref 20), some (.int x1), none, some (.int k0)] [] (hM 23 s9 τ) ⟨Or.inl rfl, (Eq.symm H)⟩
        · rw [if_neg h11] at H
          refine xp_ok htr 1 (d + 26) 0 0 [eB false] 91 64 [some (.ref 20), some (.int x1), none, some (.int k0)] [.int v8] (hM 23 s9 τ) ⟨h11, ?_⟩
          show xv l Ω (d + 26) 0 0 91 67 [some (.ref 20), some (.int x1), none, some (.int k0)] [] (hM 23 s9 τ) r
          exact xp_ok htr 3 (d + 26) 0 0 [] 91 67 [some (.ref 20), some (.int x1), none, some (.int k0)] [] (hM 23 s9 τ) ⟨Or.inr rfl, (Eq.symm H)⟩
      · rw [q10] at H; exact False.elim H
theorem g91_49_ok_23 {l : Launch} {Ω : xo_O} (htr : xH l) (d : Nat) (τ : Nat → Nat → Int64) (rc : Int32 → Int32 → xS → xO) (hrc : ∀ (b1 b2 : Int32) (σ : xS) (q : xQ), rc b1 b2 σ = some q → xv l Ω d 0 0 91 0 (xs_loc (xm_l 91) [.ref 20, .int b1, .int b2]) [] (hM 23 σ τ) (xq_R false 23 τ q)) (x1 : Int32) (σ : xS) (r : xv_R) (H : xo (xB false 23 τ r) (g91_49 23 rc x1 σ)) : xv l Ω (d + 26) 0 0 91 49 [some (.ref 20), some (.int x1), none, none] [] (hM 23 σ τ) r := by
  unfold g91_49 at H
  refine xp_ok htr 2 (d + 26) 0 0 [] 91 49 [some (.ref 20), some (.int x1), none, none] [] (hM 23 σ τ) ?_
  show xv l Ω (d + 26) 0 0 91 54 [some (.ref 20), some (.int x1), none, none] [.int 1] (hM 23 σ τ) r
  exact xv_sub (L' := [some (.ref 20), some (.int x1), none, none]) ⟨rfl, ⟨rfl, trivial⟩⟩ (g91_54_ok_23 htr d  τ rc hrc x1 1 σ r H)
theorem g91_30_ok_23 {l : Launch} {Ω : xo_O} (htr : xH l) (d : Nat) (τ : Nat → Nat → Int64) (rc : Int32 → Int32 → xS → xO) (hrc : ∀ (b1 b2 : Int32) (σ : xS) (q : xQ), rc b1 b2 σ = some q → xv l Ω d 0 0 91 0 (xs_loc (xm_l 91) [.ref 20, .int b1, .int b2]) [] (hM 23 σ τ) (xq_R false 23 τ q)) (x1 : Int32) (σ : xS) (r : xv_R) (H : xo (xB false 23 τ r) (g91_30 23 rc x1 σ)) : xv l Ω (d + 26) 0 0 91 30 [some (.ref 20), some (.int x1), none, none] [] (hM 23 σ τ) r := by
  unfold g91_30 at H
  by_cases h6 : x1 = (-1)
  · rw [if_pos h6] at H
    refine xp_ok htr 3 (d + 26) 0 0 [eB true] 91 30 [some (.ref 20), some (.int x1), none, none] [] (hM 23 σ τ) ⟨h6, ?_⟩
    show xv l Ω (d + 26) 0 0 91 49 [some (.ref 20), some (.int x1), none, none] [] (hM 23 σ τ) r
    exact xv_sub (L' := [some (.ref 20), some (.int x1), none, none]) ⟨rfl, ⟨rfl, trivial⟩⟩ (g91_49_ok_23 htr d  τ rc hrc x1 σ r H)
  · rw [if_neg h6] at H
    refine xp_ok htr 3 (d + 26) 0 0 [eB false] 91 30 [some (.ref 20), some (.int x1), none, none] [] (hM 23 σ τ) ⟨h6, ?_⟩
    show xv l Ω (d + 26) 0 0 91 35 [some (.ref 20), some (.int x1), none, none] [] (hM 23 σ τ) r
    cases g12 : xn x1 40 with
    | false => rw [g12, cond_false] at H; exact False.elim H
    | true =>
      rw [g12, cond_true] at H
      by_cases h13 : (σ (23 + 1) (Int32.toNatClampNeg x1)) = 79
      · rw [if_pos h13] at H
        refine xp_ok htr 7 (d + 26) 0 0 [eB true] 91 35 [some (.ref 20), some (.int x1), none, none] [] (hM 23 σ τ) ⟨(xn_in g12), h13, ?_⟩
        show xv l Ω (d + 26) 0 0 91 53 [some (.ref 20), some (.int x1), none, none] [] (hM 23 σ τ) r
        refine xp_ok htr 1 (d + 26) 0 0 [] 91 53 [some (.ref 20), some (.int x1), none, none] [] (hM 23 σ τ) ?_
        show xv l Ω (d + 26) 0 0 91 54 [some (.ref 20), some (.int x1), none, none] [.int 0] (hM 23 σ τ) r
        exact xv_sub (L' := [some (.ref 20), some (.int x1), none, none]) ⟨rfl, ⟨rfl, trivial⟩⟩ (g91_54_ok_23 htr d  τ rc hrc x1 0 σ r H)
      · rw [if_neg h13] at H
        refine xp_ok htr 7 (d + 26) 0 0 [eB false] 91 35 [some (.ref 20), some (.int x1), none, none] [] (hM 23 σ τ) ⟨(xn_in g12), h13, ?_⟩
        show xv l Ω (d + 26) 0 0 91 49 [some (.ref 20), some (.int x1), none, none] [] (hM 23 σ τ) r
        exact xv_sub (L' := [some (.ref 20), some (.int x1), none, none]) ⟨rfl, ⟨rfl, trivial⟩⟩ (g91_49_ok_23 htr d  τ rc hrc x1 σ r H)
theorem g91e_run_23 {l : Launch} {Ω : xo_O} (htr : xH l) (d : Nat) (τ : Nat → Nat → Int64) (rc : Int32 → Int32 → xS → xO) (hrc : ∀ (b1 b2 : Int32) (σ : xS) (q : xQ), rc b1 b2 σ = some q → xv l Ω d 0 0 91 0 (xs_loc (xm_l 91) [.ref 20, .int b1, .int b2]) [] (hM 23 σ τ) (xq_R false 23 τ q)) (a1 : Int32) (a2 : Int32) (σ : xS) {q : xQ} (hq : g91e 23 rc a1 a2 σ = some q) : xv l Ω (d + 26) 0 0 91 0 (xs_loc (xm_l 91) [.ref 20, .int a1, .int a2]) [] (hM 23 σ τ) (xq_R false 23 τ q) := by
  have H : xo (xB false 23 τ (xq_R false 23 τ q)) (g91e 23 rc a1 a2 σ) := by rw [hq]; exact rfl
  generalize xq_R false 23 τ q = r at H ⊢
  show xv l Ω (d + 26) 0 0 91 0 [some (.ref 20), some (.int a1), some (.int a2), none] [] (hM 23 σ τ) r
  unfold g91e at H
  cases q3 : g92 23 σ with
  | none => rw [q3] at H; exact False.elim H
  | some q30 =>
    obtain ⟨v1 | v1, s2⟩ := q30
    · rw [q3] at H; dsimp only at H
      have hc := g92_run_23 (Ω := Ω) htr (d + 25) 23 τ  σ q3
      refine xp_ok htr 3 (d + 26) 0 0 [eC (some (.int v1)) (hM 23 s2 τ)] 91 0 [some (.ref 20), some (.int a1), some (.int a2), none] [] (hM 23 σ τ) ⟨hc, ?_⟩
      show xv l Ω (d + 26) 0 0 91 7 [some (.ref 20), some (.int a1), some (.int a2), none] [.int v1] (hM 23 s2 τ) r
      by_cases h4 : v1 = 0
      · rw [if_pos h4] at H
        refine xp_ok htr 1 (d + 26) 0 0 [eB true] 91 7 [some (.ref 20), some (.int a1), some (.int a2), none] [.int v1] (hM 23 s2 τ) ⟨h4, ?_⟩
        show xv l Ω (d + 26) 0 0 91 12 [some (.ref 20), some (.int a1), some (.int a2), none] [] (hM 23 s2 τ) r
        by_cases h5 : (s2 20 3) = 112
        · rw [if_pos h5] at H
          refine xp_ok htr 4 (d + 26) 0 0 [eB true] 91 12 [some (.ref 20), some (.int a1), some (.int a2), none] [] (hM 23 s2 τ) ⟨h5, ?_⟩
          show xv l Ω (d + 26) 0 0 91 30 [some (.ref 20), some (.int a1), some (.int a2), none] [] (hM 23 s2 τ) r
          exact xv_sub (L' := [some (.ref 20), some (.int a1), none, none]) ⟨rfl, ⟨rfl, trivial⟩⟩ (g91_30_ok_23 htr d  τ rc hrc a1 s2 r H)
        · rw [if_neg h5] at H
          refine xp_ok htr 4 (d + 26) 0 0 [eB false] 91 12 [some (.ref 20), some (.int a1), some (.int a2), none] [] (hM 23 s2 τ) ⟨h5, ?_⟩
          show xv l Ω (d + 26) 0 0 91 21 [some (.ref 20), some (.int a1), some (.int a2), none] [] (hM 23 s2 τ) r
          by_cases h14 : (s2 20 3) = 100
          · rw [if_pos h14] at H
            refine xp_ok htr 4 (d + 26) 0 0 [eB false] 91 21 [some (.ref 20), some (.int a1), some (.int a2), none] [] (hM 23 s2 τ) ⟨h14, ?_⟩
            show xv l Ω (d + 26) 0 0 91 30 [some (.ref 20), some (.int a1), some (.int a2), none] [] (hM 23 s2 τ) r
            exact xv_sub (L' := [some (.ref 20), some (.int a1), none, none]) ⟨rfl, ⟨rfl, trivial⟩⟩ (g91_30_ok_23 htr d  τ rc hrc a1 s2 r H)
          · rw [if_neg h14] at H
            refine xp_ok htr 4 (d + 26) 0 0 [eB true] 91 21 [some (.ref 20), some (.int a1), some (.int a2), none] [] (hM 23 s2 τ) ⟨h14, ?_⟩
            show xv l Ω (d + 26) 0 0 91 73 [some (.ref 20), some (.int a1), some (.int a2), none] [] (hM 23 s2 τ) r
            cases q17 : g106 (s2 20 3) s2 with
            | none => rw [q17] at H; exact False.elim H
            | some q170 =>
              obtain ⟨v15 | v15, s16⟩ := q170
              · rw [q17] at H; dsimp only at H
                have hc := g106_run (Ω := Ω) htr (d + 25) 23 τ (s2 20 3) s2 q17
                refine xp_ok htr 3 (d + 26) 0 0 [eC (some (.int v15)) (hM 23 s16 τ)] 91 73 [some (.ref 20), some (.int a1), some (.int a2), none] [] (hM 23 s2 τ) ⟨hc, ?_⟩
                show xv l Ω (d + 26) 0 0 91 80 [some (.ref 20), some (.int a1), some (.int a2), none] [.int v15] (hM 23 s16 τ) r
                by_cases h18 : v15 = 0
                · rw [if_pos h18] at H
                  refine xp_ok htr 1 (d + 26) 0 0 [eB true] 91 80 [some (.ref 20), some (.int a1), some (.int a2), none] [.int v15] (hM 23 s16 τ) ⟨h18, ?_⟩
                  show xv l Ω (d + 26) 0 0 91 103 [some (.ref 20), some (.int a1), some (.int a2), none] [] (hM 23 s16 τ) r
                  exact xp_ok htr 2 (d + 26) 0 0 [] 91 103 [some (.ref 20), some (.int a1), some (.int a2), none] [] (hM 23 s16 τ) ⟨Or.inl rfl, (Eq.symm H)⟩
                · rw [if_neg h18] at H
                  refine xp_ok htr 1 (d + 26) 0 0 [eB false] 91 80 [some (.ref 20), some (.int a1), some (.int a2), none] [.int v15] (hM 23 s16 τ) ⟨h18, ?_⟩
                  show xv l Ω (d + 26) 0 0 91 83 [some (.ref 20), some (.int a1), some (.int a2), none] [] (hM 23 s16 τ) r
                  by_cases h19 : 5 ≤ a2
                  · rw [if_pos h19] at H
                    refine xp_ok htr 3 (d + 26) 0 0 [eB true] 91 83 [some (.ref 20), some (.int a1), some (.int a2), none] [] (hM 23 s16 τ) ⟨h19, ?_⟩
                    show xv l Ω (d + 26) 0 0 91 103 [some (.ref 20), some (.int a1), some (.int a2), none] [] (hM 23 s16 τ) r
                    exact xp_ok htr 2 (d + 26) 0 0 [] 91 103 [some (.ref 20), some (.int a1), some (.int a2), none] [] (hM 23 s16 τ) ⟨Or.inl rfl, (Eq.symm H)⟩
                  · rw [if_neg h19] at H
                    refine xp_ok htr 3 (d + 26) 0 0 [eB false] 91 83 [some (.ref 20), some (.int a1), some (.int a2), none] [] (hM 23 s16 τ) ⟨h19, ?_⟩
                    show xv l Ω (d + 26) 0 0 91 88 [some (.ref 20), some (.int a1), some (.int a2), none] [] (hM 23 s16 τ) r
                    cases q22 : g107 23 rc a1 (a2 + 1) s16 with
                    | none => rw [q22] at H; exact False.elim H
                    | some q220 =>
                      obtain ⟨v20 | v20, s21⟩ := q220
                      · rw [q22] at H; dsimp only at H
                        have hc := xv_mono (d' := d + 25) (by omega) (Nat.le_refl _) (Nat.le_refl _) (g107_run_23 (Ω := Ω) htr d τ rc hrc a1 (a2 + 1) s16 q22)
                        refine xp_ok htr 6 (d + 26) 0 0 [eC (some (.int v20)) (hM 23 s21 τ)] 91 88 [some (.ref 20), some (.int a1), some (.int a2), none] [] (hM 23 s16 τ) ⟨hc, ?_⟩
                        show xv l Ω (d + 26) 0 0 91 96 [some (.ref 20), some (.int a1), some (.int a2), none] [.int v20] (hM 23 s21 τ) r
                        by_cases h23 : v20 = 0
                        · rw [if_pos h23] at H
                          refine xp_ok htr 1 (d + 26) 0 0 [eB true] 91 96 [some (.ref 20), some (.int a1), some (.int a2), none] [.int v20] (hM 23 s21 τ) ⟨h23, ?_⟩
                          show xv l Ω (d + 26) 0 0 91 103 [some (.ref 20), some (.int a1), some (.int a2), none] [] (hM 23 s21 τ) r
                          exact xp_ok htr 2 (d + 26) 0 0 [] 91 103 [some (.ref 20), some (.int a1), some (.int a2), none] [] (hM 23 s21 τ) ⟨Or.inl rfl, (Eq.symm H)⟩
                        · rw [if_neg h23] at H
                          refine xp_ok htr 1 (d + 26) 0 0 [eB false] 91 96 [some (.ref 20), some (.int a1), some (.int a2), none] [.int v20] (hM 23 s21 τ) ⟨h23, ?_⟩
                          show xv l Ω (d + 26) 0 0 91 99 [some (.ref 20), some (.int a1), some (.int a2), none] [] (hM 23 s21 τ) r
                          exact xp_ok htr 3 (d + 26) 0 0 [] 91 99 [some (.ref 20), some (.int a1), some (.int a2), none] [] (hM 23 s21 τ) ⟨Or.inr rfl, (Eq.symm H)⟩
                      · rw [q22] at H; exact False.elim H
              · rw [q17] at H; exact False.elim H
      · rw [if_neg h4] at H
        refine xp_ok htr 1 (d + 26) 0 0 [eB false] 91 7 [some (.ref 20), some (.int a1), some (.int a2), none] [.int v1] (hM 23 s2 τ) ⟨h4, ?_⟩
        show xv l Ω (d + 26) 0 0 91 10 [some (.ref 20), some (.int a1), some (.int a2), none] [] (hM 23 s2 τ) r
        exact xp_ok htr 2 (d + 26) 0 0 [] 91 10 [some (.ref 20), some (.int a1), some (.int a2), none] [] (hM 23 s2 τ) ⟨Or.inl rfl, (Eq.symm H)⟩
    · rw [q3] at H; exact False.elim H
theorem g91_54_ok_36 {l : Launch} {Ω : xo_O} (htr : xH l) (d : Nat) (τ : Nat → Nat → Int64) (rc : Int32 → Int32 → xS → xO) (hrc : ∀ (b1 b2 : Int32) (σ : xS) (q : xQ), rc b1 b2 σ = some q → xv l Ω d 0 0 91 0 (xs_loc (xm_l 91) [.ref 20, .int b1, .int b2]) [] (hM 36 σ τ) (xq_R false 36 τ q)) (x1 : Int32) (k0 : Int32) (σ : xS) (r : xv_R) (H : xo (xB false 36 τ r) (g91_54 36 rc x1 k0 σ)) : xv l Ω (d + 26) 0 0 91 54 [some (.ref 20), some (.int x1), none, none] [.int k0] (hM 36 σ τ) r := by
  unfold g91_54 at H
  by_cases h7 : k0 = 0
  · rw [if_pos h7] at H
    refine xp_ok htr 3 (d + 26) 0 0 [eB true] 91 54 [some (.ref 20), some (.int x1), none, none] [.int k0] (hM 36 σ τ) ⟨h7, ?_⟩
    show xv l Ω (d + 26) 0 0 91 71 [some (.ref 20), some (.int x1), none, some (.int k0)] [] (hM 36 σ τ) r
    exact xp_ok htr 2 (d + 26) 0 0 [] 91 71 [some (.ref 20), some (.int x1), none, some (.int k0)] [] (hM 36 σ τ) ⟨Or.inl rfl, (Eq.symm H)⟩
  · rw [if_neg h7] at H
    refine xp_ok htr 3 (d + 26) 0 0 [eB false] 91 54 [some (.ref 20), some (.int x1), none, none] [.int k0] (hM 36 σ τ) ⟨h7, ?_⟩
    show xv l Ω (d + 26) 0 0 91 59 [some (.ref 20), some (.int x1), none, some (.int k0)] [] (hM 36 σ τ) r
    cases q10 : g93 36 x1 σ with
    | none => rw [q10] at H; exact False.elim H
    | some q100 =>
      obtain ⟨v8 | v8, s9⟩ := q100
      · rw [q10] at H; dsimp only at H
        have hc := g93_run_36 (Ω := Ω) htr d  τ x1 σ q10
        refine xp_ok htr 3 (d + 26) 0 0 [eC (some (.int v8)) (hM 36 s9 τ)] 91 59 [some (.ref 20), some (.int x1), none, some (.int k0)] [] (hM 36 σ τ) ⟨hc, ?_⟩
        show xv l Ω (d + 26) 0 0 91 64 [some (.ref 20), some (.int x1), none, some (.int k0)] [.int v8] (hM 36 s9 τ) r
        by_cases h11 : v8 = 0
        · rw [if_pos h11] at H
          refine xp_ok htr 1 (d + 26) 0 0 [eB true] 91 64 [some (.ref 20), some (.int x1), none, some (.int k0)] [.int v8] (hM 36 s9 τ) ⟨h11, ?_⟩
          show xv l Ω (d + 26) 0 0 91 71 [some (.ref 20), some (.int x1), none, some (.int k0)] [] (hM 36 s9 τ) r
          exact xp_ok htr 2 (d + 26) 0 0 [] 91 71 [some (.ref 20), some (.int x1), none, some (.int k0)] [] (hM 36 s9 τ) ⟨Or.inl rfl, (Eq.symm H)⟩
        · rw [if_neg h11] at H
          refine xp_ok htr 1 (d + 26) 0 0 [eB false] 91 64 [some (.ref 20), some (.int x1), none, some (.int k0)] [.int v8] (hM 36 s9 τ) ⟨h11, ?_⟩
          show xv l Ω (d + 26) 0 0 91 67 [some (.ref 20), some (.int x1), none, some (.int k0)] [] (hM 36 s9 τ) r
          exact xp_ok htr 3 (d + 26) 0 0 [] 91 67 [some (.ref 20), some (.int x1), none, some (.int k0)] [] (hM 36 s9 τ) ⟨Or.inr rfl, (Eq.symm H)⟩
      · rw [q10] at H; exact False.elim H
theorem g91_49_ok_36 {l : Launch} {Ω : xo_O} (htr : xH l) (d : Nat) (τ : Nat → Nat → Int64) (rc : Int32 → Int32 → xS → xO) (hrc : ∀ (b1 b2 : Int32) (σ : xS) (q : xQ), rc b1 b2 σ = some q → xv l Ω d 0 0 91 0 (xs_loc (xm_l 91) [.ref 20, .int b1, .int b2]) [] (hM 36 σ τ) (xq_R false 36 τ q)) (x1 : Int32) (σ : xS) (r : xv_R) (H : xo (xB false 36 τ r) (g91_49 36 rc x1 σ)) : xv l Ω (d + 26) 0 0 91 49 [some (.ref 20), some (.int x1), none, none] [] (hM 36 σ τ) r := by
  unfold g91_49 at H
  refine xp_ok htr 2 (d + 26) 0 0 [] 91 49 [some (.ref 20), some (.int x1), none, none] [] (hM 36 σ τ) ?_
  show xv l Ω (d + 26) 0 0 91 54 [some (.ref 20), some (.int x1), none, none] [.int 1] (hM 36 σ τ) r
  exact xv_sub (L' := [some (.ref 20), some (.int x1), none, none]) ⟨rfl, ⟨rfl, trivial⟩⟩ (g91_54_ok_36 htr d  τ rc hrc x1 1 σ r H)
theorem g91_30_ok_36 {l : Launch} {Ω : xo_O} (htr : xH l) (d : Nat) (τ : Nat → Nat → Int64) (rc : Int32 → Int32 → xS → xO) (hrc : ∀ (b1 b2 : Int32) (σ : xS) (q : xQ), rc b1 b2 σ = some q → xv l Ω d 0 0 91 0 (xs_loc (xm_l 91) [.ref 20, .int b1, .int b2]) [] (hM 36 σ τ) (xq_R false 36 τ q)) (x1 : Int32) (σ : xS) (r : xv_R) (H : xo (xB false 36 τ r) (g91_30 36 rc x1 σ)) : xv l Ω (d + 26) 0 0 91 30 [some (.ref 20), some (.int x1), none, none] [] (hM 36 σ τ) r := by
  unfold g91_30 at H
  by_cases h6 : x1 = (-1)
  · rw [if_pos h6] at H
    refine xp_ok htr 3 (d + 26) 0 0 [eB true] 91 30 [some (.ref 20), some (.int x1), none, none] [] (hM 36 σ τ) ⟨h6, ?_⟩
    show xv l Ω (d + 26) 0 0 91 49 [some (.ref 20), some (.int x1), none, none] [] (hM 36 σ τ) r
    exact xv_sub (L' := [some (.ref 20), some (.int x1), none, none]) ⟨rfl, ⟨rfl, trivial⟩⟩ (g91_49_ok_36 htr d  τ rc hrc x1 σ r H)
  · rw [if_neg h6] at H
    refine xp_ok htr 3 (d + 26) 0 0 [eB false] 91 30 [some (.ref 20), some (.int x1), none, none] [] (hM 36 σ τ) ⟨h6, ?_⟩
    show xv l Ω (d + 26) 0 0 91 35 [some (.ref 20), some (.int x1), none, none] [] (hM 36 σ τ) r
    cases g12 : xn x1 40 with
    | false => rw [g12, cond_false] at H; exact False.elim H
    | true =>
      rw [g12, cond_true] at H
      by_cases h13 : (σ (36 + 1) (Int32.toNatClampNeg x1)) = 79
      · rw [if_pos h13] at H
        refine xp_ok htr 7 (d + 26) 0 0 [eB true] 91 35 [some (.ref 20), some (.int x1), none, none] [] (hM 36 σ τ) ⟨(xn_in g12), h13, ?_⟩
        show xv l Ω (d + 26) 0 0 91 53 [some (.ref 20), some (.int x1), none, none] [] (hM 36 σ τ) r
        refine xp_ok htr 1 (d + 26) 0 0 [] 91 53 [some (.ref 20), some (.int x1), none, none] [] (hM 36 σ τ) ?_
        show xv l Ω (d + 26) 0 0 91 54 [some (.ref 20), some (.int x1), none, none] [.int 0] (hM 36 σ τ) r
        exact xv_sub (L' := [some (.ref 20), some (.int x1), none, none]) ⟨rfl, ⟨rfl, trivial⟩⟩ (g91_54_ok_36 htr d  τ rc hrc x1 0 σ r H)
      · rw [if_neg h13] at H
        refine xp_ok htr 7 (d + 26) 0 0 [eB false] 91 35 [some (.ref 20), some (.int x1), none, none] [] (hM 36 σ τ) ⟨(xn_in g12), h13, ?_⟩
        show xv l Ω (d + 26) 0 0 91 49 [some (.ref 20), some (.int x1), none, none] [] (hM 36 σ τ) r
        exact xv_sub (L' := [some (.ref 20), some (.int x1), none, none]) ⟨rfl, ⟨rfl, trivial⟩⟩ (g91_49_ok_36 htr d  τ rc hrc x1 σ r H)
theorem g91e_run_36 {l : Launch} {Ω : xo_O} (htr : xH l) (d : Nat) (τ : Nat → Nat → Int64) (rc : Int32 → Int32 → xS → xO) (hrc : ∀ (b1 b2 : Int32) (σ : xS) (q : xQ), rc b1 b2 σ = some q → xv l Ω d 0 0 91 0 (xs_loc (xm_l 91) [.ref 20, .int b1, .int b2]) [] (hM 36 σ τ) (xq_R false 36 τ q)) (a1 : Int32) (a2 : Int32) (σ : xS) {q : xQ} (hq : g91e 36 rc a1 a2 σ = some q) : xv l Ω (d + 26) 0 0 91 0 (xs_loc (xm_l 91) [.ref 20, .int a1, .int a2]) [] (hM 36 σ τ) (xq_R false 36 τ q) := by
  have H : xo (xB false 36 τ (xq_R false 36 τ q)) (g91e 36 rc a1 a2 σ) := by rw [hq]; exact rfl
  generalize xq_R false 36 τ q = r at H ⊢
  show xv l Ω (d + 26) 0 0 91 0 [some (.ref 20), some (.int a1), some (.int a2), none] [] (hM 36 σ τ) r
  unfold g91e at H
  cases q3 : g92 36 σ with
  | none => rw [q3] at H; exact False.elim H
  | some q30 =>
    obtain ⟨v1 | v1, s2⟩ := q30
    · rw [q3] at H; dsimp only at H
      have hc := g92_run_36 (Ω := Ω) htr (d + 25) 36 τ  σ q3
      refine xp_ok htr 3 (d + 26) 0 0 [eC (some (.int v1)) (hM 36 s2 τ)] 91 0 [some (.ref 20), some (.int a1), some (.int a2), none] [] (hM 36 σ τ) ⟨hc, ?_⟩
      show xv l Ω (d + 26) 0 0 91 7 [some (.ref 20), some (.int a1), some (.int a2), none] [.int v1] (hM 36 s2 τ) r
      by_cases h4 : v1 = 0
      · rw [if_pos h4] at H
        refine xp_ok htr 1 (d + 26) 0 0 [eB true] 91 7 [some (.ref 20), some (.int a1), some (.int a2), none] [.int v1] (hM 36 s2 τ) ⟨h4, ?_⟩
        show xv l Ω (d + 26) 0 0 91 12 [some (.ref 20), some (.int a1), some (.int a2), none] [] (hM 36 s2 τ) r
        by_cases h5 : (s2 20 3) = 112
        · rw [if_pos h5] at H
          refine xp_ok htr 4 (d + 26) 0 0 [eB true] 91 12 [some (.ref 20), some (.int a1), some (.int a2), none] [] (hM 36 s2 τ) ⟨h5, ?_⟩
          show xv l Ω (d + 26) 0 0 91 30 [some (.ref 20), some (.int a1), some (.int a2), none] [] (hM 36 s2 τ) r
          exact xv_sub (L' := [some (.ref 20), some (.int a1), none, none]) ⟨rfl, ⟨rfl, trivial⟩⟩ (g91_30_ok_36 htr d  τ rc hrc a1 s2 r H)
        · rw [if_neg h5] at H
          refine xp_ok htr 4 (d + 26) 0 0 [eB false] 91 12 [some (.ref 20), some (.int a1), some (.int a2), none] [] (hM 36 s2 τ) ⟨h5, ?_⟩
          show xv l Ω (d + 26) 0 0 91 21 [some (.ref 20), some (.int a1), some (.int a2), none] [] (hM 36 s2 τ) r
          by_cases h14 : (s2 20 3) = 100
          · rw [if_pos h14] at H
            refine xp_ok htr 4 (d + 26) 0 0 [eB false] 91 21 [some (.ref 20), some (.int a1), some (.int a2), none] [] (hM 36 s2 τ) ⟨h14, ?_⟩
            show xv l Ω (d + 26) 0 0 91 30 [some (.ref 20), some (.int a1), some (.int a2), none] [] (hM 36 s2 τ) r
            exact xv_sub (L' := [some (.ref 20), some (.int a1), none, none]) ⟨rfl, ⟨rfl, trivial⟩⟩ (g91_30_ok_36 htr d  τ rc hrc a1 s2 r H)
          · rw [if_neg h14] at H
            refine xp_ok htr 4 (d + 26) 0 0 [eB true] 91 21 [some (.ref 20), some (.int a1), some (.int a2), none] [] (hM 36 s2 τ) ⟨h14, ?_⟩
            show xv l Ω (d + 26) 0 0 91 73 [some (.ref 20), some (.int a1), some (.int a2), none] [] (hM 36 s2 τ) r
            cases q17 : g106 (s2 20 3) s2 with
            | none => rw [q17] at H; exact False.elim H
            | some q170 =>
              obtain ⟨v15 | v15, s16⟩ := q170
              · rw [q17] at H; dsimp only at H
                have hc := g106_run (Ω := Ω) htr (d + 25) 36 τ (s2 20 3) s2 q17
                refine xp_ok htr 3 (d + 26) 0 0 [eC (some (.int v15)) (hM 36 s16 τ)] 91 73 [some (.ref 20), some (.int a1), some (.int a2), none] [] (hM 36 s2 τ) ⟨hc, ?_⟩
                show xv l Ω (d + 26) 0 0 91 80 [some (.ref 20), some (.int a1), some (.int a2), none] [.int v15] (hM 36 s16 τ) r
                by_cases h18 : v15 = 0
                · rw [if_pos h18] at H
                  refine xp_ok htr 1 (d + 26) 0 0 [eB true] 91 80 [some (.ref 20), some (.int a1), some (.int a2), none] [.int v15] (hM 36 s16 τ) ⟨h18, ?_⟩
                  show xv l Ω (d + 26) 0 0 91 103 [some (.ref 20), some (.int a1), some (.int a2), none] [] (hM 36 s16 τ) r
                  exact xp_ok htr 2 (d + 26) 0 0 [] 91 103 [some (.ref 20), some (.int a1), some (.int a2), none] [] (hM 36 s16 τ) ⟨Or.inl rfl, (Eq.symm H)⟩
                · rw [if_neg h18] at H
                  refine xp_ok htr 1 (d + 26) 0 0 [eB false] 91 80 [some (.ref 20), some (.int a1), some (.int a2), none] [.int v15] (hM 36 s16 τ) ⟨h18, ?_⟩
                  show xv l Ω (d + 26) 0 0 91 83 [some (.ref 20), some (.int a1), some (.int a2), none] [] (hM 36 s16 τ) r
                  by_cases h19 : 5 ≤ a2
                  · rw [if_pos h19] at H
                    refine xp_ok htr 3 (d + 26) 0 0 [eB true] 91 83 [some (.ref 20), some (.int a1), some (.int a2), none] [] (hM 36 s16 τ) ⟨h19, ?_⟩
                    show xv l Ω (d + 26) 0 0 91 103 [some (.ref 20), some (.int a1), some (.int a2), none] [] (hM 36 s16 τ) r
                    exact xp_ok htr 2 (d + 26) 0 0 [] 91 103 [some (.ref 20), some (.int a1), some (.int a2), none] [] (hM 36 s16 τ) ⟨Or.inl rfl, (Eq.symm H)⟩
                  · rw [if_neg h19] at H
                    refine xp_ok htr 3 (d + 26) 0 0 [eB false] 91 83 [some (.ref 20), some (.int a1), some (.int a2), none] [] (hM 36 s16 τ) ⟨h19, ?_⟩
                    show xv l Ω (d + 26) 0 0 91 88 [some (.ref 20), some (.int a1), some (.int a2), none] [] (hM 36 s16 τ) r
                    cases q22 : g107 36 rc a1 (a2 + 1) s16 with
                    | none => rw [q22] at H; exact False.elim H
                    | some q220 =>
                      obtain ⟨v20 | v20, s21⟩ := q220
                      · rw [q22] at H; dsimp only at H
                        have hc := xv_mono (d' := d + 25) (by omega) (Nat.le_refl _) (Nat.le_refl _) (g107_run_36 (Ω := Ω) htr d τ rc hrc a1 (a2 + 1) s16 q22)
                        refine xp_ok htr 6 (d + 26) 0 0 [eC (some (.int v20)) (hM 36 s21 τ)] 91 88 [some (.ref 20), some (.int a1), some (.int a2), none] [] (hM 36 s16 τ) ⟨hc, ?_⟩
                        show xv l Ω (d + 26) 0 0 91 96 [some (.ref 20), some (.int a1), some (.int a2), none] [.int v20] (hM 36 s21 τ) r
                        by_cases h23 : v20 = 0
                        · rw [if_pos h23] at H
                          refine xp_ok htr 1 (d + 26) 0 0 [eB true] 91 96 [some (.ref 20), some (.int a1), some (.int a2), none] [.int v20] (hM 36 s21 τ) ⟨h23, ?_⟩
                          show xv l Ω (d + 26) 0 0 91 103 [some (.ref 20), some (.int a1), some (.int a2), none] [] (hM 36 s21 τ) r
                          exact xp_ok htr 2 (d + 26) 0 0 [] 91 103 [some (.ref 20), some (.int a1), some (.int a2), none] [] (hM 36 s21 τ) ⟨Or.inl rfl, (Eq.symm H)⟩
                        · rw [if_neg h23] at H
                          refine xp_ok htr 1 (d + 26) 0 0 [eB false] 91 96 [some (.ref 20), some (.int a1), some (.int a2), none] [.int v20] (hM 36 s21 τ) ⟨h23, ?_⟩
                          show xv l Ω (d + 26) 0 0 91 99 [some (.ref 20), some (.int a1), some (.int a2), none] [] (hM 36 s21 τ) r
                          exact xp_ok htr 3 (d + 26) 0 0 [] 91 99 [some (.ref 20), some (.int a1), some (.int a2), none] [] (hM 36 s21 τ) ⟨Or.inr rfl, (Eq.symm H)⟩
                      · rw [q22] at H; exact False.elim H
              · rw [q17] at H; exact False.elim H
      · rw [if_neg h4] at H
        refine xp_ok htr 1 (d + 26) 0 0 [eB false] 91 7 [some (.ref 20), some (.int a1), some (.int a2), none] [.int v1] (hM 36 s2 τ) ⟨h4, ?_⟩
        show xv l Ω (d + 26) 0 0 91 10 [some (.ref 20), some (.int a1), some (.int a2), none] [] (hM 36 s2 τ) r
        exact xp_ok htr 2 (d + 26) 0 0 [] 91 10 [some (.ref 20), some (.int a1), some (.int a2), none] [] (hM 36 s2 τ) ⟨Or.inl rfl, (Eq.symm H)⟩
    · rw [q3] at H; exact False.elim H
theorem g91_rn_23 {l : Launch} {Ω : xo_O} (htr : xH l) (d : Nat) (τ : Nat → Nat → Int64) : ∀ (n : Nat) (a1 a2 : Int32) (σ : xS) (q : xQ), g91 23 n a1 a2 σ = some q → xv l Ω (d + 26 * n) 0 0 91 0 (xs_loc (xm_l 91) [.ref 20, .int a1, .int a2]) [] (hM 23 σ τ) (xq_R false 23 τ q)
  | 0, _, _, _, _, h => by cases h
  | n + 1, a1, a2, σ, q, h => g91e_run_23 htr (d + 26 * n) τ (g91 23 n) (fun a1 a2 σ q h => g91_rn_23 htr d τ n a1 a2 σ q h) a1 a2 σ h
theorem g91_run_23 {l : Launch} {Ω : xo_O} (htr : xH l) (d : Nat) (τ : Nat → Nat → Int64) (a1 a2 : Int32) (σ : xS) {q : xQ} (hq : g91 23 8 a1 a2 σ = some q) : xv l Ω (d + 208) 0 0 91 0 (xs_loc (xm_l 91) [.ref 20, .int a1, .int a2]) [] (hM 23 σ τ) (xq_R false 23 τ q) := g91_rn_23 htr d τ 8 a1 a2 σ q hq
theorem g91_rn_36 {l : Launch} {Ω : xo_O} (htr : xH l) (d : Nat) (τ : Nat → Nat → Int64) : ∀ (n : Nat) (a1 a2 : Int32) (σ : xS) (q : xQ), g91 36 n a1 a2 σ = some q → xv l Ω (d + 26 * n) 0 0 91 0 (xs_loc (xm_l 91) [.ref 20, .int a1, .int a2]) [] (hM 36 σ τ) (xq_R false 36 τ q)
  | 0, _, _, _, _, h => by cases h
  | n + 1, a1, a2, σ, q, h => g91e_run_36 htr (d + 26 * n) τ (g91 36 n) (fun a1 a2 σ q h => g91_rn_36 htr d τ n a1 a2 σ q h) a1 a2 σ h
theorem g91_run_36 {l : Launch} {Ω : xo_O} (htr : xH l) (d : Nat) (τ : Nat → Nat → Int64) (a1 a2 : Int32) (σ : xS) {q : xQ} (hq : g91 36 8 a1 a2 σ = some q) : xv l Ω (d + 208) 0 0 91 0 (xs_loc (xm_l 91) [.ref 20, .int a1, .int a2]) [] (hM 36 σ τ) (xq_R false 36 τ q) := g91_rn_36 htr d τ 8 a1 a2 σ q hq
/- AccessDesk$Tape.clear -/
def g109  (σ : xS) : xO := some ((Sum.inl 0, (xh_ui σ 21 1 0)))
theorem g109_run {l : Launch} {Ω : xo_O} (htr : xH l) (d : Nat) (p : Nat) (τ : Nat → Nat → Int64)  (σ : xS) {q : xQ} (hq : g109  σ = some q) : xv l Ω d 0 0 109 0 (xs_loc (xm_l 109) [.ref 21]) [] (hM p σ τ) (xq_R true p τ q) := by
  have H : xo (xB true p τ (xq_R true p τ q)) (g109  σ) := by rw [hq]; exact rfl
  generalize xq_R true p τ q = r at H ⊢
  show xv l Ω d 0 0 109 0 [some (.ref 21)] [] (hM p σ τ) r
  unfold g109 at H
  exact xp_ok htr 4 d 0 0 [] 109 0 [some (.ref 21)] [] (hM p σ τ) ⟨trivial, (Eq.symm H)⟩
/- AccessDesk$Reader.read -/
def g88_34 (p : Nat) (k0 : Int32) (σ : xS) : Option xQ := (match g109 σ with | some (Sum.inl v11, s12) => (if k0 = 0 then some ((Sum.inl (s12 20 2), s12)) else some ((Sum.inl (-1), s12))) | some (Sum.inr v11, s12) => none | none => none)
def g88_33 (p : Nat)  (σ : xS) : Option xQ := g88_34 p 0 σ
def g88 (p : Nat)  (σ : xS) : xO := (match g89 p σ with | some (Sum.inl v1, s2) => (match g90 0 s2 with | some (Sum.inl v4, s5) => (match g91 p 8 (-1) 0 s5 with | some (Sum.inl v7, s8) => (if v7 = 0 then g88_33 p s8 else (if (s8 20 3) = (-1) then g88_34 p 1 s8 else g88_33 p s8)) | some (Sum.inr v7, s8) => none | none => none) | some (Sum.inr v4, s5) => none | none => none) | some (Sum.inr v1, s2) => none | none => none)
theorem g88_34_ok_23 {l : Launch} {Ω : xo_O} (htr : xH l) (d : Nat) (τ : Nat → Nat → Int64) (k0 : Int32) (σ : xS) (r : xv_R) (H : xo (xB false 23 τ r) (g88_34 23 k0 σ)) : xv l Ω (d + 209) 0 0 88 34 [some (.ref 20), none] [.int k0] (hM 23 σ τ) r := by
  unfold g88_34 at H
  cases q13 : g109 σ with
  | none => rw [q13] at H; exact False.elim H
  | some q130 =>
    obtain ⟨v11 | v11, s12⟩ := q130
    · rw [q13] at H; dsimp only at H
      have hc := g109_run (Ω := Ω) htr (d + 208) 23 τ  σ q13
      refine xp_ok htr 4 (d + 209) 0 0 [eC none (hM 23 s12 τ)] 88 34 [some (.ref 20), none] [.int k0] (hM 23 σ τ) ⟨hc, ?_⟩
      show xv l Ω (d + 209) 0 0 88 42 [some (.ref 20), some (.int k0)] [] (hM 23 s12 τ) r
      by_cases h14 : k0 = 0
      · rw [if_pos h14] at H
        refine xp_ok htr 2 (d + 209) 0 0 [eB true] 88 42 [some (.ref 20), some (.int k0)] [] (hM 23 s12 τ) ⟨h14, ?_⟩
        show xv l Ω (d + 209) 0 0 88 50 [some (.ref 20), some (.int k0)] [] (hM 23 s12 τ) r
        exact xp_ok htr 3 (d + 209) 0 0 [] 88 50 [some (.ref 20), some (.int k0)] [] (hM 23 s12 τ) ⟨trivial, (Eq.symm H)⟩
      · rw [if_neg h14] at H
        refine xp_ok htr 2 (d + 209) 0 0 [eB false] 88 42 [some (.ref 20), some (.int k0)] [] (hM 23 s12 τ) ⟨h14, ?_⟩
        show xv l Ω (d + 209) 0 0 88 46 [some (.ref 20), some (.int k0)] [] (hM 23 s12 τ) r
        exact xp_ok htr 3 (d + 209) 0 0 [] 88 46 [some (.ref 20), some (.int k0)] [] (hM 23 s12 τ) ⟨trivial, (Eq.symm H)⟩
    · rw [q13] at H; exact False.elim H
theorem g88_33_ok_23 {l : Launch} {Ω : xo_O} (htr : xH l) (d : Nat) (τ : Nat → Nat → Int64)  (σ : xS) (r : xv_R) (H : xo (xB false 23 τ r) (g88_33 23 σ)) : xv l Ω (d + 209) 0 0 88 33 [some (.ref 20), none] [] (hM 23 σ τ) r := by
  unfold g88_33 at H
  refine xp_ok htr 1 (d + 209) 0 0 [] 88 33 [some (.ref 20), none] [] (hM 23 σ τ) ?_
  show xv l Ω (d + 209) 0 0 88 34 [some (.ref 20), none] [.int 0] (hM 23 σ τ) r
  exact xv_sub (L' := [some (.ref 20), none]) ⟨rfl, trivial⟩ (g88_34_ok_23 htr d  τ 0 σ r H)
theorem g88_run_23 {l : Launch} {Ω : xo_O} (htr : xH l) (d : Nat) (τ : Nat → Nat → Int64)  (σ : xS) {q : xQ} (hq : g88 23  σ = some q) : xv l Ω (d + 209) 0 0 88 0 (xs_loc (xm_l 88) [.ref 20]) [] (hM 23 σ τ) (xq_R false 23 τ q) := by
  have H : xo (xB false 23 τ (xq_R false 23 τ q)) (g88 23  σ) := by rw [hq]; exact rfl
  generalize xq_R false 23 τ q = r at H ⊢
  show xv l Ω (d + 209) 0 0 88 0 [some (.ref 20), none] [] (hM 23 σ τ) r
  unfold g88 at H
  cases q3 : g89 23 σ with
  | none => rw [q3] at H; exact False.elim H
  | some q30 =>
    obtain ⟨v1 | v1, s2⟩ := q30
    · rw [q3] at H; dsimp only at H
      have hc := g89_run_23 (Ω := Ω) htr (d + 208) 23 τ  σ q3
      refine xp_ok htr 3 (d + 209) 0 0 [eC none (hM 23 s2 τ)] 88 0 [some (.ref 20), none] [] (hM 23 σ τ) ⟨hc, ?_⟩
      show xv l Ω (d + 209) 0 0 88 7 [some (.ref 20), none] [] (hM 23 s2 τ) r
      cases q6 : g90 0 s2 with
      | none => rw [q6] at H; exact False.elim H
      | some q60 =>
        obtain ⟨v4 | v4, s5⟩ := q60
        · rw [q6] at H; dsimp only at H
          have hc := g90_run (Ω := Ω) htr (d + 208) 23 τ 0 s2 q6
          refine xp_ok htr 3 (d + 209) 0 0 [eC none (hM 23 s5 τ)] 88 7 [some (.ref 20), none] [] (hM 23 s2 τ) ⟨hc, ?_⟩
          show xv l Ω (d + 209) 0 0 88 12 [some (.ref 20), none] [] (hM 23 s5 τ) r
          cases q9 : g91 23 8 (-1) 0 s5 with
          | none => rw [q9] at H; exact False.elim H
          | some q90 =>
            obtain ⟨v7 | v7, s8⟩ := q90
            · rw [q9] at H; dsimp only at H
              have hc := g91_run_23 (Ω := Ω) htr d  τ (-1) 0 s5 q9
              refine xp_ok htr 4 (d + 209) 0 0 [eC (some (.int v7)) (hM 23 s8 τ)] 88 12 [some (.ref 20), none] [] (hM 23 s5 τ) ⟨hc, ?_⟩
              show xv l Ω (d + 209) 0 0 88 18 [some (.ref 20), none] [.int v7] (hM 23 s8 τ) r
              by_cases h10 : v7 = 0
              · rw [if_pos h10] at H
                refine xp_ok htr 1 (d + 209) 0 0 [eB true] 88 18 [some (.ref 20), none] [.int v7] (hM 23 s8 τ) ⟨h10, ?_⟩
                show xv l Ω (d + 209) 0 0 88 33 [some (.ref 20), none] [] (hM 23 s8 τ) r
                exact xv_sub (L' := [some (.ref 20), none]) ⟨rfl, trivial⟩ (g88_33_ok_23 htr d  τ s8 r H)
              · rw [if_neg h10] at H
                refine xp_ok htr 1 (d + 209) 0 0 [eB false] 88 18 [some (.ref 20), none] [.int v7] (hM 23 s8 τ) ⟨h10, ?_⟩
                show xv l Ω (d + 209) 0 0 88 21 [some (.ref 20), none] [] (hM 23 s8 τ) r
                by_cases h15 : (s8 20 3) = (-1)
                · rw [if_pos h15] at H
                  refine xp_ok htr 4 (d + 209) 0 0 [eB false] 88 21 [some (.ref 20), none] [] (hM 23 s8 τ) ⟨h15, ?_⟩
                  show xv l Ω (d + 209) 0 0 88 29 [some (.ref 20), none] [] (hM 23 s8 τ) r
                  refine xp_ok htr 2 (d + 209) 0 0 [] 88 29 [some (.ref 20), none] [] (hM 23 s8 τ) ?_
                  show xv l Ω (d + 209) 0 0 88 34 [some (.ref 20), none] [.int 1] (hM 23 s8 τ) r
                  exact xv_sub (L' := [some (.ref 20), none]) ⟨rfl, trivial⟩ (g88_34_ok_23 htr d  τ 1 s8 r H)
                · rw [if_neg h15] at H
                  refine xp_ok htr 4 (d + 209) 0 0 [eB true] 88 21 [some (.ref 20), none] [] (hM 23 s8 τ) ⟨h15, ?_⟩
                  show xv l Ω (d + 209) 0 0 88 33 [some (.ref 20), none] [] (hM 23 s8 τ) r
                  exact xv_sub (L' := [some (.ref 20), none]) ⟨rfl, trivial⟩ (g88_33_ok_23 htr d  τ s8 r H)
            · rw [q9] at H; exact False.elim H
        · rw [q6] at H; exact False.elim H
    · rw [q3] at H; exact False.elim H
theorem g88_34_ok_36 {l : Launch} {Ω : xo_O} (htr : xH l) (d : Nat) (τ : Nat → Nat → Int64) (k0 : Int32) (σ : xS) (r : xv_R) (H : xo (xB false 36 τ r) (g88_34 36 k0 σ)) : xv l Ω (d + 209) 0 0 88 34 [some (.ref 20), none] [.int k0] (hM 36 σ τ) r := by
  unfold g88_34 at H
  cases q13 : g109 σ with
  | none => rw [q13] at H; exact False.elim H
  | some q130 =>
    obtain ⟨v11 | v11, s12⟩ := q130
    · rw [q13] at H; dsimp only at H
      have hc := g109_run (Ω := Ω) htr (d + 208) 36 τ  σ q13
      refine xp_ok htr 4 (d + 209) 0 0 [eC none (hM 36 s12 τ)] 88 34 [some (.ref 20), none] [.int k0] (hM 36 σ τ) ⟨hc, ?_⟩
      show xv l Ω (d + 209) 0 0 88 42 [some (.ref 20), some (.int k0)] [] (hM 36 s12 τ) r
      by_cases h14 : k0 = 0
      · rw [if_pos h14] at H
        refine xp_ok htr 2 (d + 209) 0 0 [eB true] 88 42 [some (.ref 20), some (.int k0)] [] (hM 36 s12 τ) ⟨h14, ?_⟩
        show xv l Ω (d + 209) 0 0 88 50 [some (.ref 20), some (.int k0)] [] (hM 36 s12 τ) r
        exact xp_ok htr 3 (d + 209) 0 0 [] 88 50 [some (.ref 20), some (.int k0)] [] (hM 36 s12 τ) ⟨trivial, (Eq.symm H)⟩
      · rw [if_neg h14] at H
        refine xp_ok htr 2 (d + 209) 0 0 [eB false] 88 42 [some (.ref 20), some (.int k0)] [] (hM 36 s12 τ) ⟨h14, ?_⟩
        show xv l Ω (d + 209) 0 0 88 46 [some (.ref 20), some (.int k0)] [] (hM 36 s12 τ) r
        exact xp_ok htr 3 (d + 209) 0 0 [] 88 46 [some (.ref 20), some (.int k0)] [] (hM 36 s12 τ) ⟨trivial, (Eq.symm H)⟩
    · rw [q13] at H; exact False.elim H
theorem g88_33_ok_36 {l : Launch} {Ω : xo_O} (htr : xH l) (d : Nat) (τ : Nat → Nat → Int64)  (σ : xS) (r : xv_R) (H : xo (xB false 36 τ r) (g88_33 36 σ)) : xv l Ω (d + 209) 0 0 88 33 [some (.ref 20), none] [] (hM 36 σ τ) r := by
  unfold g88_33 at H
  refine xp_ok htr 1 (d + 209) 0 0 [] 88 33 [some (.ref 20), none] [] (hM 36 σ τ) ?_
  show xv l Ω (d + 209) 0 0 88 34 [some (.ref 20), none] [.int 0] (hM 36 σ τ) r
  exact xv_sub (L' := [some (.ref 20), none]) ⟨rfl, trivial⟩ (g88_34_ok_36 htr d  τ 0 σ r H)
theorem g88_run_36 {l : Launch} {Ω : xo_O} (htr : xH l) (d : Nat) (τ : Nat → Nat → Int64)  (σ : xS) {q : xQ} (hq : g88 36  σ = some q) : xv l Ω (d + 209) 0 0 88 0 (xs_loc (xm_l 88) [.ref 20]) [] (hM 36 σ τ) (xq_R false 36 τ q) := by
  have H : xo (xB false 36 τ (xq_R false 36 τ q)) (g88 36  σ) := by rw [hq]; exact rfl
  generalize xq_R false 36 τ q = r at H ⊢
  show xv l Ω (d + 209) 0 0 88 0 [some (.ref 20), none] [] (hM 36 σ τ) r
  unfold g88 at H
  cases q3 : g89 36 σ with
  | none => rw [q3] at H; exact False.elim H
  | some q30 =>
    obtain ⟨v1 | v1, s2⟩ := q30
    · rw [q3] at H; dsimp only at H
      have hc := g89_run_36 (Ω := Ω) htr (d + 208) 36 τ  σ q3
      refine xp_ok htr 3 (d + 209) 0 0 [eC none (hM 36 s2 τ)] 88 0 [some (.ref 20), none] [] (hM 36 σ τ) ⟨hc, ?_⟩
      show xv l Ω (d + 209) 0 0 88 7 [some (.ref 20), none] [] (hM 36 s2 τ) r
      cases q6 : g90 0 s2 with
      | none => rw [q6] at H; exact False.elim H
      | some q60 =>
        obtain ⟨v4 | v4, s5⟩ := q60
        · rw [q6] at H; dsimp only at H
          have hc := g90_run (Ω := Ω) htr (d + 208) 36 τ 0 s2 q6
          refine xp_ok htr 3 (d + 209) 0 0 [eC none (hM 36 s5 τ)] 88 7 [some (.ref 20), none] [] (hM 36 s2 τ) ⟨hc, ?_⟩
          show xv l Ω (d + 209) 0 0 88 12 [some (.ref 20), none] [] (hM 36 s5 τ) r
          cases q9 : g91 36 8 (-1) 0 s5 with
          | none => rw [q9] at H; exact False.elim H
          | some q90 =>
            obtain ⟨v7 | v7, s8⟩ := q90
            · rw [q9] at H; dsimp only at H
              have hc := g91_run_36 (Ω := Ω) htr d  τ (-1) 0 s5 q9
              refine xp_ok htr 4 (d + 209) 0 0 [eC (some (.int v7)) (hM 36 s8 τ)] 88 12 [some (.ref 20), none] [] (hM 36 s5 τ) ⟨hc, ?_⟩
              show xv l Ω (d + 209) 0 0 88 18 [some (.ref 20), none] [.int v7] (hM 36 s8 τ) r
              by_cases h10 : v7 = 0
              · rw [if_pos h10] at H
                refine xp_ok htr 1 (d + 209) 0 0 [eB true] 88 18 [some (.ref 20), none] [.int v7] (hM 36 s8 τ) ⟨h10, ?_⟩
                show xv l Ω (d + 209) 0 0 88 33 [some (.ref 20), none] [] (hM 36 s8 τ) r
                exact xv_sub (L' := [some (.ref 20), none]) ⟨rfl, trivial⟩ (g88_33_ok_36 htr d  τ s8 r H)
              · rw [if_neg h10] at H
                refine xp_ok htr 1 (d + 209) 0 0 [eB false] 88 18 [some (.ref 20), none] [.int v7] (hM 36 s8 τ) ⟨h10, ?_⟩
                show xv l Ω (d + 209) 0 0 88 21 [some (.ref 20), none] [] (hM 36 s8 τ) r
                by_cases h15 : (s8 20 3) = (-1)
                · rw [if_pos h15] at H
                  refine xp_ok htr 4 (d + 209) 0 0 [eB false] 88 21 [some (.ref 20), none] [] (hM 36 s8 τ) ⟨h15, ?_⟩
                  show xv l Ω (d + 209) 0 0 88 29 [some (.ref 20), none] [] (hM 36 s8 τ) r
                  refine xp_ok htr 2 (d + 209) 0 0 [] 88 29 [some (.ref 20), none] [] (hM 36 s8 τ) ?_
                  show xv l Ω (d + 209) 0 0 88 34 [some (.ref 20), none] [.int 1] (hM 36 s8 τ) r
                  exact xv_sub (L' := [some (.ref 20), none]) ⟨rfl, trivial⟩ (g88_34_ok_36 htr d  τ 1 s8 r H)
                · rw [if_neg h15] at H
                  refine xp_ok htr 4 (d + 209) 0 0 [eB true] 88 21 [some (.ref 20), none] [] (hM 36 s8 τ) ⟨h15, ?_⟩
                  show xv l Ω (d + 209) 0 0 88 33 [some (.ref 20), none] [] (hM 36 s8 τ) r
                  exact xv_sub (L' := [some (.ref 20), none]) ⟨rfl, trivial⟩ (g88_33_ok_36 htr d  τ s8 r H)
            · rw [q9] at H; exact False.elim H
        · rw [q6] at H; exact False.elim H
    · rw [q3] at H; exact False.elim H
/- AccessDesk$Facts.setRequest -/
def g114 (a1 : Int32) (a2 : Int32) (σ : xS) : xO := some ((Sum.inl 0, (xh_ui (xh_ui σ 35 0 a1) 35 1 a2)))
theorem g114_run {l : Launch} {Ω : xo_O} (htr : xH l) (d : Nat) (p : Nat) (τ : Nat → Nat → Int64) (a1 : Int32) (a2 : Int32) (σ : xS) {q : xQ} (hq : g114 a1 a2 σ = some q) : xv l Ω d 0 0 114 0 (xs_loc (xm_l 114) [.ref 35, .int a1, .int a2]) [] (hM p σ τ) (xq_R true p τ q) := by
  have H : xo (xB true p τ (xq_R true p τ q)) (g114 a1 a2 σ) := by rw [hq]; exact rfl
  generalize xq_R true p τ q = r at H ⊢
  show xv l Ω d 0 0 114 0 [some (.ref 35), some (.int a1), some (.int a2)] [] (hM p σ τ) r
  unfold g114 at H
  exact xp_ok htr 7 d 0 0 [] 114 0 [some (.ref 35), some (.int a1), some (.int a2)] [] (hM p σ τ) ⟨trivial, (Eq.symm H)⟩
/- AccessDesk$Facts.setThing -/
def g115 (a1 : Int32) (a2 : Int32) (a3 : Int32) (σ : xS) : xO := (bif decide (a3 = 0 ∨ a3 = 1) then some ((Sum.inl 0, (xh_ui (xh_ui (xh_ui σ 35 2 a1) 35 3 a2) 35 4 a3))) else none)
theorem g115_run {l : Launch} {Ω : xo_O} (htr : xH l) (d : Nat) (p : Nat) (τ : Nat → Nat → Int64) (a1 : Int32) (a2 : Int32) (a3 : Int32) (σ : xS) {q : xQ} (hq : g115 a1 a2 a3 σ = some q) : xv l Ω d 0 0 115 0 (xs_loc (xm_l 115) [.ref 35, .int a1, .int a2, .int a3]) [] (hM p σ τ) (xq_R true p τ q) := by
  have H : xo (xB true p τ (xq_R true p τ q)) (g115 a1 a2 a3 σ) := by rw [hq]; exact rfl
  generalize xq_R true p τ q = r at H ⊢
  show xv l Ω d 0 0 115 0 [some (.ref 35), some (.int a1), some (.int a2), some (.int a3)] [] (hM p σ τ) r
  unfold g115 at H
  refine xp_ok htr 8 d 0 0 [] 115 0 [some (.ref 35), some (.int a1), some (.int a2), some (.int a3)] [] (hM p σ τ) ?_
  show xv l Ω d 0 0 115 12 [some (.ref 35), some (.int a1), some (.int a2), some (.int a3)] [.int a3, .ref 35] (hM p (xh_ui (xh_ui σ 35 2 a1) 35 3 a2) τ) r
  cases g1 : decide (a3 = 0 ∨ a3 = 1) with
  | false => rw [g1, cond_false] at H; exact False.elim H
  | true =>
    rw [g1, cond_true] at H
    exact xp_ok htr 2 d 0 0 [] 115 12 [some (.ref 35), some (.int a1), some (.int a2), some (.int a3)] [.int a3, .ref 35] (hM p (xh_ui (xh_ui σ 35 2 a1) 35 3 a2) τ) ⟨(xb01 g1), trivial, (Eq.symm H)⟩
/- AccessDesk$Facts.setAsker -/
def g116 (a1 : Int32) (a2 : Int32) (a3 : Int32) (a4 : Int32) (σ : xS) : xO := (bif decide (a3 = 0 ∨ a3 = 1) then some ((Sum.inl 0, (xh_ui (xh_ui (xh_ui (xh_ui σ 35 5 a1) 35 6 a2) 35 7 a3) 35 8 a4))) else none)
theorem g116_run {l : Launch} {Ω : xo_O} (htr : xH l) (d : Nat) (p : Nat) (τ : Nat → Nat → Int64) (a1 : Int32) (a2 : Int32) (a3 : Int32) (a4 : Int32) (σ : xS) {q : xQ} (hq : g116 a1 a2 a3 a4 σ = some q) : xv l Ω d 0 0 116 0 (xs_loc (xm_l 116) [.ref 35, .int a1, .int a2, .int a3, .int a4]) [] (hM p σ τ) (xq_R true p τ q) := by
  have H : xo (xB true p τ (xq_R true p τ q)) (g116 a1 a2 a3 a4 σ) := by rw [hq]; exact rfl
  generalize xq_R true p τ q = r at H ⊢
  show xv l Ω d 0 0 116 0 [some (.ref 35), some (.int a1), some (.int a2), some (.int a3), some (.int a4)] [] (hM p σ τ) r
  unfold g116 at H
  refine xp_ok htr 8 d 0 0 [] 116 0 [some (.ref 35), some (.int a1), some (.int a2), some (.int a3), some (.int a4)] [] (hM p σ τ) ?_
  show xv l Ω d 0 0 116 12 [some (.ref 35), some (.int a1), some (.int a2), some (.int a3), some (.int a4)] [.int a3, .ref 35] (hM p (xh_ui (xh_ui σ 35 5 a1) 35 6 a2) τ) r
  cases g1 : decide (a3 = 0 ∨ a3 = 1) with
  | false => rw [g1, cond_false] at H; exact False.elim H
  | true =>
    rw [g1, cond_true] at H
    exact xp_ok htr 5 d 0 0 [] 116 12 [some (.ref 35), some (.int a1), some (.int a2), some (.int a3), some (.int a4)] [.int a3, .ref 35] (hM p (xh_ui (xh_ui σ 35 5 a1) 35 6 a2) τ) ⟨(xb01 g1), trivial, (Eq.symm H)⟩
/- java/lang/Math.min -/
def g119 (a0 : Int32) (a1 : Int32) (σ : xS) : xO := (if a1 < a0 then some ((Sum.inl a1, σ)) else some ((Sum.inl a0, σ)))
theorem g119_run {l : Launch} {Ω : xo_O} (htr : xH l) (d : Nat) (p : Nat) (τ : Nat → Nat → Int64) (a0 : Int32) (a1 : Int32) (σ : xS) {q : xQ} (hq : g119 a0 a1 σ = some q) : xv l Ω d 0 0 119 0 (xs_loc (xm_l 119) [.int a0, .int a1]) [] (hM p σ τ) (xq_R false p τ q) := by
  have H : xo (xB false p τ (xq_R false p τ q)) (g119 a0 a1 σ) := by rw [hq]; exact rfl
  generalize xq_R false p τ q = r at H ⊢
  show xv l Ω d 0 0 119 0 [some (.int a0), some (.int a1)] [] (hM p σ τ) r
  unfold g119 at H
  by_cases h1 : a1 < a0
  · rw [if_pos h1] at H
    refine xp_ok htr 3 d 0 0 [eB true] 119 0 [some (.int a0), some (.int a1)] [] (hM p σ τ) ⟨h1, ?_⟩
    show xv l Ω d 0 0 119 9 [some (.int a0), some (.int a1)] [] (hM p σ τ) r
    exact xp_ok htr 2 d 0 0 [] 119 9 [some (.int a0), some (.int a1)] [] (hM p σ τ) ⟨trivial, (Eq.symm H)⟩
  · rw [if_neg h1] at H
    refine xp_ok htr 3 d 0 0 [eB false] 119 0 [some (.int a0), some (.int a1)] [] (hM p σ τ) ⟨h1, ?_⟩
    show xv l Ω d 0 0 119 5 [some (.int a0), some (.int a1)] [] (hM p σ τ) r
    exact xp_ok htr 3 d 0 0 [] 119 5 [some (.int a0), some (.int a1)] [] (hM p σ τ) ⟨trivial, (Eq.symm H)⟩
/- AccessDesk$Facts.compared -/
def g122_38 (k0 : Int32) (σ : xS) : Option xQ := (if k0 = 0 then some ((Sum.inl 0, σ)) else some ((Sum.inl 2, σ)))
def g122_33  (σ : xS) : Option xQ := g122_38 1 σ
def g122_37  (σ : xS) : Option xQ := g122_38 0 σ
def g122_22 (x0 : Int32) (x1 : Int32) (x2 : Int32) (σ : xS) : Option xQ := (if x1 = 62 then (if x0 ≤ x2 then g122_37 σ else g122_33 σ) else g122_37 σ)
def g122_11 (x0 : Int32) (x1 : Int32) (x2 : Int32) (σ : xS) : Option xQ := (if x1 = 60 then (if x0 < x2 then g122_33 σ else g122_22 x0 x1 x2 σ) else g122_22 x0 x1 x2 σ)
def g122 (a0 : Int32) (a1 : Int32) (a2 : Int32) (σ : xS) : xO := (if a1 = 61 then (if a0 = a2 then g122_33 σ else g122_11 a0 a1 a2 σ) else g122_11 a0 a1 a2 σ)
theorem g122_38_ok {l : Launch} {Ω : xo_O} (htr : xH l) (d : Nat) (p : Nat) (τ : Nat → Nat → Int64) (k0 : Int32) (σ : xS) (r : xv_R) (H : xo (xB false p τ r) (g122_38 k0 σ)) : xv l Ω d 0 0 122 38 [none, none, none, none] [.int k0] (hM p σ τ) r := by
  unfold g122_38 at H
  by_cases h3 : k0 = 0
  · rw [if_pos h3] at H
    refine xp_ok htr 3 d 0 0 [eB true] 122 38 [none, none, none, none] [.int k0] (hM p σ τ) ⟨h3, ?_⟩
    show xv l Ω d 0 0 122 47 [none, none, none, some (.int k0)] [] (hM p σ τ) r
    exact xp_ok htr 2 d 0 0 [] 122 47 [none, none, none, some (.int k0)] [] (hM p σ τ) ⟨trivial, (Eq.symm H)⟩
  · rw [if_neg h3] at H
    refine xp_ok htr 3 d 0 0 [eB false] 122 38 [none, none, none, none] [.int k0] (hM p σ τ) ⟨h3, ?_⟩
    show xv l Ω d 0 0 122 43 [none, none, none, some (.int k0)] [] (hM p σ τ) r
    exact xp_ok htr 3 d 0 0 [] 122 43 [none, none, none, some (.int k0)] [] (hM p σ τ) ⟨trivial, (Eq.symm H)⟩
theorem g122_33_ok {l : Launch} {Ω : xo_O} (htr : xH l) (d : Nat) (p : Nat) (τ : Nat → Nat → Int64)  (σ : xS) (r : xv_R) (H : xo (xB false p τ r) (g122_33 σ)) : xv l Ω d 0 0 122 33 [none, none, none, none] [] (hM p σ τ) r := by
  unfold g122_33 at H
  refine xp_ok htr 2 d 0 0 [] 122 33 [none, none, none, none] [] (hM p σ τ) ?_
  show xv l Ω d 0 0 122 38 [none, none, none, none] [.int 1] (hM p σ τ) r
  exact xv_sub (L' := [none, none, none, none]) trivial (g122_38_ok htr d p τ 1 σ r H)
theorem g122_37_ok {l : Launch} {Ω : xo_O} (htr : xH l) (d : Nat) (p : Nat) (τ : Nat → Nat → Int64)  (σ : xS) (r : xv_R) (H : xo (xB false p τ r) (g122_37 σ)) : xv l Ω d 0 0 122 37 [none, none, none, none] [] (hM p σ τ) r := by
  unfold g122_37 at H
  refine xp_ok htr 1 d 0 0 [] 122 37 [none, none, none, none] [] (hM p σ τ) ?_
  show xv l Ω d 0 0 122 38 [none, none, none, none] [.int 0] (hM p σ τ) r
  exact xv_sub (L' := [none, none, none, none]) trivial (g122_38_ok htr d p τ 0 σ r H)
theorem g122_22_ok {l : Launch} {Ω : xo_O} (htr : xH l) (d : Nat) (p : Nat) (τ : Nat → Nat → Int64) (x0 : Int32) (x1 : Int32) (x2 : Int32) (σ : xS) (r : xv_R) (H : xo (xB false p τ r) (g122_22 x0 x1 x2 σ)) : xv l Ω d 0 0 122 22 [some (.int x0), some (.int x1), some (.int x2), none] [] (hM p σ τ) r := by
  unfold g122_22 at H
  by_cases h6 : x1 = 62
  · rw [if_pos h6] at H
    refine xp_ok htr 3 d 0 0 [eB false] 122 22 [some (.int x0), some (.int x1), some (.int x2), none] [] (hM p σ τ) ⟨h6, ?_⟩
    show xv l Ω d 0 0 122 28 [some (.int x0), some (.int x1), some (.int x2), none] [] (hM p σ τ) r
    by_cases h7 : x0 ≤ x2
    · rw [if_pos h7] at H
      refine xp_ok htr 3 d 0 0 [eB true] 122 28 [some (.int x0), some (.int x1), some (.int x2), none] [] (hM p σ τ) ⟨h7, ?_⟩
      show xv l Ω d 0 0 122 37 [some (.int x0), some (.int x1), some (.int x2), none] [] (hM p σ τ) r
      exact xv_sub (L' := [none, none, none, none]) trivial (g122_37_ok htr d p τ σ r H)
    · rw [if_neg h7] at H
      refine xp_ok htr 3 d 0 0 [eB false] 122 28 [some (.int x0), some (.int x1), some (.int x2), none] [] (hM p σ τ) ⟨h7, ?_⟩
      show xv l Ω d 0 0 122 33 [some (.int x0), some (.int x1), some (.int x2), none] [] (hM p σ τ) r
      exact xv_sub (L' := [none, none, none, none]) trivial (g122_33_ok htr d p τ σ r H)
  · rw [if_neg h6] at H
    refine xp_ok htr 3 d 0 0 [eB true] 122 22 [some (.int x0), some (.int x1), some (.int x2), none] [] (hM p σ τ) ⟨h6, ?_⟩
    show xv l Ω d 0 0 122 37 [some (.int x0), some (.int x1), some (.int x2), none] [] (hM p σ τ) r
    exact xv_sub (L' := [none, none, none, none]) trivial (g122_37_ok htr d p τ σ r H)
theorem g122_11_ok {l : Launch} {Ω : xo_O} (htr : xH l) (d : Nat) (p : Nat) (τ : Nat → Nat → Int64) (x0 : Int32) (x1 : Int32) (x2 : Int32) (σ : xS) (r : xv_R) (H : xo (xB false p τ r) (g122_11 x0 x1 x2 σ)) : xv l Ω d 0 0 122 11 [some (.int x0), some (.int x1), some (.int x2), none] [] (hM p σ τ) r := by
  unfold g122_11 at H
  by_cases h4 : x1 = 60
  · rw [if_pos h4] at H
    refine xp_ok htr 3 d 0 0 [eB false] 122 11 [some (.int x0), some (.int x1), some (.int x2), none] [] (hM p σ τ) ⟨h4, ?_⟩
    show xv l Ω d 0 0 122 17 [some (.int x0), some (.int x1), some (.int x2), none] [] (hM p σ τ) r
    by_cases h5 : x0 < x2
    · rw [if_pos h5] at H
      refine xp_ok htr 3 d 0 0 [eB true] 122 17 [some (.int x0), some (.int x1), some (.int x2), none] [] (hM p σ τ) ⟨h5, ?_⟩
      show xv l Ω d 0 0 122 33 [some (.int x0), some (.int x1), some (.int x2), none] [] (hM p σ τ) r
      exact xv_sub (L' := [none, none, none, none]) trivial (g122_33_ok htr d p τ σ r H)
    · rw [if_neg h5] at H
      refine xp_ok htr 3 d 0 0 [eB false] 122 17 [some (.int x0), some (.int x1), some (.int x2), none] [] (hM p σ τ) ⟨h5, ?_⟩
      show xv l Ω d 0 0 122 22 [some (.int x0), some (.int x1), some (.int x2), none] [] (hM p σ τ) r
      exact xv_sub (L' := [some (.int x0), some (.int x1), some (.int x2), none]) ⟨rfl, ⟨rfl, ⟨rfl, trivial⟩⟩⟩ (g122_22_ok htr d p τ x0 x1 x2 σ r H)
  · rw [if_neg h4] at H
    refine xp_ok htr 3 d 0 0 [eB true] 122 11 [some (.int x0), some (.int x1), some (.int x2), none] [] (hM p σ τ) ⟨h4, ?_⟩
    show xv l Ω d 0 0 122 22 [some (.int x0), some (.int x1), some (.int x2), none] [] (hM p σ τ) r
    exact xv_sub (L' := [some (.int x0), some (.int x1), some (.int x2), none]) ⟨rfl, ⟨rfl, ⟨rfl, trivial⟩⟩⟩ (g122_22_ok htr d p τ x0 x1 x2 σ r H)
theorem g122_run {l : Launch} {Ω : xo_O} (htr : xH l) (d : Nat) (p : Nat) (τ : Nat → Nat → Int64) (a0 : Int32) (a1 : Int32) (a2 : Int32) (σ : xS) {q : xQ} (hq : g122 a0 a1 a2 σ = some q) : xv l Ω d 0 0 122 0 (xs_loc (xm_l 122) [.int a0, .int a1, .int a2]) [] (hM p σ τ) (xq_R false p τ q) := by
  have H : xo (xB false p τ (xq_R false p τ q)) (g122 a0 a1 a2 σ) := by rw [hq]; exact rfl
  generalize xq_R false p τ q = r at H ⊢
  show xv l Ω d 0 0 122 0 [some (.int a0), some (.int a1), some (.int a2), none] [] (hM p σ τ) r
  unfold g122 at H
  by_cases h1 : a1 = 61
  · rw [if_pos h1] at H
    refine xp_ok htr 3 d 0 0 [eB false] 122 0 [some (.int a0), some (.int a1), some (.int a2), none] [] (hM p σ τ) ⟨h1, ?_⟩
    show xv l Ω d 0 0 122 6 [some (.int a0), some (.int a1), some (.int a2), none] [] (hM p σ τ) r
    by_cases h2 : a0 = a2
    · rw [if_pos h2] at H
      refine xp_ok htr 3 d 0 0 [eB true] 122 6 [some (.int a0), some (.int a1), some (.int a2), none] [] (hM p σ τ) ⟨h2, ?_⟩
      show xv l Ω d 0 0 122 33 [some (.int a0), some (.int a1), some (.int a2), none] [] (hM p σ τ) r
      exact xv_sub (L' := [none, none, none, none]) trivial (g122_33_ok htr d p τ σ r H)
    · rw [if_neg h2] at H
      refine xp_ok htr 3 d 0 0 [eB false] 122 6 [some (.int a0), some (.int a1), some (.int a2), none] [] (hM p σ τ) ⟨h2, ?_⟩
      show xv l Ω d 0 0 122 11 [some (.int a0), some (.int a1), some (.int a2), none] [] (hM p σ τ) r
      exact xv_sub (L' := [some (.int a0), some (.int a1), some (.int a2), none]) ⟨rfl, ⟨rfl, ⟨rfl, trivial⟩⟩⟩ (g122_11_ok htr d p τ a0 a1 a2 σ r H)
  · rw [if_neg h1] at H
    refine xp_ok htr 3 d 0 0 [eB true] 122 0 [some (.int a0), some (.int a1), some (.int a2), none] [] (hM p σ τ) ⟨h1, ?_⟩
    show xv l Ω d 0 0 122 11 [some (.int a0), some (.int a1), some (.int a2), none] [] (hM p σ τ) r
    exact xv_sub (L' := [some (.int a0), some (.int a1), some (.int a2), none]) ⟨rfl, ⟨rfl, ⟨rfl, trivial⟩⟩⟩ (g122_11_ok htr d p τ a0 a1 a2 σ r H)
/- AccessDesk$Facts.match -/
def g121 (a1 : Int32) (a2 : Int32) (a3 : Int32) (σ : xS) : xO := (if a1 = 76 then (if (σ 35 4) = 0 then some ((Sum.inl 1, σ)) else (match g122 (σ 35 3) a2 a3 σ with | some (Sum.inl v3, s4) => some ((Sum.inl v3, s4)) | some (Sum.inr v3, s4) => none | none => none)) else (if a1 = 83 then (if (σ 35 7) = 0 then some ((Sum.inl 1, σ)) else (match g122 (σ 35 6) a2 a3 σ with | some (Sum.inl v7, s8) => some ((Sum.inl v7, s8)) | some (Sum.inr v7, s8) => none | none => none)) else (if a1 = 97 then (match g122 (σ 35 0) a2 a3 σ with | some (Sum.inl v10, s11) => some ((Sum.inl v10, s11)) | some (Sum.inr v10, s11) => none | none => none) else (if a1 = 99 then (match g122 (σ 35 2) a2 a3 σ with | some (Sum.inl v13, s14) => some ((Sum.inl v13, s14)) | some (Sum.inr v13, s14) => none | none => none) else (if a1 = 104 then (match g122 (σ 35 1) a2 a3 σ with | some (Sum.inl v16, s17) => some ((Sum.inl v16, s17)) | some (Sum.inr v16, s17) => none | none => none) else (if a1 = 108 then (if (σ 35 4) = 0 then some ((Sum.inl 0, σ)) else (match g122 (σ 35 3) a2 a3 σ with | some (Sum.inl v20, s21) => some ((Sum.inl v20, s21)) | some (Sum.inr v20, s21) => none | none => none)) else (if a1 = 114 then (if 12 ≤ a3 then some ((Sum.inl 0, σ)) else (match g28 (σ 35 8) a3 σ with | some (Sum.inl v24, s25) => (if v24 = 0 then some ((Sum.inl 0, s25)) else some ((Sum.inl 2, s25))) | some (Sum.inr v24, s25) => none | none => none)) else (if a1 = 115 then (if (σ 35 7) = 0 then some ((Sum.inl 0, σ)) else (match g122 (σ 35 6) a2 a3 σ with | some (Sum.inl v29, s30) => some ((Sum.inl v29, s30)) | some (Sum.inr v29, s30) => none | none => none)) else (if a1 = 117 then (match g122 (σ 35 5) a2 a3 σ with | some (Sum.inl v32, s33) => some ((Sum.inl v32, s33)) | some (Sum.inr v32, s33) => none | none => none) else some ((Sum.inl 0, σ)))))))))))
theorem g121_run {l : Launch} {Ω : xo_O} (htr : xH l) (d : Nat) (p : Nat) (τ : Nat → Nat → Int64) (a1 : Int32) (a2 : Int32) (a3 : Int32) (σ : xS) {q : xQ} (hq : g121 a1 a2 a3 σ = some q) : xv l Ω (d + 1) 0 0 121 0 (xs_loc (xm_l 121) [.ref 35, .int a1, .int a2, .int a3]) [] (hM p σ τ) (xq_R false p τ q) := by
  have H : xo (xB false p τ (xq_R false p τ q)) (g121 a1 a2 a3 σ) := by rw [hq]; exact rfl
  generalize xq_R false p τ q = r at H ⊢
  show xv l Ω (d + 1) 0 0 121 0 [some (.ref 35), some (.int a1), some (.int a2), some (.int a3)] [] (hM p σ τ) r
  unfold g121 at H
  by_cases h1_0 : a1 = 76
  · rw [if_pos h1_0] at H
    refine xp_ok htr 2 (d + 1) 0 0 [eS (some 76)] 121 0 [some (.ref 35), some (.int a1), some (.int a2), some (.int a3)] [] (hM p σ τ) ⟨h1_0, ?_⟩
    show xv l Ω (d + 1) 0 0 121 168 [some (.ref 35), some (.int a1), some (.int a2), some (.int a3)] [] (hM p σ τ) r
    by_cases h2 : (σ 35 4) = 0
    · rw [if_pos h2] at H
      refine xp_ok htr 3 (d + 1) 0 0 [eB true] 121 168 [some (.ref 35), some (.int a1), some (.int a2), some (.int a3)] [] (hM p σ τ) ⟨h2, ?_⟩
      show xv l Ω (d + 1) 0 0 121 187 [some (.ref 35), some (.int a1), some (.int a2), some (.int a3)] [] (hM p σ τ) r
      exact xp_ok htr 2 (d + 1) 0 0 [] 121 187 [some (.ref 35), some (.int a1), some (.int a2), some (.int a3)] [] (hM p σ τ) ⟨trivial, (Eq.symm H)⟩
    · rw [if_neg h2] at H
      refine xp_ok htr 3 (d + 1) 0 0 [eB false] 121 168 [some (.ref 35), some (.int a1), some (.int a2), some (.int a3)] [] (hM p σ τ) ⟨h2, ?_⟩
      show xv l Ω (d + 1) 0 0 121 175 [some (.ref 35), some (.int a1), some (.int a2), some (.int a3)] [] (hM p σ τ) r
      cases q5 : g122 (σ 35 3) a2 a3 σ with
      | none => rw [q5] at H; exact False.elim H
      | some q50 =>
        obtain ⟨v3 | v3, s4⟩ := q50
        · rw [q5] at H; dsimp only at H
          have hc := g122_run (Ω := Ω) htr d p τ (σ 35 3) a2 a3 σ q5
          refine xp_ok htr 5 (d + 1) 0 0 [eC (some (.int v3)) (hM p s4 τ)] 121 175 [some (.ref 35), some (.int a1), some (.int a2), some (.int a3)] [] (hM p σ τ) ⟨hc, ?_⟩
          show xv l Ω (d + 1) 0 0 121 184 [some (.ref 35), some (.int a1), some (.int a2), some (.int a3)] [.int v3] (hM p s4 τ) r
          exact xp_ok htr 2 (d + 1) 0 0 [] 121 184 [some (.ref 35), some (.int a1), some (.int a2), some (.int a3)] [.int v3] (hM p s4 τ) ⟨trivial, (Eq.symm H)⟩
        · rw [q5] at H; exact False.elim H
  rw [if_neg h1_0] at H
  by_cases h1_1 : a1 = 83
  · rw [if_pos h1_1] at H
    refine xp_ok htr 2 (d + 1) 0 0 [eS (some 83)] 121 0 [some (.ref 35), some (.int a1), some (.int a2), some (.int a3)] [] (hM p σ τ) ⟨h1_1, ?_⟩
    show xv l Ω (d + 1) 0 0 121 210 [some (.ref 35), some (.int a1), some (.int a2), some (.int a3)] [] (hM p σ τ) r
    by_cases h6 : (σ 35 7) = 0
    · rw [if_pos h6] at H
      refine xp_ok htr 3 (d + 1) 0 0 [eB true] 121 210 [some (.ref 35), some (.int a1), some (.int a2), some (.int a3)] [] (hM p σ τ) ⟨h6, ?_⟩
      show xv l Ω (d + 1) 0 0 121 229 [some (.ref 35), some (.int a1), some (.int a2), some (.int a3)] [] (hM p σ τ) r
      exact xp_ok htr 2 (d + 1) 0 0 [] 121 229 [some (.ref 35), some (.int a1), some (.int a2), some (.int a3)] [] (hM p σ τ) ⟨trivial, (Eq.symm H)⟩
    · rw [if_neg h6] at H
      refine xp_ok htr 3 (d + 1) 0 0 [eB false] 121 210 [some (.ref 35), some (.int a1), some (.int a2), some (.int a3)] [] (hM p σ τ) ⟨h6, ?_⟩
      show xv l Ω (d + 1) 0 0 121 217 [some (.ref 35), some (.int a1), some (.int a2), some (.int a3)] [] (hM p σ τ) r
      cases q9 : g122 (σ 35 6) a2 a3 σ with
      | none => rw [q9] at H; exact False.elim H
      | some q90 =>
        obtain ⟨v7 | v7, s8⟩ := q90
        · rw [q9] at H; dsimp only at H
          have hc := g122_run (Ω := Ω) htr d p τ (σ 35 6) a2 a3 σ q9
          refine xp_ok htr 5 (d + 1) 0 0 [eC (some (.int v7)) (hM p s8 τ)] 121 217 [some (.ref 35), some (.int a1), some (.int a2), some (.int a3)] [] (hM p σ τ) ⟨hc, ?_⟩
          show xv l Ω (d + 1) 0 0 121 226 [some (.ref 35), some (.int a1), some (.int a2), some (.int a3)] [.int v7] (hM p s8 τ) r
          exact xp_ok htr 2 (d + 1) 0 0 [] 121 226 [some (.ref 35), some (.int a1), some (.int a2), some (.int a3)] [.int v7] (hM p s8 τ) ⟨trivial, (Eq.symm H)⟩
        · rw [q9] at H; exact False.elim H
  rw [if_neg h1_1] at H
  by_cases h1_2 : a1 = 97
  · rw [if_pos h1_2] at H
    refine xp_ok htr 2 (d + 1) 0 0 [eS (some 97)] 121 0 [some (.ref 35), some (.int a1), some (.int a2), some (.int a3)] [] (hM p σ τ) ⟨h1_2, ?_⟩
    show xv l Ω (d + 1) 0 0 121 84 [some (.ref 35), some (.int a1), some (.int a2), some (.int a3)] [] (hM p σ τ) r
    cases q12 : g122 (σ 35 0) a2 a3 σ with
    | none => rw [q12] at H; exact False.elim H
    | some q120 =>
      obtain ⟨v10 | v10, s11⟩ := q120
      · rw [q12] at H; dsimp only at H
        have hc := g122_run (Ω := Ω) htr d p τ (σ 35 0) a2 a3 σ q12
        refine xp_ok htr 5 (d + 1) 0 0 [eC (some (.int v10)) (hM p s11 τ)] 121 84 [some (.ref 35), some (.int a1), some (.int a2), some (.int a3)] [] (hM p σ τ) ⟨hc, ?_⟩
        show xv l Ω (d + 1) 0 0 121 93 [some (.ref 35), some (.int a1), some (.int a2), some (.int a3)] [.int v10] (hM p s11 τ) r
        exact xp_ok htr 1 (d + 1) 0 0 [] 121 93 [some (.ref 35), some (.int a1), some (.int a2), some (.int a3)] [.int v10] (hM p s11 τ) ⟨trivial, (Eq.symm H)⟩
      · rw [q12] at H; exact False.elim H
  rw [if_neg h1_2] at H
  by_cases h1_3 : a1 = 99
  · rw [if_pos h1_3] at H
    refine xp_ok htr 2 (d + 1) 0 0 [eS (some 99)] 121 0 [some (.ref 35), some (.int a1), some (.int a2), some (.int a3)] [] (hM p σ τ) ⟨h1_3, ?_⟩
    show xv l Ω (d + 1) 0 0 121 94 [some (.ref 35), some (.int a1), some (.int a2), some (.int a3)] [] (hM p σ τ) r
    cases q15 : g122 (σ 35 2) a2 a3 σ with
    | none => rw [q15] at H; exact False.elim H
    | some q150 =>
      obtain ⟨v13 | v13, s14⟩ := q150
      · rw [q15] at H; dsimp only at H
        have hc := g122_run (Ω := Ω) htr d p τ (σ 35 2) a2 a3 σ q15
        refine xp_ok htr 5 (d + 1) 0 0 [eC (some (.int v13)) (hM p s14 τ)] 121 94 [some (.ref 35), some (.int a1), some (.int a2), some (.int a3)] [] (hM p σ τ) ⟨hc, ?_⟩
        show xv l Ω (d + 1) 0 0 121 103 [some (.ref 35), some (.int a1), some (.int a2), some (.int a3)] [.int v13] (hM p s14 τ) r
        exact xp_ok htr 1 (d + 1) 0 0 [] 121 103 [some (.ref 35), some (.int a1), some (.int a2), some (.int a3)] [.int v13] (hM p s14 τ) ⟨trivial, (Eq.symm H)⟩
      · rw [q15] at H; exact False.elim H
  rw [if_neg h1_3] at H
  by_cases h1_4 : a1 = 104
  · rw [if_pos h1_4] at H
    refine xp_ok htr 2 (d + 1) 0 0 [eS (some 104)] 121 0 [some (.ref 35), some (.int a1), some (.int a2), some (.int a3)] [] (hM p σ τ) ⟨h1_4, ?_⟩
    show xv l Ω (d + 1) 0 0 121 104 [some (.ref 35), some (.int a1), some (.int a2), some (.int a3)] [] (hM p σ τ) r
    cases q18 : g122 (σ 35 1) a2 a3 σ with
    | none => rw [q18] at H; exact False.elim H
    | some q180 =>
      obtain ⟨v16 | v16, s17⟩ := q180
      · rw [q18] at H; dsimp only at H
        have hc := g122_run (Ω := Ω) htr d p τ (σ 35 1) a2 a3 σ q18
        refine xp_ok htr 5 (d + 1) 0 0 [eC (some (.int v16)) (hM p s17 τ)] 121 104 [some (.ref 35), some (.int a1), some (.int a2), some (.int a3)] [] (hM p σ τ) ⟨hc, ?_⟩
        show xv l Ω (d + 1) 0 0 121 113 [some (.ref 35), some (.int a1), some (.int a2), some (.int a3)] [.int v16] (hM p s17 τ) r
        exact xp_ok htr 1 (d + 1) 0 0 [] 121 113 [some (.ref 35), some (.int a1), some (.int a2), some (.int a3)] [.int v16] (hM p s17 τ) ⟨trivial, (Eq.symm H)⟩
      · rw [q18] at H; exact False.elim H
  rw [if_neg h1_4] at H
  by_cases h1_5 : a1 = 108
  · rw [if_pos h1_5] at H
    refine xp_ok htr 2 (d + 1) 0 0 [eS (some 108)] 121 0 [some (.ref 35), some (.int a1), some (.int a2), some (.int a3)] [] (hM p σ τ) ⟨h1_5, ?_⟩
    show xv l Ω (d + 1) 0 0 121 147 [some (.ref 35), some (.int a1), some (.int a2), some (.int a3)] [] (hM p σ τ) r
    by_cases h19 : (σ 35 4) = 0
    · rw [if_pos h19] at H
      refine xp_ok htr 3 (d + 1) 0 0 [eB true] 121 147 [some (.ref 35), some (.int a1), some (.int a2), some (.int a3)] [] (hM p σ τ) ⟨h19, ?_⟩
      show xv l Ω (d + 1) 0 0 121 166 [some (.ref 35), some (.int a1), some (.int a2), some (.int a3)] [] (hM p σ τ) r
      exact xp_ok htr 2 (d + 1) 0 0 [] 121 166 [some (.ref 35), some (.int a1), some (.int a2), some (.int a3)] [] (hM p σ τ) ⟨trivial, (Eq.symm H)⟩
    · rw [if_neg h19] at H
      refine xp_ok htr 3 (d + 1) 0 0 [eB false] 121 147 [some (.ref 35), some (.int a1), some (.int a2), some (.int a3)] [] (hM p σ τ) ⟨h19, ?_⟩
      show xv l Ω (d + 1) 0 0 121 154 [some (.ref 35), some (.int a1), some (.int a2), some (.int a3)] [] (hM p σ τ) r
      cases q22 : g122 (σ 35 3) a2 a3 σ with
      | none => rw [q22] at H; exact False.elim H
      | some q220 =>
        obtain ⟨v20 | v20, s21⟩ := q220
        · rw [q22] at H; dsimp only at H
          have hc := g122_run (Ω := Ω) htr d p τ (σ 35 3) a2 a3 σ q22
          refine xp_ok htr 5 (d + 1) 0 0 [eC (some (.int v20)) (hM p s21 τ)] 121 154 [some (.ref 35), some (.int a1), some (.int a2), some (.int a3)] [] (hM p σ τ) ⟨hc, ?_⟩
          show xv l Ω (d + 1) 0 0 121 163 [some (.ref 35), some (.int a1), some (.int a2), some (.int a3)] [.int v20] (hM p s21 τ) r
          exact xp_ok htr 2 (d + 1) 0 0 [] 121 163 [some (.ref 35), some (.int a1), some (.int a2), some (.int a3)] [.int v20] (hM p s21 τ) ⟨trivial, (Eq.symm H)⟩
        · rw [q22] at H; exact False.elim H
  rw [if_neg h1_5] at H
  by_cases h1_6 : a1 = 114
  · rw [if_pos h1_6] at H
    refine xp_ok htr 2 (d + 1) 0 0 [eS (some 114)] 121 0 [some (.ref 35), some (.int a1), some (.int a2), some (.int a3)] [] (hM p σ τ) ⟨h1_6, ?_⟩
    show xv l Ω (d + 1) 0 0 121 124 [some (.ref 35), some (.int a1), some (.int a2), some (.int a3)] [] (hM p σ τ) r
    by_cases h23 : 12 ≤ a3
    · rw [if_pos h23] at H
      refine xp_ok htr 3 (d + 1) 0 0 [eB true] 121 124 [some (.ref 35), some (.int a1), some (.int a2), some (.int a3)] [] (hM p σ τ) ⟨h23, ?_⟩
      show xv l Ω (d + 1) 0 0 121 145 [some (.ref 35), some (.int a1), some (.int a2), some (.int a3)] [] (hM p σ τ) r
      exact xp_ok htr 2 (d + 1) 0 0 [] 121 145 [some (.ref 35), some (.int a1), some (.int a2), some (.int a3)] [] (hM p σ τ) ⟨trivial, (Eq.symm H)⟩
    · rw [if_neg h23] at H
      refine xp_ok htr 3 (d + 1) 0 0 [eB false] 121 124 [some (.ref 35), some (.int a1), some (.int a2), some (.int a3)] [] (hM p σ τ) ⟨h23, ?_⟩
      show xv l Ω (d + 1) 0 0 121 130 [some (.ref 35), some (.int a1), some (.int a2), some (.int a3)] [] (hM p σ τ) r
      cases q26 : g28 (σ 35 8) a3 σ with
      | none => rw [q26] at H; exact False.elim H
      | some q260 =>
        obtain ⟨v24 | v24, s25⟩ := q260
        · rw [q26] at H; dsimp only at H
          have hc := g28_run (Ω := Ω) htr d p τ (σ 35 8) a3 σ q26
          refine xp_ok htr 4 (d + 1) 0 0 [eC (some (.int v24)) (hM p s25 τ)] 121 130 [some (.ref 35), some (.int a1), some (.int a2), some (.int a3)] [] (hM p σ τ) ⟨hc, ?_⟩
          show xv l Ω (d + 1) 0 0 121 138 [some (.ref 35), some (.int a1), some (.int a2), some (.int a3)] [.int v24] (hM p s25 τ) r
          by_cases h27 : v24 = 0
          · rw [if_pos h27] at H
            refine xp_ok htr 1 (d + 1) 0 0 [eB true] 121 138 [some (.ref 35), some (.int a1), some (.int a2), some (.int a3)] [.int v24] (hM p s25 τ) ⟨h27, ?_⟩
            show xv l Ω (d + 1) 0 0 121 145 [some (.ref 35), some (.int a1), some (.int a2), some (.int a3)] [] (hM p s25 τ) r
            exact xp_ok htr 2 (d + 1) 0 0 [] 121 145 [some (.ref 35), some (.int a1), some (.int a2), some (.int a3)] [] (hM p s25 τ) ⟨trivial, (Eq.symm H)⟩
          · rw [if_neg h27] at H
            refine xp_ok htr 1 (d + 1) 0 0 [eB false] 121 138 [some (.ref 35), some (.int a1), some (.int a2), some (.int a3)] [.int v24] (hM p s25 τ) ⟨h27, ?_⟩
            show xv l Ω (d + 1) 0 0 121 141 [some (.ref 35), some (.int a1), some (.int a2), some (.int a3)] [] (hM p s25 τ) r
            exact xp_ok htr 3 (d + 1) 0 0 [] 121 141 [some (.ref 35), some (.int a1), some (.int a2), some (.int a3)] [] (hM p s25 τ) ⟨trivial, (Eq.symm H)⟩
        · rw [q26] at H; exact False.elim H
  rw [if_neg h1_6] at H
  by_cases h1_7 : a1 = 115
  · rw [if_pos h1_7] at H
    refine xp_ok htr 2 (d + 1) 0 0 [eS (some 115)] 121 0 [some (.ref 35), some (.int a1), some (.int a2), some (.int a3)] [] (hM p σ τ) ⟨h1_7, ?_⟩
    show xv l Ω (d + 1) 0 0 121 189 [some (.ref 35), some (.int a1), some (.int a2), some (.int a3)] [] (hM p σ τ) r
    by_cases h28 : (σ 35 7) = 0
    · rw [if_pos h28] at H
      refine xp_ok htr 3 (d + 1) 0 0 [eB true] 121 189 [some (.ref 35), some (.int a1), some (.int a2), some (.int a3)] [] (hM p σ τ) ⟨h28, ?_⟩
      show xv l Ω (d + 1) 0 0 121 208 [some (.ref 35), some (.int a1), some (.int a2), some (.int a3)] [] (hM p σ τ) r
      exact xp_ok htr 2 (d + 1) 0 0 [] 121 208 [some (.ref 35), some (.int a1), some (.int a2), some (.int a3)] [] (hM p σ τ) ⟨trivial, (Eq.symm H)⟩
    · rw [if_neg h28] at H
      refine xp_ok htr 3 (d + 1) 0 0 [eB false] 121 189 [some (.ref 35), some (.int a1), some (.int a2), some (.int a3)] [] (hM p σ τ) ⟨h28, ?_⟩
      show xv l Ω (d + 1) 0 0 121 196 [some (.ref 35), some (.int a1), some (.int a2), some (.int a3)] [] (hM p σ τ) r
      cases q31 : g122 (σ 35 6) a2 a3 σ with
      | none => rw [q31] at H; exact False.elim H
      | some q310 =>
        obtain ⟨v29 | v29, s30⟩ := q310
        · rw [q31] at H; dsimp only at H
          have hc := g122_run (Ω := Ω) htr d p τ (σ 35 6) a2 a3 σ q31
          refine xp_ok htr 5 (d + 1) 0 0 [eC (some (.int v29)) (hM p s30 τ)] 121 196 [some (.ref 35), some (.int a1), some (.int a2), some (.int a3)] [] (hM p σ τ) ⟨hc, ?_⟩
          show xv l Ω (d + 1) 0 0 121 205 [some (.ref 35), some (.int a1), some (.int a2), some (.int a3)] [.int v29] (hM p s30 τ) r
          exact xp_ok htr 2 (d + 1) 0 0 [] 121 205 [some (.ref 35), some (.int a1), some (.int a2), some (.int a3)] [.int v29] (hM p s30 τ) ⟨trivial, (Eq.symm H)⟩
        · rw [q31] at H; exact False.elim H
  rw [if_neg h1_7] at H
  by_cases h1_8 : a1 = 117
  · rw [if_pos h1_8] at H
    refine xp_ok htr 2 (d + 1) 0 0 [eS (some 117)] 121 0 [some (.ref 35), some (.int a1), some (.int a2), some (.int a3)] [] (hM p σ τ) ⟨h1_8, ?_⟩
    show xv l Ω (d + 1) 0 0 121 114 [some (.ref 35), some (.int a1), some (.int a2), some (.int a3)] [] (hM p σ τ) r
    cases q34 : g122 (σ 35 5) a2 a3 σ with
    | none => rw [q34] at H; exact False.elim H
    | some q340 =>
      obtain ⟨v32 | v32, s33⟩ := q340
      · rw [q34] at H; dsimp only at H
        have hc := g122_run (Ω := Ω) htr d p τ (σ 35 5) a2 a3 σ q34
        refine xp_ok htr 5 (d + 1) 0 0 [eC (some (.int v32)) (hM p s33 τ)] 121 114 [some (.ref 35), some (.int a1), some (.int a2), some (.int a3)] [] (hM p σ τ) ⟨hc, ?_⟩
        show xv l Ω (d + 1) 0 0 121 123 [some (.ref 35), some (.int a1), some (.int a2), some (.int a3)] [.int v32] (hM p s33 τ) r
        exact xp_ok htr 1 (d + 1) 0 0 [] 121 123 [some (.ref 35), some (.int a1), some (.int a2), some (.int a3)] [.int v32] (hM p s33 τ) ⟨trivial, (Eq.symm H)⟩
      · rw [q34] at H; exact False.elim H
  rw [if_neg h1_8] at H
  refine xp_ok htr 2 (d + 1) 0 0 [eS none] 121 0 [some (.ref 35), some (.int a1), some (.int a2), some (.int a3)] [] (hM p σ τ) ⟨⟨h1_0, h1_1, h1_2, h1_3, h1_4, h1_5, h1_6, h1_7, h1_8, trivial⟩, ?_⟩
  show xv l Ω (d + 1) 0 0 121 231 [some (.ref 35), some (.int a1), some (.int a2), some (.int a3)] [] (hM p σ τ) r
  exact xp_ok htr 2 (d + 1) 0 0 [] 121 231 [some (.ref 35), some (.int a1), some (.int a2), some (.int a3)] [] (hM p σ τ) ⟨trivial, (Eq.symm H)⟩
/- AccessDesk$Judge.matchAt -/
def g120 (p : Nat) (a1 : Int32) (σ : xS) : xO := (bif xn a1 300 then (match g121 (σ ((59 - p) + 8) (Int32.toNatClampNeg a1)) (σ ((59 - p) + 9) (Int32.toNatClampNeg a1)) (σ ((59 - p) + 10) (Int32.toNatClampNeg a1)) σ with | some (Sum.inl v2, s3) => some ((Sum.inl v2, s3)) | some (Sum.inr v2, s3) => none | none => none) else none)
theorem g120_run_23 {l : Launch} {Ω : xo_O} (htr : xH l) (d : Nat) (τ : Nat → Nat → Int64) (a1 : Int32) (σ : xS) {q : xQ} (hq : g120 23 a1 σ = some q) : xv l Ω (d + 2) 0 0 120 0 (xs_loc (xm_l 120) [.ref 34, .int a1]) [] (hM 23 σ τ) (xq_R false 23 τ q) := by
  have H : xo (xB false 23 τ (xq_R false 23 τ q)) (g120 23 a1 σ) := by rw [hq]; exact rfl
  generalize xq_R false 23 τ q = r at H ⊢
  show xv l Ω (d + 2) 0 0 120 0 [some (.ref 34), some (.int a1)] [] (hM 23 σ τ) r
  unfold g120 at H
  cases g1 : xn a1 300 with
  | false => rw [g1, cond_false] at H; exact False.elim H
  | true =>
    rw [g1, cond_true] at H
    refine xp_ok htr 8 (d + 2) 0 0 [] 120 0 [some (.ref 34), some (.int a1)] [] (hM 23 σ τ) ⟨(xn_in g1), ?_⟩
    show xv l Ω (d + 2) 0 0 120 14 [some (.ref 34), some (.int a1)] [.ref 34, .int (σ ((59 - 23) + 8) (Int32.toNatClampNeg a1)), .ref 35] (hM 23 σ τ) r
    refine xp_ok htr 8 (d + 2) 0 0 [] 120 14 [some (.ref 34), some (.int a1)] [.ref 34, .int (σ ((59 - 23) + 8) (Int32.toNatClampNeg a1)), .ref 35] (hM 23 σ τ) ⟨(xn_in g1), ?_⟩
    show xv l Ω (d + 2) 0 0 120 30 [some (.ref 34), some (.int a1)] [.int a1, .ref ((59 - 23) + 10), .int (σ ((59 - 23) + 9) (Int32.toNatClampNeg a1)), .int (σ ((59 - 23) + 8) (Int32.toNatClampNeg a1)), .ref 35] (hM 23 σ τ) r
    cases q4 : g121 (σ ((59 - 23) + 8) (Int32.toNatClampNeg a1)) (σ ((59 - 23) + 9) (Int32.toNatClampNeg a1)) (σ ((59 - 23) + 10) (Int32.toNatClampNeg a1)) σ with
    | none => rw [q4] at H; exact False.elim H
    | some q40 =>
      obtain ⟨v2 | v2, s3⟩ := q40
      · rw [q4] at H; dsimp only at H
        have hc := g121_run (Ω := Ω) htr d 23 τ (σ ((59 - 23) + 8) (Int32.toNatClampNeg a1)) (σ ((59 - 23) + 9) (Int32.toNatClampNeg a1)) (σ ((59 - 23) + 10) (Int32.toNatClampNeg a1)) σ q4
        refine xp_ok htr 2 (d + 2) 0 0 [eC (some (.int v2)) (hM 23 s3 τ)] 120 30 [some (.ref 34), some (.int a1)] [.int a1, .ref ((59 - 23) + 10), .int (σ ((59 - 23) + 9) (Int32.toNatClampNeg a1)), .int (σ ((59 - 23) + 8) (Int32.toNatClampNeg a1)), .ref 35] (hM 23 σ τ) ⟨(xn_in g1), hc, ?_⟩
        show xv l Ω (d + 2) 0 0 120 34 [some (.ref 34), some (.int a1)] [.int v2] (hM 23 s3 τ) r
        exact xp_ok htr 1 (d + 2) 0 0 [] 120 34 [some (.ref 34), some (.int a1)] [.int v2] (hM 23 s3 τ) ⟨trivial, (Eq.symm H)⟩
      · rw [q4] at H; exact False.elim H
theorem g120_run_36 {l : Launch} {Ω : xo_O} (htr : xH l) (d : Nat) (τ : Nat → Nat → Int64) (a1 : Int32) (σ : xS) {q : xQ} (hq : g120 36 a1 σ = some q) : xv l Ω (d + 2) 0 0 120 0 (xs_loc (xm_l 120) [.ref 34, .int a1]) [] (hM 36 σ τ) (xq_R false 36 τ q) := by
  have H : xo (xB false 36 τ (xq_R false 36 τ q)) (g120 36 a1 σ) := by rw [hq]; exact rfl
  generalize xq_R false 36 τ q = r at H ⊢
  show xv l Ω (d + 2) 0 0 120 0 [some (.ref 34), some (.int a1)] [] (hM 36 σ τ) r
  unfold g120 at H
  cases g1 : xn a1 300 with
  | false => rw [g1, cond_false] at H; exact False.elim H
  | true =>
    rw [g1, cond_true] at H
    refine xp_ok htr 8 (d + 2) 0 0 [] 120 0 [some (.ref 34), some (.int a1)] [] (hM 36 σ τ) ⟨(xn_in g1), ?_⟩
    show xv l Ω (d + 2) 0 0 120 14 [some (.ref 34), some (.int a1)] [.ref 34, .int (σ ((59 - 36) + 8) (Int32.toNatClampNeg a1)), .ref 35] (hM 36 σ τ) r
    refine xp_ok htr 8 (d + 2) 0 0 [] 120 14 [some (.ref 34), some (.int a1)] [.ref 34, .int (σ ((59 - 36) + 8) (Int32.toNatClampNeg a1)), .ref 35] (hM 36 σ τ) ⟨(xn_in g1), ?_⟩
    show xv l Ω (d + 2) 0 0 120 30 [some (.ref 34), some (.int a1)] [.int a1, .ref ((59 - 36) + 10), .int (σ ((59 - 36) + 9) (Int32.toNatClampNeg a1)), .int (σ ((59 - 36) + 8) (Int32.toNatClampNeg a1)), .ref 35] (hM 36 σ τ) r
    cases q4 : g121 (σ ((59 - 36) + 8) (Int32.toNatClampNeg a1)) (σ ((59 - 36) + 9) (Int32.toNatClampNeg a1)) (σ ((59 - 36) + 10) (Int32.toNatClampNeg a1)) σ with
    | none => rw [q4] at H; exact False.elim H
    | some q40 =>
      obtain ⟨v2 | v2, s3⟩ := q40
      · rw [q4] at H; dsimp only at H
        have hc := g121_run (Ω := Ω) htr d 36 τ (σ ((59 - 36) + 8) (Int32.toNatClampNeg a1)) (σ ((59 - 36) + 9) (Int32.toNatClampNeg a1)) (σ ((59 - 36) + 10) (Int32.toNatClampNeg a1)) σ q4
        refine xp_ok htr 2 (d + 2) 0 0 [eC (some (.int v2)) (hM 36 s3 τ)] 120 30 [some (.ref 34), some (.int a1)] [.int a1, .ref ((59 - 36) + 10), .int (σ ((59 - 36) + 9) (Int32.toNatClampNeg a1)), .int (σ ((59 - 36) + 8) (Int32.toNatClampNeg a1)), .ref 35] (hM 36 σ τ) ⟨(xn_in g1), hc, ?_⟩
        show xv l Ω (d + 2) 0 0 120 34 [some (.ref 34), some (.int a1)] [.int v2] (hM 36 s3 τ) r
        exact xp_ok htr 1 (d + 2) 0 0 [] 120 34 [some (.ref 34), some (.int a1)] [.int v2] (hM 36 s3 τ) ⟨trivial, (Eq.symm H)⟩
      · rw [q4] at H; exact False.elim H
