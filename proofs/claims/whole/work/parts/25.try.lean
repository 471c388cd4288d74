/- java/lang/Math.max -/
def g17 (a0 : Int32) (a1 : Int32) (σ : xS) : xO := (if a0 < a1 then some ((Sum.inl a1, σ)) else some ((Sum.inl a0, σ)))
theorem g17_run {l : Launch} {Ω : xo_O} (htr : xH l) (d : Nat) (p : Nat) (τ : Nat → Nat → Int64) (a0 : Int32) (a1 : Int32) (σ : xS) {q : xQ} (hq : g17 a0 a1 σ = some q) : xv l Ω d 0 0 17 0 (xs_loc (xm_l 17) [.int a0, .int a1]) [] (hM p σ τ) (xq_R false p τ q) := by
  have H : xo (xB false p τ (xq_R false p τ q)) (g17 a0 a1 σ) := by rw [hq]; exact rfl
  generalize xq_R false p τ q = r at H ⊢
  show xv l Ω d 0 0 17 0 [some (.int a0), some (.int a1)] [] (hM p σ τ) r
  unfold g17 at H
  by_cases h1 : a0 < a1
  · rw [if_pos h1] at H
    refine xp_ok htr 3 d 0 0 [eB true] 17 0 [some (.int a0), some (.int a1)] [] (hM p σ τ) ⟨h1, ?_⟩
    show xv l Ω d 0 0 17 9 [some (.int a0), some (.int a1)] [] (hM p σ τ) r
    exact xp_ok htr 2 d 0 0 [] 17 9 [some (.int a0), some (.int a1)] [] (hM p σ τ) ⟨trivial, (Eq.symm H)⟩
  · rw [if_neg h1] at H
    refine xp_ok htr 3 d 0 0 [eB false] 17 0 [some (.int a0), some (.int a1)] [] (hM p σ τ) ⟨h1, ?_⟩
    show xv l Ω d 0 0 17 5 [some (.int a0), some (.int a1)] [] (hM p σ τ) r
    exact xp_ok htr 3 d 0 0 [] 17 5 [some (.int a0), some (.int a1)] [] (hM p σ τ) ⟨trivial, (Eq.symm H)⟩
/- AccessDesk$Book.firstKept -/
def g16  (σ : xS) : xO := (match g17 0 ((σ 51 1) - 40) σ with | some (Sum.inl v1, s2) => some ((Sum.inl v1, s2)) | some (Sum.inr v1, s2) => none | none => none)
theorem g16_run {l : Launch} {Ω : xo_O} (htr : xH l) (d : Nat) (p : Nat) (τ : Nat → Nat → Int64)  (σ : xS) {q : xQ} (hq : g16  σ = some q) : xv l Ω (d + 1) 0 0 16 0 (xs_loc (xm_l 16) [.ref 51]) [] (hM p σ τ) (xq_R false p τ q) := by
  have H : xo (xB false p τ (xq_R false p τ q)) (g16  σ) := by rw [hq]; exact rfl
  generalize xq_R false p τ q = r at H ⊢
  show xv l Ω (d + 1) 0 0 16 0 [some (.ref 51)] [] (hM p σ τ) r
  unfold g16 at H
  cases q3 : g17 0 ((σ 51 1) - 40) σ with
  | none => rw [q3] at H; exact False.elim H
  | some q30 =>
    obtain ⟨v1 | v1, s2⟩ := q30
    · rw [q3] at H; dsimp only at H
      have hc := g17_run (Ω := Ω) htr d p τ 0 ((σ 51 1) - 40) σ q3
      refine xp_ok htr 6 (d + 1) 0 0 [eC (some (.int v1)) (hM p s2 τ)] 16 0 [some (.ref 51)] [] (hM p σ τ) ⟨hc, ?_⟩
      show xv l Ω (d + 1) 0 0 16 11 [some (.ref 51)] [.int v1] (hM p s2 τ) r
      exact xp_ok htr 1 (d + 1) 0 0 [] 16 11 [some (.ref 51)] [.int v1] (hM p s2 τ) ⟨trivial, (Eq.symm H)⟩
    · rw [q3] at H; exact False.elim H
/- AccessDesk.isBelow -/
def g25 (a0 : Int32) (a1 : Int32) (σ : xS) : xO := (if a0 < 0 then some ((Sum.inl 0, σ)) else (if a1 ≤ a0 then some ((Sum.inl 0, σ)) else some ((Sum.inl 1, σ))))
theorem g25_run {l : Launch} {Ω : xo_O} (htr : xH l) (d : Nat) (p : Nat) (τ : Nat → Nat → Int64) (a0 : Int32) (a1 : Int32) (σ : xS) {q : xQ} (hq : g25 a0 a1 σ = some q) : xv l Ω d 0 0 25 0 (xs_loc (xm_l 25) [.int a0, .int a1]) [] (hM p σ τ) (xq_R false p τ q) := by
  have H : xo (xB false p τ (xq_R false p τ q)) (g25 a0 a1 σ) := by rw [hq]; exact rfl
  generalize xq_R false p τ q = r at H ⊢
  show xv l Ω d 0 0 25 0 [some (.int a0), some (.int a1)] [] (hM p σ τ) r
  unfold g25 at H
  by_cases h1 : a0 < 0
  · rw [if_pos h1] at H
    refine xp_ok htr 2 d 0 0 [eB true] 25 0 [some (.int a0), some (.int a1)] [] (hM p σ τ) ⟨h1, ?_⟩
    show xv l Ω d 0 0 25 13 [some (.int a0), some (.int a1)] [] (hM p σ τ) r
    exact xp_ok htr 2 d 0 0 [] 25 13 [some (.int a0), some (.int a1)] [] (hM p σ τ) ⟨Or.inl rfl, (Eq.symm H)⟩
  · rw [if_neg h1] at H
    refine xp_ok htr 2 d 0 0 [eB false] 25 0 [some (.int a0), some (.int a1)] [] (hM p σ τ) ⟨h1, ?_⟩
    show xv l Ω d 0 0 25 4 [some (.int a0), some (.int a1)] [] (hM p σ τ) r
    by_cases h2 : a1 ≤ a0
    · rw [if_pos h2] at H
      refine xp_ok htr 3 d 0 0 [eB true] 25 4 [some (.int a0), some (.int a1)] [] (hM p σ τ) ⟨h2, ?_⟩
      show xv l Ω d 0 0 25 13 [some (.int a0), some (.int a1)] [] (hM p σ τ) r
      exact xp_ok htr 2 d 0 0 [] 25 13 [some (.int a0), some (.int a1)] [] (hM p σ τ) ⟨Or.inl rfl, (Eq.symm H)⟩
    · rw [if_neg h2] at H
      refine xp_ok htr 3 d 0 0 [eB false] 25 4 [some (.int a0), some (.int a1)] [] (hM p σ τ) ⟨h2, ?_⟩
      show xv l Ω d 0 0 25 9 [some (.int a0), some (.int a1)] [] (hM p σ τ) r
      exact xp_ok htr 3 d 0 0 [] 25 9 [some (.int a0), some (.int a1)] [] (hM p σ τ) ⟨Or.inr rfl, (Eq.symm H)⟩
/- AccessDesk.isRole -/
def g24 (a0 : Int32) (σ : xS) : xO := (match g25 a0 12 σ with | some (Sum.inl v1, s2) => (bif decide (v1 = 0 ∨ v1 = 1) then some ((Sum.inl v1, s2)) else none) | some (Sum.inr v1, s2) => none | none => none)
theorem g24_run {l : Launch} {Ω : xo_O} (htr : xH l) (d : Nat) (p : Nat) (τ : Nat → Nat → Int64) (a0 : Int32) (σ : xS) {q : xQ} (hq : g24 a0 σ = some q) : xv l Ω (d + 1) 0 0 24 0 (xs_loc (xm_l 24) [.int a0]) [] (hM p σ τ) (xq_R false p τ q) := by
  have H : xo (xB false p τ (xq_R false p τ q)) (g24 a0 σ) := by rw [hq]; exact rfl
  generalize xq_R false p τ q = r at H ⊢
  show xv l Ω (d + 1) 0 0 24 0 [some (.int a0)] [] (hM p σ τ) r
  unfold g24 at H
  cases q3 : g25 a0 12 σ with
  | none => rw [q3] at H; exact False.elim H
  | some q30 =>
    obtain ⟨v1 | v1, s2⟩ := q30
    · rw [q3] at H; dsimp only at H
      have hc := g25_run (Ω := Ω) htr d p τ a0 12 σ q3
      refine xp_ok htr 3 (d + 1) 0 0 [eC (some (.int v1)) (hM p s2 τ)] 24 0 [some (.int a0)] [] (hM p σ τ) ⟨hc, ?_⟩
      show xv l Ω (d + 1) 0 0 24 6 [some (.int a0)] [.int v1] (hM p s2 τ) r
      cases g4 : decide (v1 = 0 ∨ v1 = 1) with
      | false => rw [g4, cond_false] at H; exact False.elim H
      | true =>
        rw [g4, cond_true] at H
        exact xp_ok htr 1 (d + 1) 0 0 [] 24 6 [some (.int a0)] [.int v1] (hM p s2 τ) ⟨(of_decide_eq_true g4), (Eq.symm H)⟩
    · rw [q3] at H; exact False.elim H
/- AccessDesk.demandArgument -/
def g26 (a0 : Int32) (σ : xS) : xO := (if a0 = 0 then some ((Sum.inr 0, σ)) else some ((Sum.inl 0, σ)))
theorem g26_run {l : Launch} {Ω : xo_O} (htr : xH l) (d : Nat) (p : Nat) (τ : Nat → Nat → Int64) (a0 : Int32) (σ : xS) {q : xQ} (hq : g26 a0 σ = some q) : xv l Ω (d + 6) 1 6 26 0 (xs_loc (xm_l 26) [.int a0]) [] (hM p σ τ) (xq_R true p τ q) := by
  have H : xo (xB true p τ (xq_R true p τ q)) (g26 a0 σ) := by rw [hq]; exact rfl
  generalize xq_R true p τ q = r at H ⊢
  show xv l Ω (d + 6) 1 6 26 0 [some (.int a0)] [] (hM p σ τ) r
  unfold g26 at H
  by_cases h1 : a0 = 0
  · rw [if_pos h1] at H
    refine xp_ok htr 2 (d + 6) 1 6 [eB false] 26 0 [some (.int a0)] [] (hM p σ τ) ⟨h1, ?_⟩
    show xv l Ω (d + 6) 1 6 26 4 [some (.int a0)] [] (hM p σ τ) r
    exact xp_ok htr 1 (d + 6) 1 6 [] 26 4 [some (.int a0)] [] (hM p σ τ) (Eq.symm H)
  · rw [if_neg h1] at H
    refine xp_ok htr 2 (d + 6) 1 6 [eB true] 26 0 [some (.int a0)] [] (hM p σ τ) ⟨h1, ?_⟩
    show xv l Ω (d + 6) 1 6 26 12 [some (.int a0)] [] (hM p σ τ) r
    exact xp_ok htr 1 (d + 6) 1 6 [] 26 12 [some (.int a0)] [] (hM p σ τ) ⟨trivial, (Eq.symm H)⟩
/- AccessDesk.has -/
def g28 (a0 : Int32) (a1 : Int32) (σ : xS) : xO := (if ((a0 >>> (a1 &&& 31)) &&& 1) = 1 then some ((Sum.inl 1, σ)) else some ((Sum.inl 0, σ)))
theorem g28_run {l : Launch} {Ω : xo_O} (htr : xH l) (d : Nat) (p : Nat) (τ : Nat → Nat → Int64) (a0 : Int32) (a1 : Int32) (σ : xS) {q : xQ} (hq : g28 a0 a1 σ = some q) : xv l Ω d 0 0 28 0 (xs_loc (xm_l 28) [.int a0, .int a1]) [] (hM p σ τ) (xq_R false p τ q) := by
  have H : xo (xB false p τ (xq_R false p τ q)) (g28 a0 a1 σ) := by rw [hq]; exact rfl
  generalize xq_R false p τ q = r at H ⊢
  show xv l Ω d 0 0 28 0 [some (.int a0), some (.int a1)] [] (hM p σ τ) r
  unfold g28 at H
  by_cases h1 : ((a0 >>> (a1 &&& 31)) &&& 1) = 1
  · rw [if_pos h1] at H
    refine xp_ok htr 7 d 0 0 [eB false] 28 0 [some (.int a0), some (.int a1)] [] (hM p σ τ) ⟨h1, ?_⟩
    show xv l Ω d 0 0 28 9 [some (.int a0), some (.int a1)] [] (hM p σ τ) r
    exact xp_ok htr 3 d 0 0 [] 28 9 [some (.int a0), some (.int a1)] [] (hM p σ τ) ⟨Or.inr rfl, (Eq.symm H)⟩
  · rw [if_neg h1] at H
    refine xp_ok htr 7 d 0 0 [eB true] 28 0 [some (.int a0), some (.int a1)] [] (hM p σ τ) ⟨h1, ?_⟩
    show xv l Ω d 0 0 28 13 [some (.int a0), some (.int a1)] [] (hM p σ τ) r
    exact xp_ok htr 2 d 0 0 [] 28 13 [some (.int a0), some (.int a1)] [] (hM p σ τ) ⟨Or.inl rfl, (Eq.symm H)⟩
/- AccessDesk$Hierarchy.isJoined -/
def g27 (a1 : Int32) (a2 : Int32) (σ : xS) : xO := (bif xn a1 12 then (match g28 (σ 2 (Int32.toNatClampNeg a1)) a2 σ with | some (Sum.inl v2, s3) => (bif decide (v2 = 0 ∨ v2 = 1) then some ((Sum.inl v2, s3)) else none) | some (Sum.inr v2, s3) => none | none => none) else none)
theorem g27_run {l : Launch} {Ω : xo_O} (htr : xH l) (d : Nat) (p : Nat) (τ : Nat → Nat → Int64) (a1 : Int32) (a2 : Int32) (σ : xS) {q : xQ} (hq : g27 a1 a2 σ = some q) : xv l Ω (d + 1) 0 0 27 0 (xs_loc (xm_l 27) [.ref 1, .int a1, .int a2]) [] (hM p σ τ) (xq_R false p τ q) := by
  have H : xo (xB false p τ (xq_R false p τ q)) (g27 a1 a2 σ) := by rw [hq]; exact rfl
  generalize xq_R false p τ q = r at H ⊢
  show xv l Ω (d + 1) 0 0 27 0 [some (.ref 1), some (.int a1), some (.int a2)] [] (hM p σ τ) r
  unfold g27 at H
  cases g1 : xn a1 12 with
  | false => rw [g1, cond_false] at H; exact False.elim H
  | true =>
    rw [g1, cond_true] at H
    cases q4 : g28 (σ 2 (Int32.toNatClampNeg a1)) a2 σ with
    | none => rw [q4] at H; exact False.elim H
    | some q40 =>
      obtain ⟨v2 | v2, s3⟩ := q40
      · rw [q4] at H; dsimp only at H
        have hc := g28_run (Ω := Ω) htr d p τ (σ 2 (Int32.toNatClampNeg a1)) a2 σ q4
        refine xp_ok htr 6 (d + 1) 0 0 [eC (some (.int v2)) (hM p s3 τ)] 27 0 [some (.ref 1), some (.int a1), some (.int a2)] [] (hM p σ τ) ⟨(xn_in g1), hc, ?_⟩
        show xv l Ω (d + 1) 0 0 27 10 [some (.ref 1), some (.int a1), some (.int a2)] [.int v2] (hM p s3 τ) r
        cases g5 : decide (v2 = 0 ∨ v2 = 1) with
        | false => rw [g5, cond_false] at H; exact False.elim H
        | true =>
          rw [g5, cond_true] at H
          exact xp_ok htr 1 (d + 1) 0 0 [] 27 10 [some (.ref 1), some (.int a1), some (.int a2)] [.int v2] (hM p s3 τ) ⟨(of_decide_eq_true g5), (Eq.symm H)⟩
      · rw [q4] at H; exact False.elim H
/- AccessDesk$Hierarchy.withJuniors -/
def g30_43 (x2 : Int32) (x3 : Int32) (x4 : Int32) (x5 : Int32) (σ : xS) : Option ((Int32 × Int32 × Int32 × Int32 × xS) ⊕ ((Int32 × Int32 × xS) ⊕ xQ)) := some (Sum.inl (x2, x3, x4, (x5 + 1), σ))
def g30_16b (x2 : Int32) (x3 : Int32) (x4 : Int32) (x5 : Int32) (σ : xS) : Option ((Int32 × Int32 × Int32 × Int32 × xS) ⊕ ((Int32 × Int32 × xS) ⊕ xQ)) := (if 12 ≤ x5 then (if x2 = x4 then some (Sum.inr (Sum.inr ((Sum.inl x2, σ)))) else some (Sum.inr (Sum.inl (x2, (x3 + 1), σ)))) else (match g28 x4 x5 σ with | some (Sum.inl v4, s5) => (if v4 = 0 then g30_43 x2 x3 x4 x5 s5 else (bif xn x5 12 then g30_43 (x2 ||| (s5 2 (Int32.toNatClampNeg x5))) x3 x4 x5 s5 else none)) | some (Sum.inr v4, s5) => none | none => none))
def g30_16 (x2 : Int32) (x3 : Int32) (x4 : Int32) (x5 : Int32) (σ : xS) : Option ((Int32 × Int32 × xS) ⊕ xQ) := xlo (fun a : Int32 × Int32 × Int32 × Int32 × xS => g30_16b a.1 a.2.1 a.2.2.1 a.2.2.2.1 a.2.2.2.2) 1000 (x2, x3, x4, x5, σ)
def g30_4b (x2 : Int32) (x3 : Int32) (σ : xS) : Option ((Int32 × Int32 × xS) ⊕ xQ) := (if 12 ≤ x3 then some (Sum.inr ((Sum.inl x2, σ))) else g30_16 x2 x3 x2 0 σ)
def g30_4 (x2 : Int32) (x3 : Int32) (σ : xS) : Option xQ := xlo (fun a : Int32 × Int32 × xS => g30_4b a.1 a.2.1 a.2.2) 1000 (x2, x3, σ)
def g30 (a1 : Int32) (σ : xS) : xO := g30_4 a1 1 σ
def a30_16 (l : Launch) (Ω : xo_O) (d p : Nat) (τ : Nat → Nat → Int64) (r : xv_R) : Int32 × Int32 × Int32 × Int32 × xS → Prop := fun a => xv l Ω (d + 1) 0 0 30 16 [some (.ref 1), none, some (.int a.1), some (.int a.2.1), some (.int a.2.2.1), some (.int a.2.2.2.1)] [] (hM p a.2.2.2.2 τ) r
def a30_4 (l : Launch) (Ω : xo_O) (d p : Nat) (τ : Nat → Nat → Int64) (r : xv_R) : Int32 × Int32 × xS → Prop := fun a => xv l Ω (d + 1) 0 0 30 4 [some (.ref 1), none, some (.int a.1), some (.int a.2.1), none, none] [] (hM p a.2.2 τ) r
theorem g30_43_ok {l : Launch} {Ω : xo_O} (htr : xH l) (d : Nat) (p : Nat) (τ : Nat → Nat → Int64) (x2 : Int32) (x3 : Int32) (x4 : Int32) (x5 : Int32) (σ : xS) (r : xv_R) (H : xo (xd (a30_16 l Ω d p τ r) (xd (a30_4 l Ω d p τ r) (xB false p τ r))) (g30_43 x2 x3 x4 x5 σ)) : xv l Ω (d + 1) 0 0 30 43 [some (.ref 1), none, some (.int x2), some (.int x3), some (.int x4), some (.int x5)] [] (hM p σ τ) r := by
  unfold g30_43 at H
  refine xp_ok htr 2 (d + 1) 0 0 [] 30 43 [some (.ref 1), none, some (.int x2), some (.int x3), some (.int x4), some (.int x5)] [] (hM p σ τ) ?_
  exact xv_sub (L' := [some (.ref 1), none, some (.int x2), some (.int x3), some (.int x4), some (.int (x5 + 1))]) ⟨rfl, ⟨rfl, ⟨rfl, ⟨rfl, ⟨rfl, trivial⟩⟩⟩⟩⟩ H
theorem g30_16b_ok {l : Launch} {Ω : xo_O} (htr : xH l) (d : Nat) (p : Nat) (τ : Nat → Nat → Int64) (x2 : Int32) (x3 : Int32) (x4 : Int32) (x5 : Int32) (σ : xS) (r : xv_R) (H : xo (xd (a30_16 l Ω d p τ r) (xd (a30_4 l Ω d p τ r) (xB false p τ r))) (g30_16b x2 x3 x4 x5 σ)) : xv l Ω (d + 1) 0 0 30 16 [some (.ref 1), none, some (.int x2), some (.int x3), some (.int x4), some (.int x5)] [] (hM p σ τ) r := by
  unfold g30_16b at H
  by_cases h2 : 12 ≤ x5
  · rw [if_pos h2] at H
    refine xp_ok htr 3 (d + 1) 0 0 [eB true] 30 16 [some (.ref 1), none, some (.int x2), some (.int x3), some (.int x4), some (.int x5)] [] (hM p σ τ) ⟨h2, ?_⟩
    show xv l Ω (d + 1) 0 0 30 49 [some (.ref 1), none, some (.int x2), some (.int x3), some (.int x4), some (.int x5)] [] (hM p σ τ) r
    by_cases h3 : x2 = x4
    · rw [if_pos h3] at H
      refine xp_ok htr 3 (d + 1) 0 0 [eB false] 30 49 [some (.ref 1), none, some (.int x2), some (.int x3), some (.int x4), some (.int x5)] [] (hM p σ τ) ⟨h3, ?_⟩
      show xv l Ω (d + 1) 0 0 30 55 [some (.ref 1), none, some (.int x2), some (.int x3), some (.int x4), some (.int x5)] [] (hM p σ τ) r
      exact xp_ok htr 3 (d + 1) 0 0 [] 30 55 [some (.ref 1), none, some (.int x2), some (.int x3), some (.int x4), some (.int x5)] [] (hM p σ τ) ⟨trivial, (Eq.symm H)⟩
    · rw [if_neg h3] at H
      refine xp_ok htr 3 (d + 1) 0 0 [eB true] 30 49 [some (.ref 1), none, some (.int x2), some (.int x3), some (.int x4), some (.int x5)] [] (hM p σ τ) ⟨h3, ?_⟩
      show xv l Ω (d + 1) 0 0 30 58 [some (.ref 1), none, some (.int x2), some (.int x3), some (.int x4), some (.int x5)] [] (hM p σ τ) r
      refine xp_ok htr 2 (d + 1) 0 0 [] 30 58 [some (.ref 1), none, some (.int x2), some (.int x3), some (.int x4), some (.int x5)] [] (hM p σ τ) ?_
      exact xv_sub (L' := [some (.ref 1), none, some (.int x2), some (.int (x3 + 1)), none, none]) ⟨rfl, ⟨rfl, ⟨rfl, trivial⟩⟩⟩ H
  · rw [if_neg h2] at H
    refine xp_ok htr 3 (d + 1) 0 0 [eB false] 30 16 [some (.ref 1), none, some (.int x2), some (.int x3), some (.int x4), some (.int x5)] [] (hM p σ τ) ⟨h2, ?_⟩
    show xv l Ω (d + 1) 0 0 30 23 [some (.ref 1), none, some (.int x2), some (.int x3), some (.int x4), some (.int x5)] [] (hM p σ τ) r
    cases q6 : g28 x4 x5 σ with
    | none => rw [q6] at H; exact False.elim H
    | some q60 =>
      obtain ⟨v4 | v4, s5⟩ := q60
      · rw [q6] at H; dsimp only at H
        have hc := g28_run (Ω := Ω) htr d p τ x4 x5 σ q6
        refine xp_ok htr 3 (d + 1) 0 0 [eC (some (.int v4)) (hM p s5 τ)] 30 23 [some (.ref 1), none, some (.int x2), some (.int x3), some (.int x4), some (.int x5)] [] (hM p σ τ) ⟨hc, ?_⟩
        show xv l Ω (d + 1) 0 0 30 30 [some (.ref 1), none, some (.int x2), some (.int x3), some (.int x4), some (.int x5)] [.int v4] (hM p s5 τ) r
        by_cases h7 : v4 = 0
        · rw [if_pos h7] at H
          refine xp_ok htr 1 (d + 1) 0 0 [eB true] 30 30 [some (.ref 1), none, some (.int x2), some (.int x3), some (.int x4), some (.int x5)] [.int v4] (hM p s5 τ) ⟨h7, ?_⟩
          show xv l Ω (d + 1) 0 0 30 43 [some (.ref 1), none, some (.int x2), some (.int x3), some (.int x4), some (.int x5)] [] (hM p s5 τ) r
          exact xv_sub (L' := [some (.ref 1), none, some (.int x2), some (.int x3), some (.int x4), some (.int x5)]) ⟨rfl, ⟨rfl, ⟨rfl, ⟨rfl, ⟨rfl, trivial⟩⟩⟩⟩⟩ (g30_43_ok htr d p τ x2 x3 x4 x5 s5 r H)
        · rw [if_neg h7] at H
          refine xp_ok htr 1 (d + 1) 0 0 [eB false] 30 30 [some (.ref 1), none, some (.int x2), some (.int x3), some (.int x4), some (.int x5)] [.int v4] (hM p s5 τ) ⟨h7, ?_⟩
          show xv l Ω (d + 1) 0 0 30 33 [some (.ref 1), none, some (.int x2), some (.int x3), some (.int x4), some (.int x5)] [] (hM p s5 τ) r
          cases g8 : xn x5 12 with
          | false => rw [g8, cond_false] at H; exact False.elim H
          | true =>
            rw [g8, cond_true] at H
            refine xp_ok htr 7 (d + 1) 0 0 [] 30 33 [some (.ref 1), none, some (.int x2), some (.int x3), some (.int x4), some (.int x5)] [] (hM p s5 τ) ⟨(xn_in g8), ?_⟩
            exact xv_sub (L' := [some (.ref 1), none, some (.int (x2 ||| (s5 2 (Int32.toNatClampNeg x5)))), some (.int x3), some (.int x4), some (.int x5)]) ⟨rfl, ⟨rfl, ⟨rfl, ⟨rfl, ⟨rfl, trivial⟩⟩⟩⟩⟩ (g30_43_ok htr d p τ (x2 ||| (s5 2 (Int32.toNatClampNeg x5))) x3 x4 x5 s5 r H)
      · rw [q6] at H; exact False.elim H
theorem g30_16_ok {l : Launch} {Ω : xo_O} (htr : xH l) (d : Nat) (p : Nat) (τ : Nat → Nat → Int64) (x2 : Int32) (x3 : Int32) (x4 : Int32) (x5 : Int32) (σ : xS) (r : xv_R) (H : xo (xd (a30_4 l Ω d p τ r) (xB false p τ r)) (g30_16 x2 x3 x4 x5 σ)) : xv l Ω (d + 1) 0 0 30 16 [some (.ref 1), none, some (.int x2), some (.int x3), some (.int x4), some (.int x5)] [] (hM p σ τ) r :=
  xlo_ok (A := a30_16 l Ω d p τ r) (fun a H => g30_16b_ok htr d p τ a.1 a.2.1 a.2.2.1 a.2.2.2.1 a.2.2.2.2 r H) 1000 (x2, x3, x4, x5, σ) H
theorem g30_4b_ok {l : Launch} {Ω : xo_O} (htr : xH l) (d : Nat) (p : Nat) (τ : Nat → Nat → Int64) (x2 : Int32) (x3 : Int32) (σ : xS) (r : xv_R) (H : xo (xd (a30_4 l Ω d p τ r) (xB false p τ r)) (g30_4b x2 x3 σ)) : xv l Ω (d + 1) 0 0 30 4 [some (.ref 1), none, some (.int x2), some (.int x3), none, none] [] (hM p σ τ) r := by
  unfold g30_4b at H
  by_cases h1 : 12 ≤ x3
  · rw [if_pos h1] at H
    refine xp_ok htr 3 (d + 1) 0 0 [eB true] 30 4 [some (.ref 1), none, some (.int x2), some (.int x3), none, none] [] (hM p σ τ) ⟨h1, ?_⟩
    show xv l Ω (d + 1) 0 0 30 64 [some (.ref 1), none, some (.int x2), some (.int x3), none, none] [] (hM p σ τ) r
    exact xp_ok htr 2 (d + 1) 0 0 [] 30 64 [some (.ref 1), none, some (.int x2), some (.int x3), none, none] [] (hM p σ τ) ⟨trivial, (Eq.symm H)⟩
  · rw [if_neg h1] at H
    refine xp_ok htr 3 (d + 1) 0 0 [eB false] 30 4 [some (.ref 1), none, some (.int x2), some (.int x3), none, none] [] (hM p σ τ) ⟨h1, ?_⟩
    show xv l Ω (d + 1) 0 0 30 10 [some (.ref 1), none, some (.int x2), some (.int x3), none, none] [] (hM p σ τ) r
    refine xp_ok htr 4 (d + 1) 0 0 [] 30 10 [some (.ref 1), none, some (.int x2), some (.int x3), none, none] [] (hM p σ τ) ?_
    exact xv_sub (L' := [some (.ref 1), none, some (.int x2), some (.int x3), some (.int x2), some (.int 0)]) ⟨rfl, ⟨rfl, ⟨rfl, ⟨rfl, ⟨rfl, trivial⟩⟩⟩⟩⟩ (g30_16_ok htr d p τ x2 x3 x2 0 σ r H)
theorem g30_4_ok {l : Launch} {Ω : xo_O} (htr : xH l) (d : Nat) (p : Nat) (τ : Nat → Nat → Int64) (x2 : Int32) (x3 : Int32) (σ : xS) (r : xv_R) (H : xo (xB false p τ r) (g30_4 x2 x3 σ)) : xv l Ω (d + 1) 0 0 30 4 [some (.ref 1), none, some (.int x2), some (.int x3), none, none] [] (hM p σ τ) r :=
  xlo_ok (A := a30_4 l Ω d p τ r) (fun a H => g30_4b_ok htr d p τ a.1 a.2.1 a.2.2 r H) 1000 (x2, x3, σ) H
theorem g30_run {l : Launch} {Ω : xo_O} (htr : xH l) (d : Nat) (p : Nat) (τ : Nat → Nat → Int64) (a1 : Int32) (σ : xS) {q : xQ} (hq : g30 a1 σ = some q) : xv l Ω (d + 1) 0 0 30 0 (xs_loc (xm_l 30) [.ref 1, .int a1]) [] (hM p σ τ) (xq_R false p τ q) := by
  have H : xo (xB false p τ (xq_R false p τ q)) (g30 a1 σ) := by rw [hq]; exact rfl
  generalize xq_R false p τ q = r at H ⊢
  show xv l Ω (d + 1) 0 0 30 0 [some (.ref 1), some (.int a1), none, none, none, none] [] (hM p σ τ) r
  unfold g30 at H
  refine xp_ok htr 4 (d + 1) 0 0 [] 30 0 [some (.ref 1), some (.int a1), none, none, none, none] [] (hM p σ τ) ?_
  exact xv_sub (L' := [some (.ref 1), none, some (.int a1), some (.int 1), none, none]) ⟨rfl, ⟨rfl, ⟨rfl, trivial⟩⟩⟩ (g30_4_ok htr d p τ a1 1 σ r H)
/- AccessDesk.demandState -/
def g31 (a0 : Int32) (σ : xS) : xO := (if a0 = 0 then some ((Sum.inr 1, σ)) else some ((Sum.inl 0, σ)))
theorem g31_run {l : Launch} {Ω : xo_O} (htr : xH l) (d : Nat) (p : Nat) (τ : Nat → Nat → Int64) (a0 : Int32) (σ : xS) {q : xQ} (hq : g31 a0 σ = some q) : xv l Ω (d + 6) 1 6 31 0 (xs_loc (xm_l 31) [.int a0]) [] (hM p σ τ) (xq_R true p τ q) := by
  have H : xo (xB true p τ (xq_R true p τ q)) (g31 a0 σ) := by rw [hq]; exact rfl
  generalize xq_R true p τ q = r at H ⊢
  show xv l Ω (d + 6) 1 6 31 0 [some (.int a0)] [] (hM p σ τ) r
  unfold g31 at H
  by_cases h1 : a0 = 0
  · rw [if_pos h1] at H
    refine xp_ok htr 2 (d + 6) 1 6 [eB false] 31 0 [some (.int a0)] [] (hM p σ τ) ⟨h1, ?_⟩
    show xv l Ω (d + 6) 1 6 31 4 [some (.int a0)] [] (hM p σ τ) r
    exact xp_ok htr 1 (d + 6) 1 6 [] 31 4 [some (.int a0)] [] (hM p σ τ) (Eq.symm H)
  · rw [if_neg h1] at H
    refine xp_ok htr 2 (d + 6) 1 6 [eB true] 31 0 [some (.int a0)] [] (hM p σ τ) ⟨h1, ?_⟩
    show xv l Ω (d + 6) 1 6 31 12 [some (.int a0)] [] (hM p σ τ) r
    exact xp_ok htr 1 (d + 6) 1 6 [] 31 12 [some (.int a0)] [] (hM p σ τ) ⟨trivial, (Eq.symm H)⟩
