/-! the methods as functions: laid by program (wip/whole/dec.py) -/
/- AccessDesk.place -/
def g13  (σ : xS) : xO := some ((Sum.inl (σ 0 8), σ))
theorem g13_run {l : Launch} {Ω : xo_O} (htr : xH l) (d : Nat) (p : Nat) (τ : Nat → Nat → Int64)  (σ : xS) {q : xQ} (hq : g13  σ = some q) : xv l Ω d 0 0 13 0 (xs_loc (xm_l 13) [.ref 0]) [] (hM p σ τ) (xq_R false p τ q) := by
  have H : xo (xB false p τ (xq_R false p τ q)) (g13  σ) := by rw [hq]; exact rfl
  generalize xq_R false p τ q = r at H ⊢
  show xv l Ω d 0 0 13 0 [some (.ref 0)] [] (hM p σ τ) r
  unfold g13 at H
  exact xp_ok htr 3 d 0 0 [] 13 0 [some (.ref 0)] [] (hM p σ τ) ⟨trivial, (Eq.symm H)⟩
/- java/lang/Math.max -/
def g17 (a0 : Int32) (a1 : Int32) (σ : xS) : xO := (if a0 < a1 then some ((Sum.inl a1, σ)) else some ((Sum.inl a0, σ)))
theorem g17_run {l : Launch} {Ω : xo_O} (htr : xH l) (d : Nat) (p : Nat) (τ : Nat → Nat → Int64) (a0 : Int32) (a1 : Int32) (σ : xS) {q : xQ} (hq : g17 a0 a1 σ = some q) : xv l Ω d 0 0 17 0 (xs_loc (xm_l 17) [.int a0, .int a1]) [] (hM p σ τ) (xq_R false p τ q) := by
  have H : xo (xB false p τ (xq_R false p τ q)) (g17 a0 a1 σ) := by rw [hq]; exact rfl
  generalize xq_R false p τ q = r at H ⊢
  show xv l Ω d 0 0 17 0 [some (.int a0), some (.int a1)] [] (hM p σ τ) r
  unfold g17 at H
  by_cases h1 : a0 < a1
  · rw [if_pos h1] at H
    refine xp_ok htr 3 d 0 0 [eB true] 17 0 [some (.int a0), some (.int a1)] [] (hM p σ τ) ⟨h1, ?_⟩
    show xv l Ω d 0 0 17 9 [some (.int a0), some (.int a1)] [] (hM p σ τ) r
    exact xp_ok htr 2 d 0 0 [] 17 9 [some (.int a0), some (.int a1)] [] (hM p σ τ) ⟨trivial, (Eq.symm H)⟩
  · rw [if_neg h1] at H
    refine xp_ok htr 3 d 0 0 [eB false] 17 0 [some (.int a0), some (.int a1)] [] (hM p σ τ) ⟨h1, ?_⟩
    show xv l Ω d 0 0 17 5 [some (.int a0), some (.int a1)] [] (hM p σ τ) r
    exact xp_ok htr 3 d 0 0 [] 17 5 [some (.int a0), some (.int a1)] [] (hM p σ τ) ⟨trivial, (Eq.symm H)⟩
/- AccessDesk$Book.firstKept -/
def g16  (σ : xS) : xO := (match g17 0 ((σ 51 1) - 40) σ with | some (Sum.inl v1, s2) => some ((Sum.inl v1, s2)) | some (Sum.inr v1, s2) => none | none => none)
theorem g16_run {l : Launch} {Ω : xo_O} (htr : xH l) (d : Nat) (p : Nat) (τ : Nat → Nat → Int64)  (σ : xS) {q : xQ} (hq : g16  σ = some q) : xv l Ω (d + 1) 0 0 16 0 (xs_loc (xm_l 16) [.ref 51]) [] (hM p σ τ) (xq_R false p τ q) := by
  have H : xo (xB false p τ (xq_R false p τ q)) (g16  σ) := by rw [hq]; exact rfl
  generalize xq_R false p τ q = r at H ⊢
  show xv l Ω (d + 1) 0 0 16 0 [some (.ref 51)] [] (hM p σ τ) r
  unfold g16 at H
  cases q3 : g17 0 ((σ 51 1) - 40) σ with
  | none => rw [q3] at H; exact False.elim H
  | some q30 =>
    obtain ⟨v1 | v1, s2⟩ := q30
    · rw [q3] at H; dsimp only at H
      have hc := g17_run (Ω := Ω) htr d p τ 0 ((σ 51 1) - 40) σ q3
      refine xp_ok htr 6 (d + 1) 0 0 [eC (some (.int v1)) (hM p s2 τ)] 16 0 [some (.ref 51)] [] (hM p σ τ) ⟨hc, ?_⟩
      show xv l Ω (d + 1) 0 0 16 11 [some (.ref 51)] [.int v1] (hM p s2 τ) r
      exact xp_ok htr 1 (d + 1) 0 0 [] 16 11 [some (.ref 51)] [.int v1] (hM p s2 τ) ⟨trivial, (Eq.symm H)⟩
    · rw [q3] at H; exact False.elim H
/- java/lang/Math.floorMod -/
def g21 (a0 : Int32) (a1 : Int32) (σ : xS) : xO := (bif !decide (a1 = 0) then (if 0 ≤ (a0 ^^^ a1) then some ((Sum.inl (a0 - a0 / a1 * a1), σ)) else (if (a0 - a0 / a1 * a1) = 0 then some ((Sum.inl (a0 - a0 / a1 * a1), σ)) else some ((Sum.inl ((a0 - a0 / a1 * a1) + a1), σ)))) else none)
theorem g21_run {l : Launch} {Ω : xo_O} (htr : xH l) (d : Nat) (p : Nat) (τ : Nat → Nat → Int64) (a0 : Int32) (a1 : Int32) (σ : xS) {q : xQ} (hq : g21 a0 a1 σ = some q) : xv l Ω d 0 0 21 0 (xs_loc (xm_l 21) [.int a0, .int a1]) [] (hM p σ τ) (xq_R false p τ q) := by
  have H : xo (xB false p τ (xq_R false p τ q)) (g21 a0 a1 σ) := by rw [hq]; exact rfl
  generalize xq_R false p τ q = r at H ⊢
  show xv l Ω d 0 0 21 0 [some (.int a0), some (.int a1), none] [] (hM p σ τ) r
  unfold g21 at H
  cases g1 : !decide (a1 = 0) with
  | false => rw [g1, cond_false] at H; exact False.elim H
  | true =>
    rw [g1, cond_true] at H
    by_cases h2 : 0 ≤ (a0 ^^^ a1)
    · rw [if_pos h2] at H
      refine xp_ok htr 8 d 0 0 [eB true] 21 0 [some (.int a0), some (.int a1), none] [] (hM p σ τ) ⟨(by simpa using g1), h2, ?_⟩
      show xv l Ω d 0 0 21 18 [some (.int a0), some (.int a1), some (.int (a0 - a0 / a1 * a1))] [] (hM p σ τ) r
      exact xp_ok htr 2 d 0 0 [] 21 18 [some (.int a0), some (.int a1), some (.int (a0 - a0 / a1 * a1))] [] (hM p σ τ) ⟨trivial, (Eq.symm H)⟩
    · rw [if_neg h2] at H
      refine xp_ok htr 8 d 0 0 [eB false] 21 0 [some (.int a0), some (.int a1), none] [] (hM p σ τ) ⟨(by simpa using g1), h2, ?_⟩
      show xv l Ω d 0 0 21 10 [some (.int a0), some (.int a1), some (.int (a0 - a0 / a1 * a1))] [] (hM p σ τ) r
      by_cases h3 : (a0 - a0 / a1 * a1) = 0
      · rw [if_pos h3] at H
        refine xp_ok htr 2 d 0 0 [eB true] 21 10 [some (.int a0), some (.int a1), some (.int (a0 - a0 / a1 * a1))] [] (hM p σ τ) ⟨h3, ?_⟩
        show xv l Ω d 0 0 21 18 [some (.int a0), some (.int a1), some (.int (a0 - a0 / a1 * a1))] [] (hM p σ τ) r
        exact xp_ok htr 2 d 0 0 [] 21 18 [some (.int a0), some (.int a1), some (.int (a0 - a0 / a1 * a1))] [] (hM p σ τ) ⟨trivial, (Eq.symm H)⟩
      · rw [if_neg h3] at H
        refine xp_ok htr 2 d 0 0 [eB false] 21 10 [some (.int a0), some (.int a1), some (.int (a0 - a0 / a1 * a1))] [] (hM p σ τ) ⟨h3, ?_⟩
        show xv l Ω d 0 0 21 14 [some (.int a0), some (.int a1), some (.int (a0 - a0 / a1 * a1))] [] (hM p σ τ) r
        exact xp_ok htr 4 d 0 0 [] 21 14 [some (.int a0), some (.int a1), some (.int (a0 - a0 / a1 * a1))] [] (hM p σ τ) ⟨trivial, (Eq.symm H)⟩
/- AccessDesk$Book.rowOf -/
def g20 (a0 : Int32) (σ : xS) : xO := (match g21 a0 40 σ with | some (Sum.inl v1, s2) => some ((Sum.inl (v1 * 7), s2)) | some (Sum.inr v1, s2) => none | none => none)
theorem g20_run {l : Launch} {Ω : xo_O} (htr : xH l) (d : Nat) (p : Nat) (τ : Nat → Nat → Int64) (a0 : Int32) (σ : xS) {q : xQ} (hq : g20 a0 σ = some q) : xv l Ω (d + 1) 0 0 20 0 (xs_loc (xm_l 20) [.int a0]) [] (hM p σ τ) (xq_R false p τ q) := by
  have H : xo (xB false p τ (xq_R false p τ q)) (g20 a0 σ) := by rw [hq]; exact rfl
  generalize xq_R false p τ q = r at H ⊢
  show xv l Ω (d + 1) 0 0 20 0 [some (.int a0)] [] (hM p σ τ) r
  unfold g20 at H
  cases q3 : g21 a0 40 σ with
  | none => rw [q3] at H; exact False.elim H
  | some q30 =>
    obtain ⟨v1 | v1, s2⟩ := q30
    · rw [q3] at H; dsimp only at H
      have hc := g21_run (Ω := Ω) htr d p τ a0 40 σ q3
      refine xp_ok htr 3 (d + 1) 0 0 [eC (some (.int v1)) (hM p s2 τ)] 20 0 [some (.int a0)] [] (hM p σ τ) ⟨hc, ?_⟩
      show xv l Ω (d + 1) 0 0 20 6 [some (.int a0)] [.int v1] (hM p s2 τ) r
      exact xp_ok htr 3 (d + 1) 0 0 [] 20 6 [some (.int a0)] [.int v1] (hM p s2 τ) ⟨trivial, (Eq.symm H)⟩
    · rw [q3] at H; exact False.elim H
/- AccessDesk$Book.numberOf -/
def g19 (a1 : Int32) (a2 : Int32) (σ : xS) : xO := (match g20 a1 σ with | some (Sum.inl v1, s2) => (bif xn (v1 + a2) 280 then some ((Sum.inl (s2 52 (Int32.toNatClampNeg (v1 + a2))), s2)) else none) | some (Sum.inr v1, s2) => none | none => none)
theorem g19_run {l : Launch} {Ω : xo_O} (htr : xH l) (d : Nat) (p : Nat) (τ : Nat → Nat → Int64) (a1 : Int32) (a2 : Int32) (σ : xS) {q : xQ} (hq : g19 a1 a2 σ = some q) : xv l Ω (d + 2) 0 0 19 0 (xs_loc (xm_l 19) [.ref 51, .int a1, .int a2]) [] (hM p σ τ) (xq_R false p τ q) := by
  have H : xo (xB false p τ (xq_R false p τ q)) (g19 a1 a2 σ) := by rw [hq]; exact rfl
  generalize xq_R false p τ q = r at H ⊢
  show xv l Ω (d + 2) 0 0 19 0 [some (.ref 51), some (.int a1), some (.int a2)] [] (hM p σ τ) r
  unfold g19 at H
  cases q3 : g20 a1 σ with
  | none => rw [q3] at H; exact False.elim H
  | some q30 =>
    obtain ⟨v1 | v1, s2⟩ := q30
    · rw [q3] at H; dsimp only at H
      have hc := g20_run (Ω := Ω) htr d p τ a1 σ q3
      refine xp_ok htr 4 (d + 2) 0 0 [eC (some (.int v1)) (hM p s2 τ)] 19 0 [some (.ref 51), some (.int a1), some (.int a2)] [] (hM p σ τ) ⟨hc, ?_⟩
      show xv l Ω (d + 2) 0 0 19 8 [some (.ref 51), some (.int a1), some (.int a2)] [.int v1, .ref 52] (hM p s2 τ) r
      cases g4 : xn (v1 + a2) 280 with
      | false => rw [g4, cond_false] at H; exact False.elim H
      | true =>
        rw [g4, cond_true] at H
        exact xp_ok htr 4 (d + 2) 0 0 [] 19 8 [some (.ref 51), some (.int a1), some (.int a2)] [.int v1, .ref 52] (hM p s2 τ) ⟨(xn_in g4), trivial, (Eq.symm H)⟩
    · rw [q3] at H; exact False.elim H
/- AccessDesk$Book.linkOf -/
def g18_5b (x1 : Int32) (x3 : Int32) (x4 : Int32) (σ : xS) : Option ((Int32 × Int32 × Int32 × xS) ⊕ xQ) := (if 6 ≤ x4 then some (Sum.inr ((Sum.inl ((x3 ^^^ x1) * 16777619), σ))) else (match g19 x1 x4 σ with | some (Sum.inl v2, s3) => some (Sum.inl (x1, ((x3 ^^^ v2) * 16777619), (x4 + 1), s3)) | some (Sum.inr v2, s3) => none | none => none))
def g18_5 (x1 : Int32) (x3 : Int32) (x4 : Int32) (σ : xS) : Option xQ := xlo (fun a : Int32 × Int32 × Int32 × xS => g18_5b a.1 a.2.1 a.2.2.1 a.2.2.2) 1000 (x1, x3, x4, σ)
def g18 (a1 : Int32) (a2 : Int32) (σ : xS) : xO := g18_5 a1 a2 0 σ
def a18_5 (l : Launch) (Ω : xo_O) (d p : Nat) (τ : Nat → Nat → Int64) (r : xv_R) : Int32 × Int32 × Int32 × xS → Prop := fun a => xv l Ω (d + 3) 0 0 18 5 [some (.ref 51), some (.int a.1), none, some (.int a.2.1), some (.int a.2.2.1)] [] (hM p a.2.2.2 τ) r
theorem g18_5b_ok {l : Launch} {Ω : xo_O} (htr : xH l) (d : Nat) (p : Nat) (τ : Nat → Nat → Int64) (x1 : Int32) (x3 : Int32) (x4 : Int32) (σ : xS) (r : xv_R) (H : xo (xd (a18_5 l Ω d p τ r) (xB false p τ r)) (g18_5b x1 x3 x4 σ)) : xv l Ω (d + 3) 0 0 18 5 [some (.ref 51), some (.int x1), none, some (.int x3), some (.int x4)] [] (hM p σ τ) r := by
  unfold g18_5b at H
  by_cases h1 : 6 ≤ x4
  · rw [if_pos h1] at H
    refine xp_ok htr 3 (d + 3) 0 0 [eB true] 18 5 [some (.ref 51), some (.int x1), none, some (.int x3), some (.int x4)] [] (hM p σ τ) ⟨h1, ?_⟩
    show xv l Ω (d + 3) 0 0 18 31 [some (.ref 51), some (.int x1), none, some (.int x3), some (.int x4)] [] (hM p σ τ) r
    exact xp_ok htr 6 (d + 3) 0 0 [] 18 31 [some (.ref 51), some (.int x1), none, some (.int x3), some (.int x4)] [] (hM p σ τ) ⟨trivial, (Eq.symm H)⟩
  · rw [if_neg h1] at H
    refine xp_ok htr 3 (d + 3) 0 0 [eB false] 18 5 [some (.ref 51), some (.int x1), none, some (.int x3), some (.int x4)] [] (hM p σ τ) ⟨h1, ?_⟩
    show xv l Ω (d + 3) 0 0 18 12 [some (.ref 51), some (.int x1), none, some (.int x3), some (.int x4)] [] (hM p σ τ) r
    cases q4 : g19 x1 x4 σ with
    | none => rw [q4] at H; exact False.elim H
    | some q40 =>
      obtain ⟨v2 | v2, s3⟩ := q40
      · rw [q4] at H; dsimp only at H
        have hc := g19_run (Ω := Ω) htr d p τ x1 x4 σ q4
        refine xp_ok htr 5 (d + 3) 0 0 [eC (some (.int v2)) (hM p s3 τ)] 18 12 [some (.ref 51), some (.int x1), none, some (.int x3), some (.int x4)] [] (hM p σ τ) ⟨hc, ?_⟩
        show xv l Ω (d + 3) 0 0 18 20 [some (.ref 51), some (.int x1), none, some (.int x3), some (.int x4)] [.int v2, .int x3] (hM p s3 τ) r
        refine xp_ok htr 6 (d + 3) 0 0 [] 18 20 [some (.ref 51), some (.int x1), none, some (.int x3), some (.int x4)] [.int v2, .int x3] (hM p s3 τ) ?_
        show xv l Ω (d + 3) 0 0 18 5 [some (.ref 51), some (.int x1), none, some (.int ((x3 ^^^ v2) * 16777619)), some (.int (x4 + 1))] [] (hM p s3 τ) r
        exact xv_sub (L' := [some (.ref 51), some (.int x1), none, some (.int ((x3 ^^^ v2) * 16777619)), some (.int (x4 + 1))]) ⟨rfl, ⟨rfl, ⟨rfl, ⟨rfl, trivial⟩⟩⟩⟩ H
      · rw [q4] at H; exact False.elim H
theorem g18_5_ok {l : Launch} {Ω : xo_O} (htr : xH l) (d : Nat) (p : Nat) (τ : Nat → Nat → Int64) (x1 : Int32) (x3 : Int32) (x4 : Int32) (σ : xS) (r : xv_R) (H : xo (xB false p τ r) (g18_5 x1 x3 x4 σ)) : xv l Ω (d + 3) 0 0 18 5 [some (.ref 51), some (.int x1), none, some (.int x3), some (.int x4)] [] (hM p σ τ) r :=
  xlo_ok (A := a18_5 l Ω d p τ r) (fun a H => g18_5b_ok htr d p τ a.1 a.2.1 a.2.2.1 a.2.2.2 r H) 1000 (x1, x3, x4, σ) H
theorem g18_run {l : Launch} {Ω : xo_O} (htr : xH l) (d : Nat) (p : Nat) (τ : Nat → Nat → Int64) (a1 : Int32) (a2 : Int32) (σ : xS) {q : xQ} (hq : g18 a1 a2 σ = some q) : xv l Ω (d + 3) 0 0 18 0 (xs_loc (xm_l 18) [.ref 51, .int a1, .int a2]) [] (hM p σ τ) (xq_R false p τ q) := by
  have H : xo (xB false p τ (xq_R false p τ q)) (g18 a1 a2 σ) := by rw [hq]; exact rfl
  generalize xq_R false p τ q = r at H ⊢
  show xv l Ω (d + 3) 0 0 18 0 [some (.ref 51), some (.int a1), some (.int a2), none, none] [] (hM p σ τ) r
  unfold g18 at H
  refine xp_ok htr 4 (d + 3) 0 0 [] 18 0 [some (.ref 51), some (.int a1), some (.int a2), none, none] [] (hM p σ τ) ?_
  show xv l Ω (d + 3) 0 0 18 5 [some (.ref 51), some (.int a1), some (.int a2), some (.int a2), some (.int 0)] [] (hM p σ τ) r
  exact xv_sub (L' := [some (.ref 51), some (.int a1), none, some (.int a2), some (.int 0)]) ⟨rfl, ⟨rfl, ⟨rfl, ⟨rfl, trivial⟩⟩⟩⟩ (g18_5_ok htr d p τ a1 a2 0 σ r H)
/- AccessDesk$Book.firstWrong -/
def g15_10b (x1 : Int32) (x2 : Int32) (σ : xS) : Option ((Int32 × Int32 × xS) ⊕ xQ) := (if (σ 51 1) ≤ x2 then some (Sum.inr ((Sum.inl (-1), σ))) else (match g18 x2 x1 σ with | some (Sum.inl v5, s6) => (match g19 x2 6 s6 with | some (Sum.inl v8, s9) => (if v5 = v8 then some (Sum.inl (v5, (x2 + 1), s9)) else some (Sum.inr ((Sum.inl x2, s9)))) | some (Sum.inr v8, s9) => none | none => none) | some (Sum.inr v5, s6) => none | none => none))
def g15_10 (x1 : Int32) (x2 : Int32) (σ : xS) : Option xQ := xlo (fun a : Int32 × Int32 × xS => g15_10b a.1 a.2.1 a.2.2) 1000 (x1, x2, σ)
def g15  (σ : xS) : xO := (match g16 σ with | some (Sum.inl v1, s2) => g15_10 (σ 51 2) v1 s2 | some (Sum.inr v1, s2) => none | none => none)
def a15_10 (l : Launch) (Ω : xo_O) (d p : Nat) (τ : Nat → Nat → Int64) (r : xv_R) : Int32 × Int32 × xS → Prop := fun a => xv l Ω (d + 4) 0 0 15 10 [some (.ref 51), some (.int a.1), some (.int a.2.1)] [] (hM p a.2.2 τ) r
theorem g15_10b_ok {l : Launch} {Ω : xo_O} (htr : xH l) (d : Nat) (p : Nat) (τ : Nat → Nat → Int64) (x1 : Int32) (x2 : Int32) (σ : xS) (r : xv_R) (H : xo (xd (a15_10 l Ω d p τ r) (xB false p τ r)) (g15_10b x1 x2 σ)) : xv l Ω (d + 4) 0 0 15 10 [some (.ref 51), some (.int x1), some (.int x2)] [] (hM p σ τ) r := by
  unfold g15_10b at H
  by_cases h4 : (σ 51 1) ≤ x2
  · rw [if_pos h4] at H
    refine xp_ok htr 4 (d + 4) 0 0 [eB true] 15 10 [some (.ref 51), some (.int x1), some (.int x2)] [] (hM p σ τ) ⟨h4, ?_⟩
    show xv l Ω (d + 4) 0 0 15 44 [some (.ref 51), some (.int x1), some (.int x2)] [] (hM p σ τ) r
    exact xp_ok htr 2 (d + 4) 0 0 [] 15 44 [some (.ref 51), some (.int x1), some (.int x2)] [] (hM p σ τ) ⟨trivial, (Eq.symm H)⟩
  · rw [if_neg h4] at H
    refine xp_ok htr 4 (d + 4) 0 0 [eB false] 15 10 [some (.ref 51), some (.int x1), some (.int x2)] [] (hM p σ τ) ⟨h4, ?_⟩
    show xv l Ω (d + 4) 0 0 15 18 [some (.ref 51), some (.int x1), some (.int x2)] [] (hM p σ τ) r
    cases q7 : g18 x2 x1 σ with
    | none => rw [q7] at H; exact False.elim H
    | some q70 =>
      obtain ⟨v5 | v5, s6⟩ := q70
      · rw [q7] at H; dsimp only at H
        have hc := g18_run (Ω := Ω) htr d p τ x2 x1 σ q7
        refine xp_ok htr 4 (d + 4) 0 0 [eC (some (.int v5)) (hM p s6 τ)] 15 18 [some (.ref 51), some (.int x1), some (.int x2)] [] (hM p σ τ) ⟨hc, ?_⟩
        show xv l Ω (d + 4) 0 0 15 24 [some (.ref 51), some (.int x1), some (.int x2)] [.int v5] (hM p s6 τ) r
        cases q10 : g19 x2 6 s6 with
        | none => rw [q10] at H; exact False.elim H
        | some q100 =>
          obtain ⟨v8 | v8, s9⟩ := q100
          · rw [q10] at H; dsimp only at H
            have hc := g19_run (Ω := Ω) htr (d + 1) p τ x2 6 s6 q10
            refine xp_ok htr 6 (d + 4) 0 0 [eC (some (.int v8)) (hM p s9 τ)] 15 24 [some (.ref 51), some (.int x1), some (.int x2)] [.int v5] (hM p s6 τ) ⟨hc, ?_⟩
            show xv l Ω (d + 4) 0 0 15 33 [some (.ref 51), some (.int v5), some (.int x2)] [.int v8, .int v5] (hM p s9 τ) r
            by_cases h11 : v5 = v8
            · rw [if_pos h11] at H
              refine xp_ok htr 1 (d + 4) 0 0 [eB true] 15 33 [some (.ref 51), some (.int v5), some (.int x2)] [.int v8, .int v5] (hM p s9 τ) ⟨h11, ?_⟩
              show xv l Ω (d + 4) 0 0 15 38 [some (.ref 51), some (.int v5), some (.int x2)] [] (hM p s9 τ) r
              refine xp_ok htr 2 (d + 4) 0 0 [] 15 38 [some (.ref 51), some (.int v5), some (.int x2)] [] (hM p s9 τ) ?_
              show xv l Ω (d + 4) 0 0 15 10 [some (.ref 51), some (.int v5), some (.int (x2 + 1))] [] (hM p s9 τ) r
              exact xv_sub (L' := [some (.ref 51), some (.int v5), some (.int (x2 + 1))]) ⟨rfl, ⟨rfl, ⟨rfl, trivial⟩⟩⟩ H
            · rw [if_neg h11] at H
              refine xp_ok htr 1 (d + 4) 0 0 [eB false] 15 33 [some (.ref 51), some (.int v5), some (.int x2)] [.int v8, .int v5] (hM p s9 τ) ⟨h11, ?_⟩
              show xv l Ω (d + 4) 0 0 15 36 [some (.ref 51), some (.int v5), some (.int x2)] [] (hM p s9 τ) r
              exact xp_ok htr 2 (d + 4) 0 0 [] 15 36 [some (.ref 51), some (.int v5), some (.int x2)] [] (hM p s9 τ) ⟨trivial, (Eq.symm H)⟩
          · rw [q10] at H; exact False.elim H
      · rw [q7] at H; exact False.elim H
theorem g15_10_ok {l : Launch} {Ω : xo_O} (htr : xH l) (d : Nat) (p : Nat) (τ : Nat → Nat → Int64) (x1 : Int32) (x2 : Int32) (σ : xS) (r : xv_R) (H : xo (xB false p τ r) (g15_10 x1 x2 σ)) : xv l Ω (d + 4) 0 0 15 10 [some (.ref 51), some (.int x1), some (.int x2)] [] (hM p σ τ) r :=
  xlo_ok (A := a15_10 l Ω d p τ r) (fun a H => g15_10b_ok htr d p τ a.1 a.2.1 a.2.2 r H) 1000 (x1, x2, σ) H
theorem g15_run {l : Launch} {Ω : xo_O} (htr : xH l) (d : Nat) (p : Nat) (τ : Nat → Nat → Int64)  (σ : xS) {q : xQ} (hq : g15  σ = some q) : xv l Ω (d + 4) 0 0 15 0 (xs_loc (xm_l 15) [.ref 51]) [] (hM p σ τ) (xq_R false p τ q) := by
  have H : xo (xB false p τ (xq_R false p τ q)) (g15  σ) := by rw [hq]; exact rfl
  generalize xq_R false p τ q = r at H ⊢
  show xv l Ω (d + 4) 0 0 15 0 [some (.ref 51), none, none] [] (hM p σ τ) r
  unfold g15 at H
  cases q3 : g16 σ with
  | none => rw [q3] at H; exact False.elim H
  | some q30 =>
    obtain ⟨v1 | v1, s2⟩ := q30
    · rw [q3] at H; dsimp only at H
      have hc := g16_run (Ω := Ω) htr (d + 2) p τ  σ q3
      refine xp_ok htr 5 (d + 4) 0 0 [eC (some (.int v1)) (hM p s2 τ)] 15 0 [some (.ref 51), none, none] [] (hM p σ τ) ⟨hc, ?_⟩
      show xv l Ω (d + 4) 0 0 15 9 [some (.ref 51), some (.int (σ 51 2)), none] [.int v1] (hM p s2 τ) r
      refine xp_ok htr 1 (d + 4) 0 0 [] 15 9 [some (.ref 51), some (.int (σ 51 2)), none] [.int v1] (hM p s2 τ) ?_
      show xv l Ω (d + 4) 0 0 15 10 [some (.ref 51), some (.int (σ 51 2)), some (.int v1)] [] (hM p s2 τ) r
      exact xv_sub (L' := [some (.ref 51), some (.int (σ 51 2)), some (.int v1)]) ⟨rfl, ⟨rfl, ⟨rfl, trivial⟩⟩⟩ (g15_10_ok htr d p τ (σ 51 2) v1 s2 r H)
    · rw [q3] at H; exact False.elim H
/- AccessDesk.audit -/
def g14  (σ : xS) : xO := (match g15 σ with | some (Sum.inl v1, s2) => some ((Sum.inl v1, s2)) | some (Sum.inr v1, s2) => none | none => none)
theorem g14_run {l : Launch} {Ω : xo_O} (htr : xH l) (d : Nat) (p : Nat) (τ : Nat → Nat → Int64)  (σ : xS) {q : xQ} (hq : g14  σ = some q) : xv l Ω (d + 5) 0 0 14 0 (xs_loc (xm_l 14) [.ref 0]) [] (hM p σ τ) (xq_R false p τ q) := by
  have H : xo (xB false p τ (xq_R false p τ q)) (g14  σ) := by rw [hq]; exact rfl
  generalize xq_R false p τ q = r at H ⊢
  show xv l Ω (d + 5) 0 0 14 0 [some (.ref 0)] [] (hM p σ τ) r
  unfold g14 at H
  cases q3 : g15 σ with
  | none => rw [q3] at H; exact False.elim H
  | some q30 =>
    obtain ⟨v1 | v1, s2⟩ := q30
    · rw [q3] at H; dsimp only at H
      have hc := g15_run (Ω := Ω) htr d p τ  σ q3
      refine xp_ok htr 3 (d + 5) 0 0 [eC (some (.int v1)) (hM p s2 τ)] 14 0 [some (.ref 0)] [] (hM p σ τ) ⟨hc, ?_⟩
      show xv l Ω (d + 5) 0 0 14 7 [some (.ref 0)] [.int v1] (hM p s2 τ) r
      exact xp_ok htr 1 (d + 5) 0 0 [] 14 7 [some (.ref 0)] [.int v1] (hM p s2 τ) ⟨trivial, (Eq.symm H)⟩
    · rw [q3] at H; exact False.elim H
/- AccessDesk.isBelow -/
def g25 (a0 : Int32) (a1 : Int32) (σ : xS) : xO := (if a0 < 0 then some ((Sum.inl 0, σ)) else (if a1 ≤ a0 then some ((Sum.inl 0, σ)) else some ((Sum.inl 1, σ))))
theorem g25_run {l : Launch} {Ω : xo_O} (htr : xH l) (d : Nat) (p : Nat) (τ : Nat → Nat → Int64) (a0 : Int32) (a1 : Int32) (σ : xS) {q : xQ} (hq : g25 a0 a1 σ = some q) : xv l Ω d 0 0 25 0 (xs_loc (xm_l 25) [.int a0, .int a1]) [] (hM p σ τ) (xq_R false p τ q) := by
  have H : xo (xB false p τ (xq_R false p τ q)) (g25 a0 a1 σ) := by rw [hq]; exact rfl
  generalize xq_R false p τ q = r at H ⊢
  show xv l Ω d 0 0 25 0 [some (.int a0), some (.int a1)] [] (hM p σ τ) r
  unfold g25 at H
  by_cases h1 : a0 < 0
  · rw [if_pos h1] at H
    refine xp_ok htr 2 d 0 0 [eB true] 25 0 [some (.int a0), some (.int a1)] [] (hM p σ τ) ⟨h1, ?_⟩
    show xv l Ω d 0 0 25 13 [some (.int a0), some (.int a1)] [] (hM p σ τ) r
    exact xp_ok htr 2 d 0 0 [] 25 13 [some (.int a0), some (.int a1)] [] (hM p σ τ) ⟨Or.inl rfl, (Eq.symm H)⟩
  · rw [if_neg h1] at H
    refine xp_ok htr 2 d 0 0 [eB false] 25 0 [some (.int a0), some (.int a1)] [] (hM p σ τ) ⟨h1, ?_⟩
    show xv l Ω d 0 0 25 4 [some (.int a0), some (.int a1)] [] (hM p σ τ) r
    by_cases h2 : a1 ≤ a0
    · rw [if_pos h2] at H
      refine xp_ok htr 3 d 0 0 [eB true] 25 4 [some (.int a0), some (.int a1)] [] (hM p σ τ) ⟨h2, ?_⟩
      show xv l Ω d 0 0 25 13 [some (.int a0), some (.int a1)] [] (hM p σ τ) r
      exact xp_ok htr 2 d 0 0 [] 25 13 [some (.int a0), some (.int a1)] [] (hM p σ τ) ⟨Or.inl rfl, (Eq.symm H)⟩
    · rw [if_neg h2] at H
      refine xp_ok htr 3 d 0 0 [eB false] 25 4 [some (.int a0), some (.int a1)] [] (hM p σ τ) ⟨h2, ?_⟩
      show xv l Ω d 0 0 25 9 [some (.int a0), some (.int a1)] [] (hM p σ τ) r
      exact xp_ok htr 3 d 0 0 [] 25 9 [some (.int a0), some (.int a1)] [] (hM p σ τ) ⟨Or.inr rfl, (Eq.symm H)⟩
/- AccessDesk.isRole -/
def g24 (a0 : Int32) (σ : xS) : xO := (match g25 a0 12 σ with | some (Sum.inl v1, s2) => (bif decide (v1 = 0 ∨ v1 = 1) then some ((Sum.inl v1, s2)) else none) | some (Sum.inr v1, s2) => none | none => none)
theorem g24_run {l : Launch} {Ω : xo_O} (htr : xH l) (d : Nat) (p : Nat) (τ : Nat → Nat → Int64) (a0 : Int32) (σ : xS) {q : xQ} (hq : g24 a0 σ = some q) : xv l Ω (d + 1) 0 0 24 0 (xs_loc (xm_l 24) [.int a0]) [] (hM p σ τ) (xq_R false p τ q) := by
  have H : xo (xB false p τ (xq_R false p τ q)) (g24 a0 σ) := by rw [hq]; exact rfl
  generalize xq_R false p τ q = r at H ⊢
  show xv l Ω (d + 1) 0 0 24 0 [some (.int a0)] [] (hM p σ τ) r
  unfold g24 at H
  cases q3 : g25 a0 12 σ with
  | none => rw [q3] at H; exact False.elim H
  | some q30 =>
    obtain ⟨v1 | v1, s2⟩ := q30
    · rw [q3] at H; dsimp only at H
      have hc := g25_run (Ω := Ω) htr d p τ a0 12 σ q3
      refine xp_ok htr 3 (d + 1) 0 0 [eC (some (.int v1)) (hM p s2 τ)] 24 0 [some (.int a0)] [] (hM p σ τ) ⟨hc, ?_⟩
      show xv l Ω (d + 1) 0 0 24 6 [some (.int a0)] [.int v1] (hM p s2 τ) r
      cases g4 : decide (v1 = 0 ∨ v1 = 1) with
      | false => rw [g4, cond_false] at H; exact False.elim H
      | true =>
        rw [g4, cond_true] at H
        exact xp_ok htr 1 (d + 1) 0 0 [] 24 6 [some (.int a0)] [.int v1] (hM p s2 τ) ⟨(xb01 g4), (Eq.symm H)⟩
    · rw [q3] at H; exact False.elim H
/- AccessDesk.demandArgument -/
def g26 (a0 : Int32) (σ : xS) : xO := (if a0 = 0 then some ((Sum.inr 0, σ)) else some ((Sum.inl 0, σ)))
theorem g26_run {l : Launch} {Ω : xo_O} (htr : xH l) (d : Nat) (p : Nat) (τ : Nat → Nat → Int64) (a0 : Int32) (σ : xS) {q : xQ} (hq : g26 a0 σ = some q) : xv l Ω (d + 6) 1 6 26 0 (xs_loc (xm_l 26) [.int a0]) [] (hM p σ τ) (xq_R true p τ q) := by
  have H : xo (xB true p τ (xq_R true p τ q)) (g26 a0 σ) := by rw [hq]; exact rfl
  generalize xq_R true p τ q = r at H ⊢
  show xv l Ω (d + 6) 1 6 26 0 [some (.int a0)] [] (hM p σ τ) r
  unfold g26 at H
  by_cases h1 : a0 = 0
  · rw [if_pos h1] at H
    refine xp_ok htr 2 (d + 6) 1 6 [eB false] 26 0 [some (.int a0)] [] (hM p σ τ) ⟨h1, ?_⟩
    show xv l Ω (d + 6) 1 6 26 4 [some (.int a0)] [] (hM p σ τ) r
    exact xp_ok htr 1 (d + 6) 1 6 [] 26 4 [some (.int a0)] [] (hM p σ τ) (Eq.symm H)
  · rw [if_neg h1] at H
    refine xp_ok htr 2 (d + 6) 1 6 [eB true] 26 0 [some (.int a0)] [] (hM p σ τ) ⟨h1, ?_⟩
    show xv l Ω (d + 6) 1 6 26 12 [some (.int a0)] [] (hM p σ τ) r
    exact xp_ok htr 1 (d + 6) 1 6 [] 26 12 [some (.int a0)] [] (hM p σ τ) ⟨trivial, (Eq.symm H)⟩
/- AccessDesk.has -/
def g28 (a0 : Int32) (a1 : Int32) (σ : xS) : xO := (if ((a0 >>> (a1 &&& 31)) &&& 1) = 1 then some ((Sum.inl 1, σ)) else some ((Sum.inl 0, σ)))
theorem g28_run {l : Launch} {Ω : xo_O} (htr : xH l) (d : Nat) (p : Nat) (τ : Nat → Nat → Int64) (a0 : Int32) (a1 : Int32) (σ : xS) {q : xQ} (hq : g28 a0 a1 σ = some q) : xv l Ω d 0 0 28 0 (xs_loc (xm_l 28) [.int a0, .int a1]) [] (hM p σ τ) (xq_R false p τ q) := by
  have H : xo (xB false p τ (xq_R false p τ q)) (g28 a0 a1 σ) := by rw [hq]; exact rfl
  generalize xq_R false p τ q = r at H ⊢
  show xv l Ω d 0 0 28 0 [some (.int a0), some (.int a1)] [] (hM p σ τ) r
  unfold g28 at H
  by_cases h1 : ((a0 >>> (a1 &&& 31)) &&& 1) = 1
  · rw [if_pos h1] at H
    refine xp_ok htr 7 d 0 0 [eB false] 28 0 [some (.int a0), some (.int a1)] [] (hM p σ τ) ⟨h1, ?_⟩
    show xv l Ω d 0 0 28 9 [some (.int a0), some (.int a1)] [] (hM p σ τ) r
    exact xp_ok htr 3 d 0 0 [] 28 9 [some (.int a0), some (.int a1)] [] (hM p σ τ) ⟨Or.inr rfl, (Eq.symm H)⟩
  · rw [if_neg h1] at H
    refine xp_ok htr 7 d 0 0 [eB true] 28 0 [some (.int a0), some (.int a1)] [] (hM p σ τ) ⟨h1, ?_⟩
    show xv l Ω d 0 0 28 13 [some (.int a0), some (.int a1)] [] (hM p σ τ) r
    exact xp_ok htr 2 d 0 0 [] 28 13 [some (.int a0), some (.int a1)] [] (hM p σ τ) ⟨Or.inl rfl, (Eq.symm H)⟩
/- AccessDesk$Hierarchy.isJoined -/
def g27 (a1 : Int32) (a2 : Int32) (σ : xS) : xO := (bif xn a1 12 then (match g28 (σ 2 (Int32.toNatClampNeg a1)) a2 σ with | some (Sum.inl v2, s3) => (bif decide (v2 = 0 ∨ v2 = 1) then some ((Sum.inl v2, s3)) else none) | some (Sum.inr v2, s3) => none | none => none) else none)
theorem g27_run {l : Launch} {Ω : xo_O} (htr : xH l) (d : Nat) (p : Nat) (τ : Nat → Nat → Int64) (a1 : Int32) (a2 : Int32) (σ : xS) {q : xQ} (hq : g27 a1 a2 σ = some q) : xv l Ω (d + 1) 0 0 27 0 (xs_loc (xm_l 27) [.ref 1, .int a1, .int a2]) [] (hM p σ τ) (xq_R false p τ q) := by
  have H : xo (xB false p τ (xq_R false p τ q)) (g27 a1 a2 σ) := by rw [hq]; exact rfl
  generalize xq_R false p τ q = r at H ⊢
  show xv l Ω (d + 1) 0 0 27 0 [some (.ref 1), some (.int a1), some (.int a2)] [] (hM p σ τ) r
  unfold g27 at H
  cases g1 : xn a1 12 with
  | false => rw [g1, cond_false] at H; exact False.elim H
  | true =>
    rw [g1, cond_true] at H
    cases q4 : g28 (σ 2 (Int32.toNatClampNeg a1)) a2 σ with
    | none => rw [q4] at H; exact False.elim H
    | some q40 =>
      obtain ⟨v2 | v2, s3⟩ := q40
      · rw [q4] at H; dsimp only at H
        have hc := g28_run (Ω := Ω) htr d p τ (σ 2 (Int32.toNatClampNeg a1)) a2 σ q4
        refine xp_ok htr 6 (d + 1) 0 0 [eC (some (.int v2)) (hM p s3 τ)] 27 0 [some (.ref 1), some (.int a1), some (.int a2)] [] (hM p σ τ) ⟨(xn_in g1), hc, ?_⟩
        show xv l Ω (d + 1) 0 0 27 10 [some (.ref 1), some (.int a1), some (.int a2)] [.int v2] (hM p s3 τ) r
        cases g5 : decide (v2 = 0 ∨ v2 = 1) with
        | false => rw [g5, cond_false] at H; exact False.elim H
        | true =>
          rw [g5, cond_true] at H
          exact xp_ok htr 1 (d + 1) 0 0 [] 27 10 [some (.ref 1), some (.int a1), some (.int a2)] [.int v2] (hM p s3 τ) ⟨(xb01 g5), (Eq.symm H)⟩
      · rw [q4] at H; exact False.elim H
/- AccessDesk$Hierarchy.withJuniors -/
def g30_43 (x2 : Int32) (x3 : Int32) (x4 : Int32) (x5 : Int32) (σ : xS) : Option ((Int32 × Int32 × Int32 × Int32 × xS) ⊕ ((Int32 × Int32 × xS) ⊕ xQ)) := some (Sum.inl (x2, x3, x4, (x5 + 1), σ))
def g30_16b (x2 : Int32) (x3 : Int32) (x4 : Int32) (x5 : Int32) (σ : xS) : Option ((Int32 × Int32 × Int32 × Int32 × xS) ⊕ ((Int32 × Int32 × xS) ⊕ xQ)) := (if 12 ≤ x5 then (if x2 = x4 then some (Sum.inr (Sum.inr ((Sum.inl x2, σ)))) else some (Sum.inr (Sum.inl (x2, (x3 + 1), σ)))) else (match g28 x4 x5 σ with | some (Sum.inl v4, s5) => (if v4 = 0 then g30_43 x2 x3 x4 x5 s5 else (bif xn x5 12 then g30_43 (x2 ||| (s5 2 (Int32.toNatClampNeg x5))) x3 x4 x5 s5 else none)) | some (Sum.inr v4, s5) => none | none => none))
def g30_16 (x2 : Int32) (x3 : Int32) (x4 : Int32) (x5 : Int32) (σ : xS) : Option ((Int32 × Int32 × xS) ⊕ xQ) := xlo (fun a : Int32 × Int32 × Int32 × Int32 × xS => g30_16b a.1 a.2.1 a.2.2.1 a.2.2.2.1 a.2.2.2.2) 1000 (x2, x3, x4, x5, σ)
def g30_4b (x2 : Int32) (x3 : Int32) (σ : xS) : Option ((Int32 × Int32 × xS) ⊕ xQ) := (if 12 ≤ x3 then some (Sum.inr ((Sum.inl x2, σ))) else g30_16 x2 x3 x2 0 σ)
def g30_4 (x2 : Int32) (x3 : Int32) (σ : xS) : Option xQ := xlo (fun a : Int32 × Int32 × xS => g30_4b a.1 a.2.1 a.2.2) 1000 (x2, x3, σ)
def g30 (a1 : Int32) (σ : xS) : xO := g30_4 a1 1 σ
def a30_16 (l : Launch) (Ω : xo_O) (d p : Nat) (τ : Nat → Nat → Int64) (r : xv_R) : Int32 × Int32 × Int32 × Int32 × xS → Prop := fun a => xv l Ω (d + 1) 0 0 30 16 [some (.ref 1), none, some (.int a.1), some (.int a.2.1), some (.int a.2.2.1), some (.int a.2.2.2.1)] [] (hM p a.2.2.2.2 τ) r
def a30_4 (l : Launch) (Ω : xo_O) (d p : Nat) (τ : Nat → Nat → Int64) (r : xv_R) : Int32 × Int32 × xS → Prop := fun a => xv l Ω (d + 1) 0 0 30 4 [some (.ref 1), none, some (.int a.1), some (.int a.2.1), none, none] [] (hM p a.2.2 τ) r
theorem g30_43_ok {l : Launch} {Ω : xo_O} (htr : xH l) (d : Nat) (p : Nat) (τ : Nat → Nat → Int64) (x2 : Int32) (x3 : Int32) (x4 : Int32) (x5 : Int32) (σ : xS) (r : xv_R) (H : xo (xd (a30_16 l Ω d p τ r) (xd (a30_4 l Ω d p τ r) (xB false p τ r))) (g30_43 x2 x3 x4 x5 σ)) : xv l Ω (d + 1) 0 0 30 43 [some (.ref 1), none, some (.int x2), some (.int x3), some (.int x4), some (.int x5)] [] (hM p σ τ) r := by
  unfold g30_43 at H
  refine xp_ok htr 2 (d + 1) 0 0 [] 30 43 [some (.ref 1), none, some (.int x2), some (.int x3), some (.int x4), some (.int x5)] [] (hM p σ τ) ?_
  show xv l Ω (d + 1) 0 0 30 16 [some (.ref 1), none, some (.int x2), some (.int x3), some (.int x4), some (.int (x5 + 1))] [] (hM p σ τ) r
  exact xv_sub (L' := [some (.ref 1), none, some (.int x2), some (.int x3), some (.int x4), some (.int (x5 + 1))]) ⟨rfl, ⟨rfl, ⟨rfl, ⟨rfl, ⟨rfl, trivial⟩⟩⟩⟩⟩ H
theorem g30_16b_ok {l : Launch} {Ω : xo_O} (htr : xH l) (d : Nat) (p : Nat) (τ : Nat → Nat → Int64) (x2 : Int32) (x3 : Int32) (x4 : Int32) (x5 : Int32) (σ : xS) (r : xv_R) (H : xo (xd (a30_16 l Ω d p τ r) (xd (a30_4 l Ω d p τ r) (xB false p τ r))) (g30_16b x2 x3 x4 x5 σ)) : xv l Ω (d + 1) 0 0 30 16 [some (.ref 1), none, some (.int x2), some (.int x3), some (.int x4), some (.int x5)] [] (hM p σ τ) r := by
  unfold g30_16b at H
  by_cases h2 : 12 ≤ x5
  · rw [if_pos h2] at H
    refine xp_ok htr 3 (d + 1) 0 0 [eB true] 30 16 [some (.ref 1), none, some (.int x2), some (.int x3), some (.int x4), some (.int x5)] [] (hM p σ τ) ⟨h2, ?_⟩
    show xv l Ω (d + 1) 0 0 30 49 [some (.ref 1), none, some (.int x2), some (.int x3), some (.int x4), some (.int x5)] [] (hM p σ τ) r
    by_cases h3 : x2 = x4
    · rw [if_pos h3] at H
      refine xp_ok htr 3 (d + 1) 0 0 [eB false] 30 49 [some (.ref 1), none, some (.int x2), some (.int x3), some (.int x4), some (.int x5)] [] (hM p σ τ) ⟨h3, ?_⟩
      show xv l Ω (d + 1) 0 0 30 55 [some (.ref 1), none, some (.int x2), some (.int x3), some (.int x4), some (.int x5)] [] (hM p σ τ) r
      exact xp_ok htr 3 (d + 1) 0 0 [] 30 55 [some (.ref 1), none, some (.int x2), some (.int x3), some (.int x4), some (.int x5)] [] (hM p σ τ) ⟨trivial, (Eq.symm H)⟩
    · rw [if_neg h3] at H
      refine xp_ok htr 3 (d + 1) 0 0 [eB true] 30 49 [some (.ref 1), none, some (.int x2), some (.int x3), some (.int x4), some (.int x5)] [] (hM p σ τ) ⟨h3, ?_⟩
      show xv l Ω (d + 1) 0 0 30 58 [some (.ref 1), none, some (.int x2), some (.int x3), some (.int x4), some (.int x5)] [] (hM p σ τ) r
      refine xp_ok htr 2 (d + 1) 0 0 [] 30 58 [some (.ref 1), none, some (.int x2), some (.int x3), some (.int x4), some (.int x5)] [] (hM p σ τ) ?_
      show xv l Ω (d + 1) 0 0 30 4 [some (.ref 1), none, some (.int x2), some (.int (x3 + 1)), some (.int x4), some (.int x5)] [] (hM p σ τ) r
      exact xv_sub (L' := [some (.ref 1), none, some (.int x2), some (.int (x3 + 1)), none, none]) ⟨rfl, ⟨rfl, ⟨rfl, trivial⟩⟩⟩ H
  · rw [if_neg h2] at H
    refine xp_ok htr 3 (d + 1) 0 0 [eB false] 30 16 [some (.ref 1), none, some (.int x2), some (.int x3), some (.int x4), some (.int x5)] [] (hM p σ τ) ⟨h2, ?_⟩
    show xv l Ω (d + 1) 0 0 30 23 [some (.ref 1), none, some (.int x2), some (.int x3), some (.int x4), some (.int x5)] [] (hM p σ τ) r
    cases q6 : g28 x4 x5 σ with
    | none => rw [q6] at H; exact False.elim H
    | some q60 =>
      obtain ⟨v4 | v4, s5⟩ := q60
      · rw [q6] at H; dsimp only at H
        have hc := g28_run (Ω := Ω) htr d p τ x4 x5 σ q6
        refine xp_ok htr 3 (d + 1) 0 0 [eC (some (.int v4)) (hM p s5 τ)] 30 23 [some (.ref 1), none, some (.int x2), some (.int x3), some (.int x4), some (.int x5)] [] (hM p σ τ) ⟨hc, ?_⟩
        show xv l Ω (d + 1) 0 0 30 30 [some (.ref 1), none, some (.int x2), some (.int x3), some (.int x4), some (.int x5)] [.int v4] (hM p s5 τ) r
        by_cases h7 : v4 = 0
        · rw [if_pos h7] at H
          refine xp_ok htr 1 (d + 1) 0 0 [eB true] 30 30 [some (.ref 1), none, some (.int x2), some (.int x3), some (.int x4), some (.int x5)] [.int v4] (hM p s5 τ) ⟨h7, ?_⟩
          show xv l Ω (d + 1) 0 0 30 43 [some (.ref 1), none, some (.int x2), some (.int x3), some (.int x4), some (.int x5)] [] (hM p s5 τ) r
          exact xv_sub (L' := [some (.ref 1), none, some (.int x2), some (.int x3), some (.int x4), some (.int x5)]) ⟨rfl, ⟨rfl, ⟨rfl, ⟨rfl, ⟨rfl, trivial⟩⟩⟩⟩⟩ (g30_43_ok htr d p τ x2 x3 x4 x5 s5 r H)
        · rw [if_neg h7] at H
          refine xp_ok htr 1 (d + 1) 0 0 [eB false] 30 30 [some (.ref 1), none, some (.int x2), some (.int x3), some (.int x4), some (.int x5)] [.int v4] (hM p s5 τ) ⟨h7, ?_⟩
          show xv l Ω (d + 1) 0 0 30 33 [some (.ref 1), none, some (.int x2), some (.int x3), some (.int x4), some (.int x5)] [] (hM p s5 τ) r
          cases g8 : xn x5 12 with
          | false => rw [g8, cond_false] at H; exact False.elim H
          | true =>
            rw [g8, cond_true] at H
            refine xp_ok htr 7 (d + 1) 0 0 [] 30 33 [some (.ref 1), none, some (.int x2), some (.int x3), some (.int x4), some (.int x5)] [] (hM p s5 τ) ⟨(xn_in g8), ?_⟩
            show xv l Ω (d + 1) 0 0 30 43 [some (.ref 1), none, some (.int (x2 ||| (s5 2 (Int32.toNatClampNeg x5)))), some (.int x3), some (.int x4), some (.int x5)] [] (hM p s5 τ) r
            exact xv_sub (L' := [some (.ref 1), none, some (.int (x2 ||| (s5 2 (Int32.toNatClampNeg x5)))), some (.int x3), some (.int x4), some (.int x5)]) ⟨rfl, ⟨rfl, ⟨rfl, ⟨rfl, ⟨rfl, trivial⟩⟩⟩⟩⟩ (g30_43_ok htr d p τ (x2 ||| (s5 2 (Int32.toNatClampNeg x5))) x3 x4 x5 s5 r H)
      · rw [q6] at H; exact False.elim H
theorem g30_16_ok {l : Launch} {Ω : xo_O} (htr : xH l) (d : Nat) (p : Nat) (τ : Nat → Nat → Int64) (x2 : Int32) (x3 : Int32) (x4 : Int32) (x5 : Int32) (σ : xS) (r : xv_R) (H : xo (xd (a30_4 l Ω d p τ r) (xB false p τ r)) (g30_16 x2 x3 x4 x5 σ)) : xv l Ω (d + 1) 0 0 30 16 [some (.ref 1), none, some (.int x2), some (.int x3), some (.int x4), some (.int x5)] [] (hM p σ τ) r :=
  xlo_ok (A := a30_16 l Ω d p τ r) (fun a H => g30_16b_ok htr d p τ a.1 a.2.1 a.2.2.1 a.2.2.2.1 a.2.2.2.2 r H) 1000 (x2, x3, x4, x5, σ) H
theorem g30_4b_ok {l : Launch} {Ω : xo_O} (htr : xH l) (d : Nat) (p : Nat) (τ : Nat → Nat → Int64) (x2 : Int32) (x3 : Int32) (σ : xS) (r : xv_R) (H : xo (xd (a30_4 l Ω d p τ r) (xB false p τ r)) (g30_4b x2 x3 σ)) : xv l Ω (d + 1) 0 0 30 4 [some (.ref 1), none, some (.int x2), some (.int x3), none, none] [] (hM p σ τ) r := by
  unfold g30_4b at H
  by_cases h1 : 12 ≤ x3
  · rw [if_pos h1] at H
    refine xp_ok htr 3 (d + 1) 0 0 [eB true] 30 4 [some (.ref 1), none, some (.int x2), some (.int x3), none, none] [] (hM p σ τ) ⟨h1, ?_⟩
    show xv l Ω (d + 1) 0 0 30 64 [some (.ref 1), none, some (.int x2), some (.int x3), none, none] [] (hM p σ τ) r
    exact xp_ok htr 2 (d + 1) 0 0 [] 30 64 [some (.ref 1), none, some (.int x2), some (.int x3), none, none] [] (hM p σ τ) ⟨trivial, (Eq.symm H)⟩
  · rw [if_neg h1] at H
    refine xp_ok htr 3 (d + 1) 0 0 [eB false] 30 4 [some (.ref 1), none, some (.int x2), some (.int x3), none, none] [] (hM p σ τ) ⟨h1, ?_⟩
    show xv l Ω (d + 1) 0 0 30 10 [some (.ref 1), none, some (.int x2), some (.int x3), none, none] [] (hM p σ τ) r
    refine xp_ok htr 4 (d + 1) 0 0 [] 30 10 [some (.ref 1), none, some (.int x2), some (.int x3), none, none] [] (hM p σ τ) ?_
    show xv l Ω (d + 1) 0 0 30 16 [some (.ref 1), none, some (.int x2), some (.int x3), some (.int x2), some (.int 0)] [] (hM p σ τ) r
    exact xv_sub (L' := [some (.ref 1), none, some (.int x2), some (.int x3), some (.int x2), some (.int 0)]) ⟨rfl, ⟨rfl, ⟨rfl, ⟨rfl, ⟨rfl, trivial⟩⟩⟩⟩⟩ (g30_16_ok htr d p τ x2 x3 x2 0 σ r H)
theorem g30_4_ok {l : Launch} {Ω : xo_O} (htr : xH l) (d : Nat) (p : Nat) (τ : Nat → Nat → Int64) (x2 : Int32) (x3 : Int32) (σ : xS) (r : xv_R) (H : xo (xB false p τ r) (g30_4 x2 x3 σ)) : xv l Ω (d + 1) 0 0 30 4 [some (.ref 1), none, some (.int x2), some (.int x3), none, none] [] (hM p σ τ) r :=
  xlo_ok (A := a30_4 l Ω d p τ r) (fun a H => g30_4b_ok htr d p τ a.1 a.2.1 a.2.2 r H) 1000 (x2, x3, σ) H
theorem g30_run {l : Launch} {Ω : xo_O} (htr : xH l) (d : Nat) (p : Nat) (τ : Nat → Nat → Int64) (a1 : Int32) (σ : xS) {q : xQ} (hq : g30 a1 σ = some q) : xv l Ω (d + 1) 0 0 30 0 (xs_loc (xm_l 30) [.ref 1, .int a1]) [] (hM p σ τ) (xq_R false p τ q) := by
  have H : xo (xB false p τ (xq_R false p τ q)) (g30 a1 σ) := by rw [hq]; exact rfl
  generalize xq_R false p τ q = r at H ⊢
  show xv l Ω (d + 1) 0 0 30 0 [some (.ref 1), some (.int a1), none, none, none, none] [] (hM p σ τ) r
  unfold g30 at H
  refine xp_ok htr 4 (d + 1) 0 0 [] 30 0 [some (.ref 1), some (.int a1), none, none, none, none] [] (hM p σ τ) ?_
  show xv l Ω (d + 1) 0 0 30 4 [some (.ref 1), some (.int a1), some (.int a1), some (.int 1), none, none] [] (hM p σ τ) r
  exact xv_sub (L' := [some (.ref 1), none, some (.int a1), some (.int 1), none, none]) ⟨rfl, ⟨rfl, ⟨rfl, trivial⟩⟩⟩ (g30_4_ok htr d p τ a1 1 σ r H)
/- AccessDesk$Hierarchy.leads -/
def g29 (a1 : Int32) (a2 : Int32) (σ : xS) : xO := (match g30 (1 <<< (a1 &&& 31)) σ with | some (Sum.inl v1, s2) => (match g28 v1 a2 s2 with | some (Sum.inl v4, s5) => (bif decide (v4 = 0 ∨ v4 = 1) then some ((Sum.inl v4, s5)) else none) | some (Sum.inr v4, s5) => none | none => none) | some (Sum.inr v1, s2) => none | none => none)
theorem g29_run {l : Launch} {Ω : xo_O} (htr : xH l) (d : Nat) (p : Nat) (τ : Nat → Nat → Int64) (a1 : Int32) (a2 : Int32) (σ : xS) {q : xQ} (hq : g29 a1 a2 σ = some q) : xv l Ω (d + 2) 0 0 29 0 (xs_loc (xm_l 29) [.ref 1, .int a1, .int a2]) [] (hM p σ τ) (xq_R false p τ q) := by
  have H : xo (xB false p τ (xq_R false p τ q)) (g29 a1 a2 σ) := by rw [hq]; exact rfl
  generalize xq_R false p τ q = r at H ⊢
  show xv l Ω (d + 2) 0 0 29 0 [some (.ref 1), some (.int a1), some (.int a2)] [] (hM p σ τ) r
  unfold g29 at H
  cases q3 : g30 (1 <<< (a1 &&& 31)) σ with
  | none => rw [q3] at H; exact False.elim H
  | some q30 =>
    obtain ⟨v1 | v1, s2⟩ := q30
    · rw [q3] at H; dsimp only at H
      have hc := g30_run (Ω := Ω) htr d p τ (1 <<< (a1 &&& 31)) σ q3
      refine xp_ok htr 5 (d + 2) 0 0 [eC (some (.int v1)) (hM p s2 τ)] 29 0 [some (.ref 1), some (.int a1), some (.int a2)] [] (hM p σ τ) ⟨hc, ?_⟩
      show xv l Ω (d + 2) 0 0 29 7 [some (.ref 1), some (.int a1), some (.int a2)] [.int v1] (hM p s2 τ) r
      cases q6 : g28 v1 a2 s2 with
      | none => rw [q6] at H; exact False.elim H
      | some q60 =>
        obtain ⟨v4 | v4, s5⟩ := q60
        · rw [q6] at H; dsimp only at H
          have hc := g28_run (Ω := Ω) htr (d + 1) p τ v1 a2 s2 q6
          refine xp_ok htr 2 (d + 2) 0 0 [eC (some (.int v4)) (hM p s5 τ)] 29 7 [some (.ref 1), some (.int a1), some (.int a2)] [.int v1] (hM p s2 τ) ⟨hc, ?_⟩
          show xv l Ω (d + 2) 0 0 29 11 [some (.ref 1), some (.int a1), some (.int a2)] [.int v4] (hM p s5 τ) r
          cases g7 : decide (v4 = 0 ∨ v4 = 1) with
          | false => rw [g7, cond_false] at H; exact False.elim H
          | true =>
            rw [g7, cond_true] at H
            exact xp_ok htr 1 (d + 2) 0 0 [] 29 11 [some (.ref 1), some (.int a1), some (.int a2)] [.int v4] (hM p s5 τ) ⟨(xb01 g7), (Eq.symm H)⟩
        · rw [q6] at H; exact False.elim H
    · rw [q3] at H; exact False.elim H
/- AccessDesk.demandState -/
def g31 (a0 : Int32) (σ : xS) : xO := (if a0 = 0 then some ((Sum.inr 1, σ)) else some ((Sum.inl 0, σ)))
theorem g31_run {l : Launch} {Ω : xo_O} (htr : xH l) (d : Nat) (p : Nat) (τ : Nat → Nat → Int64) (a0 : Int32) (σ : xS) {q : xQ} (hq : g31 a0 σ = some q) : xv l Ω (d + 6) 1 6 31 0 (xs_loc (xm_l 31) [.int a0]) [] (hM p σ τ) (xq_R true p τ q) := by
  have H : xo (xB true p τ (xq_R true p τ q)) (g31 a0 σ) := by rw [hq]; exact rfl
  generalize xq_R true p τ q = r at H ⊢
  show xv l Ω (d + 6) 1 6 31 0 [some (.int a0)] [] (hM p σ τ) r
  unfold g31 at H
  by_cases h1 : a0 = 0
  · rw [if_pos h1] at H
    refine xp_ok htr 2 (d + 6) 1 6 [eB false] 31 0 [some (.int a0)] [] (hM p σ τ) ⟨h1, ?_⟩
    show xv l Ω (d + 6) 1 6 31 4 [some (.int a0)] [] (hM p σ τ) r
    exact xp_ok htr 1 (d + 6) 1 6 [] 31 4 [some (.int a0)] [] (hM p σ τ) (Eq.symm H)
  · rw [if_neg h1] at H
    refine xp_ok htr 2 (d + 6) 1 6 [eB true] 31 0 [some (.int a0)] [] (hM p σ τ) ⟨h1, ?_⟩
    show xv l Ω (d + 6) 1 6 31 12 [some (.int a0)] [] (hM p σ τ) r
    exact xp_ok htr 1 (d + 6) 1 6 [] 31 12 [some (.int a0)] [] (hM p σ τ) ⟨trivial, (Eq.symm H)⟩
/- AccessDesk$Hierarchy.join -/
def g32 (a1 : Int32) (a2 : Int32) (σ : xS) : xO := (bif xn a1 12 then some ((Sum.inl 0, (xh_ui σ 2 (Int32.toNatClampNeg a1) ((σ 2 (Int32.toNatClampNeg a1)) ||| (1 <<< (a2 &&& 31)))))) else none)
theorem g32_run {l : Launch} {Ω : xo_O} (htr : xH l) (d : Nat) (p : Nat) (τ : Nat → Nat → Int64) (a1 : Int32) (a2 : Int32) (σ : xS) {q : xQ} (hq : g32 a1 a2 σ = some q) : xv l Ω d 0 0 32 0 (xs_loc (xm_l 32) [.ref 1, .int a1, .int a2]) [] (hM p σ τ) (xq_R true p τ q) := by
  have H : xo (xB true p τ (xq_R true p τ q)) (g32 a1 a2 σ) := by rw [hq]; exact rfl
  generalize xq_R true p τ q = r at H ⊢
  show xv l Ω d 0 0 32 0 [some (.ref 1), some (.int a1), some (.int a2)] [] (hM p σ τ) r
  unfold g32 at H
  cases g1 : xn a1 12 with
  | false => rw [g1, cond_false] at H; exact False.elim H
  | true =>
    rw [g1, cond_true] at H
    refine xp_ok htr 8 d 0 0 [] 32 0 [some (.ref 1), some (.int a1), some (.int a2)] [] (hM p σ τ) ⟨(xn_in g1), ?_⟩
    show xv l Ω d 0 0 32 10 [some (.ref 1), some (.int a1), some (.int a2)] [.int (1 <<< (a2 &&& 31)), .int (σ 2 (Int32.toNatClampNeg a1)), .int a1, .ref 2] (hM p σ τ) r
    exact xp_ok htr 3 d 0 0 [] 32 10 [some (.ref 1), some (.int a1), some (.int a2)] [.int (1 <<< (a2 &&& 31)), .int (σ 2 (Int32.toNatClampNeg a1)), .int a1, .ref 2] (hM p σ τ) ⟨(xn_in g1), trivial, (Eq.symm H)⟩
/- AccessDesk.rolesOfSession -/
def g36 (a1 : Int32) (σ : xS) : xO := (bif xn a1 6 then (match g30 (σ 9 (Int32.toNatClampNeg a1)) σ with | some (Sum.inl v2, s3) => some ((Sum.inl v2, s3)) | some (Sum.inr v2, s3) => none | none => none) else none)
theorem g36_run {l : Launch} {Ω : xo_O} (htr : xH l) (d : Nat) (p : Nat) (τ : Nat → Nat → Int64) (a1 : Int32) (σ : xS) {q : xQ} (hq : g36 a1 σ = some q) : xv l Ω (d + 2) 0 0 36 0 (xs_loc (xm_l 36) [.ref 0, .int a1]) [] (hM p σ τ) (xq_R false p τ q) := by
  have H : xo (xB false p τ (xq_R false p τ q)) (g36 a1 σ) := by rw [hq]; exact rfl
  generalize xq_R false p τ q = r at H ⊢
  show xv l Ω (d + 2) 0 0 36 0 [some (.ref 0), some (.int a1)] [] (hM p σ τ) r
  unfold g36 at H
  cases g1 : xn a1 6 with
  | false => rw [g1, cond_false] at H; exact False.elim H
  | true =>
    rw [g1, cond_true] at H
    cases q4 : g30 (σ 9 (Int32.toNatClampNeg a1)) σ with
    | none => rw [q4] at H; exact False.elim H
    | some q40 =>
      obtain ⟨v2 | v2, s3⟩ := q40
      · rw [q4] at H; dsimp only at H
        have hc := g30_run (Ω := Ω) htr d p τ (σ 9 (Int32.toNatClampNeg a1)) σ q4
        refine xp_ok htr 8 (d + 2) 0 0 [eC (some (.int v2)) (hM p s3 τ)] 36 0 [some (.ref 0), some (.int a1)] [] (hM p σ τ) ⟨(xn_in g1), hc, ?_⟩
        show xv l Ω (d + 2) 0 0 36 16 [some (.ref 0), some (.int a1)] [.int v2] (hM p s3 τ) r
        exact xp_ok htr 1 (d + 2) 0 0 [] 36 16 [some (.ref 0), some (.int a1)] [.int v2] (hM p s3 τ) ⟨trivial, (Eq.symm H)⟩
      · rw [q4] at H; exact False.elim H
/- java/lang/Integer.bitCount -/
def g37 (a0 : Int32) (σ : xS) : xO := some ((Sum.inl ((((((((a0 - ((Int32.toUInt32 a0 >>> (Int32.toUInt32 1 &&& Int32.toUInt32 31)).toInt32 &&& 1431655765)) &&& 858993459) + ((Int32.toUInt32 (a0 - ((Int32.toUInt32 a0 >>> (Int32.toUInt32 1 &&& Int32.toUInt32 31)).toInt32 &&& 1431655765)) >>> (Int32.toUInt32 2 &&& Int32.toUInt32 31)).toInt32 &&& 858993459)) + (Int32.toUInt32 (((a0 - ((Int32.toUInt32 a0 >>> (Int32.toUInt32 1 &&& Int32.toUInt32 31)).toInt32 &&& 1431655765)) &&& 858993459) + ((Int32.toUInt32 (a0 - ((Int32.toUInt32 a0 >>> (Int32.toUInt32 1 &&& Int32.toUInt32 31)).toInt32 &&& 1431655765)) >>> (Int32.toUInt32 2 &&& Int32.toUInt32 31)).toInt32 &&& 858993459)) >>> (Int32.toUInt32 4 &&& Int32.toUInt32 31)).toInt32) &&& 252645135) + (Int32.toUInt32 (((((a0 - ((Int32.toUInt32 a0 >>> (Int32.toUInt32 1 &&& Int32.toUInt32 31)).toInt32 &&& 1431655765)) &&& 858993459) + ((Int32.toUInt32 (a0 - ((Int32.toUInt32 a0 >>> (Int32.toUInt32 1 &&& Int32.toUInt32 31)).toInt32 &&& 1431655765)) >>> (Int32.toUInt32 2 &&& Int32.toUInt32 31)).toInt32 &&& 858993459)) + (Int32.toUInt32 (((a0 - ((Int32.toUInt32 a0 >>> (Int32.toUInt32 1 &&& Int32.toUInt32 31)).toInt32 &&& 1431655765)) &&& 858993459) + ((Int32.toUInt32 (a0 - ((Int32.toUInt32 a0 >>> (Int32.toUInt32 1 &&& Int32.toUInt32 31)).toInt32 &&& 1431655765)) >>> (Int32.toUInt32 2 &&& Int32.toUInt32 31)).toInt32 &&& 858993459)) >>> (Int32.toUInt32 4 &&& Int32.toUInt32 31)).toInt32) &&& 252645135) >>> (Int32.toUInt32 8 &&& Int32.toUInt32 31)).toInt32) + (Int32.toUInt32 ((((((a0 - ((Int32.toUInt32 a0 >>> (Int32.toUInt32 1 &&& Int32.toUInt32 31)).toInt32 &&& 1431655765)) &&& 858993459) + ((Int32.toUInt32 (a0 - ((Int32.toUInt32 a0 >>> (Int32.toUInt32 1 &&& Int32.toUInt32 31)).toInt32 &&& 1431655765)) >>> (Int32.toUInt32 2 &&& Int32.toUInt32 31)).toInt32 &&& 858993459)) + (Int32.toUInt32 (((a0 - ((Int32.toUInt32 a0 >>> (Int32.toUInt32 1 &&& Int32.toUInt32 31)).toInt32 &&& 1431655765)) &&& 858993459) + ((Int32.toUInt32 (a0 - ((Int32.toUInt32 a0 >>> (Int32.toUInt32 1 &&& Int32.toUInt32 31)).toInt32 &&& 1431655765)) >>> (Int32.toUInt32 2 &&& Int32.toUInt32 31)).toInt32 &&& 858993459)) >>> (Int32.toUInt32 4 &&& Int32.toUInt32 31)).toInt32) &&& 252645135) + (Int32.toUInt32 (((((a0 - ((Int32.toUInt32 a0 >>> (Int32.toUInt32 1 &&& Int32.toUInt32 31)).toInt32 &&& 1431655765)) &&& 858993459) + ((Int32.toUInt32 (a0 - ((Int32.toUInt32 a0 >>> (Int32.toUInt32 1 &&& Int32.toUInt32 31)).toInt32 &&& 1431655765)) >>> (Int32.toUInt32 2 &&& Int32.toUInt32 31)).toInt32 &&& 858993459)) + (Int32.toUInt32 (((a0 - ((Int32.toUInt32 a0 >>> (Int32.toUInt32 1 &&& Int32.toUInt32 31)).toInt32 &&& 1431655765)) &&& 858993459) + ((Int32.toUInt32 (a0 - ((Int32.toUInt32 a0 >>> (Int32.toUInt32 1 &&& Int32.toUInt32 31)).toInt32 &&& 1431655765)) >>> (Int32.toUInt32 2 &&& Int32.toUInt32 31)).toInt32 &&& 858993459)) >>> (Int32.toUInt32 4 &&& Int32.toUInt32 31)).toInt32) &&& 252645135) >>> (Int32.toUInt32 8 &&& Int32.toUInt32 31)).toInt32) >>> (Int32.toUInt32 16 &&& Int32.toUInt32 31)).toInt32) &&& 63), σ))
theorem g37_run {l : Launch} {Ω : xo_O} (htr : xH l) (d : Nat) (p : Nat) (τ : Nat → Nat → Int64) (a0 : Int32) (σ : xS) {q : xQ} (hq : g37 a0 σ = some q) : xv l Ω d 0 0 37 0 (xs_loc (xm_l 37) [.int a0]) [] (hM p σ τ) (xq_R false p τ q) := by
  have H : xo (xB false p τ (xq_R false p τ q)) (g37 a0 σ) := by rw [hq]; exact rfl
  generalize xq_R false p τ q = r at H ⊢
  show xv l Ω d 0 0 37 0 [some (.int a0)] [] (hM p σ τ) r
  unfold g37 at H
  refine xp_ok htr 8 d 0 0 [] 37 0 [some (.int a0)] [] (hM p σ τ) ?_
  show xv l Ω d 0 0 37 10 [some (.int (a0 - ((Int32.toUInt32 a0 >>> (Int32.toUInt32 1 &&& Int32.toUInt32 31)).toInt32 &&& 1431655765)))] [] (hM p σ τ) r
  refine xp_ok htr 8 d 0 0 [] 37 10 [some (.int (a0 - ((Int32.toUInt32 a0 >>> (Int32.toUInt32 1 &&& Int32.toUInt32 31)).toInt32 &&& 1431655765)))] [] (hM p σ τ) ?_
  show xv l Ω d 0 0 37 22 [some (.int (a0 - ((Int32.toUInt32 a0 >>> (Int32.toUInt32 1 &&& Int32.toUInt32 31)).toInt32 &&& 1431655765)))] [.int ((Int32.toUInt32 (a0 - ((Int32.toUInt32 a0 >>> (Int32.toUInt32 1 &&& Int32.toUInt32 31)).toInt32 &&& 1431655765)) >>> (Int32.toUInt32 2 &&& Int32.toUInt32 31)).toInt32 &&& 858993459), .int ((a0 - ((Int32.toUInt32 a0 >>> (Int32.toUInt32 1 &&& Int32.toUInt32 31)).toInt32 &&& 1431655765)) &&& 858993459)] (hM p σ τ) r
  refine xp_ok htr 8 d 0 0 [] 37 22 [some (.int (a0 - ((Int32.toUInt32 a0 >>> (Int32.toUInt32 1 &&& Int32.toUInt32 31)).toInt32 &&& 1431655765)))] [.int ((Int32.toUInt32 (a0 - ((Int32.toUInt32 a0 >>> (Int32.toUInt32 1 &&& Int32.toUInt32 31)).toInt32 &&& 1431655765)) >>> (Int32.toUInt32 2 &&& Int32.toUInt32 31)).toInt32 &&& 858993459), .int ((a0 - ((Int32.toUInt32 a0 >>> (Int32.toUInt32 1 &&& Int32.toUInt32 31)).toInt32 &&& 1431655765)) &&& 858993459)] (hM p σ τ) ?_
  show xv l Ω d 0 0 37 32 [some (.int (((a0 - ((Int32.toUInt32 a0 >>> (Int32.toUInt32 1 &&& Int32.toUInt32 31)).toInt32 &&& 1431655765)) &&& 858993459) + ((Int32.toUInt32 (a0 - ((Int32.toUInt32 a0 >>> (Int32.toUInt32 1 &&& Int32.toUInt32 31)).toInt32 &&& 1431655765)) >>> (Int32.toUInt32 2 &&& Int32.toUInt32 31)).toInt32 &&& 858993459)))] [.int 252645135, .int ((((a0 - ((Int32.toUInt32 a0 >>> (Int32.toUInt32 1 &&& Int32.toUInt32 31)).toInt32 &&& 1431655765)) &&& 858993459) + ((Int32.toUInt32 (a0 - ((Int32.toUInt32 a0 >>> (Int32.toUInt32 1 &&& Int32.toUInt32 31)).toInt32 &&& 1431655765)) >>> (Int32.toUInt32 2 &&& Int32.toUInt32 31)).toInt32 &&& 858993459)) + (Int32.toUInt32 (((a0 - ((Int32.toUInt32 a0 >>> (Int32.toUInt32 1 &&& Int32.toUInt32 31)).toInt32 &&& 1431655765)) &&& 858993459) + ((Int32.toUInt32 (a0 - ((Int32.toUInt32 a0 >>> (Int32.toUInt32 1 &&& Int32.toUInt32 31)).toInt32 &&& 1431655765)) >>> (Int32.toUInt32 2 &&& Int32.toUInt32 31)).toInt32 &&& 858993459)) >>> (Int32.toUInt32 4 &&& Int32.toUInt32 31)).toInt32)] (hM p σ τ) r
  refine xp_ok htr 8 d 0 0 [] 37 32 [some (.int (((a0 - ((Int32.toUInt32 a0 >>> (Int32.toUInt32 1 &&& Int32.toUInt32 31)).toInt32 &&& 1431655765)) &&& 858993459) + ((Int32.toUInt32 (a0 - ((Int32.toUInt32 a0 >>> (Int32.toUInt32 1 &&& Int32.toUInt32 31)).toInt32 &&& 1431655765)) >>> (Int32.toUInt32 2 &&& Int32.toUInt32 31)).toInt32 &&& 858993459)))] [.int 252645135, .int ((((a0 - ((Int32.toUInt32 a0 >>> (Int32.toUInt32 1 &&& Int32.toUInt32 31)).toInt32 &&& 1431655765)) &&& 858993459) + ((Int32.toUInt32 (a0 - ((Int32.toUInt32 a0 >>> (Int32.toUInt32 1 &&& Int32.toUInt32 31)).toInt32 &&& 1431655765)) >>> (Int32.toUInt32 2 &&& Int32.toUInt32 31)).toInt32 &&& 858993459)) + (Int32.toUInt32 (((a0 - ((Int32.toUInt32 a0 >>> (Int32.toUInt32 1 &&& Int32.toUInt32 31)).toInt32 &&& 1431655765)) &&& 858993459) + ((Int32.toUInt32 (a0 - ((Int32.toUInt32 a0 >>> (Int32.toUInt32 1 &&& Int32.toUInt32 31)).toInt32 &&& 1431655765)) >>> (Int32.toUInt32 2 &&& Int32.toUInt32 31)).toInt32 &&& 858993459)) >>> (Int32.toUInt32 4 &&& Int32.toUInt32 31)).toInt32)] (hM p σ τ) ?_
  show xv l Ω d 0 0 37 41 [some (.int ((((((a0 - ((Int32.toUInt32 a0 >>> (Int32.toUInt32 1 &&& Int32.toUInt32 31)).toInt32 &&& 1431655765)) &&& 858993459) + ((Int32.toUInt32 (a0 - ((Int32.toUInt32 a0 >>> (Int32.toUInt32 1 &&& Int32.toUInt32 31)).toInt32 &&& 1431655765)) >>> (Int32.toUInt32 2 &&& Int32.toUInt32 31)).toInt32 &&& 858993459)) + (Int32.toUInt32 (((a0 - ((Int32.toUInt32 a0 >>> (Int32.toUInt32 1 &&& Int32.toUInt32 31)).toInt32 &&& 1431655765)) &&& 858993459) + ((Int32.toUInt32 (a0 - ((Int32.toUInt32 a0 >>> (Int32.toUInt32 1 &&& Int32.toUInt32 31)).toInt32 &&& 1431655765)) >>> (Int32.toUInt32 2 &&& Int32.toUInt32 31)).toInt32 &&& 858993459)) >>> (Int32.toUInt32 4 &&& Int32.toUInt32 31)).toInt32) &&& 252645135) + (Int32.toUInt32 (((((a0 - ((Int32.toUInt32 a0 >>> (Int32.toUInt32 1 &&& Int32.toUInt32 31)).toInt32 &&& 1431655765)) &&& 858993459) + ((Int32.toUInt32 (a0 - ((Int32.toUInt32 a0 >>> (Int32.toUInt32 1 &&& Int32.toUInt32 31)).toInt32 &&& 1431655765)) >>> (Int32.toUInt32 2 &&& Int32.toUInt32 31)).toInt32 &&& 858993459)) + (Int32.toUInt32 (((a0 - ((Int32.toUInt32 a0 >>> (Int32.toUInt32 1 &&& Int32.toUInt32 31)).toInt32 &&& 1431655765)) &&& 858993459) + ((Int32.toUInt32 (a0 - ((Int32.toUInt32 a0 >>> (Int32.toUInt32 1 &&& Int32.toUInt32 31)).toInt32 &&& 1431655765)) >>> (Int32.toUInt32 2 &&& Int32.toUInt32 31)).toInt32 &&& 858993459)) >>> (Int32.toUInt32 4 &&& Int32.toUInt32 31)).toInt32) &&& 252645135) >>> (Int32.toUInt32 8 &&& Int32.toUInt32 31)).toInt32))] [] (hM p σ τ) r
  refine xp_ok htr 8 d 0 0 [] 37 41 [some (.int ((((((a0 - ((Int32.toUInt32 a0 >>> (Int32.toUInt32 1 &&& Int32.toUInt32 31)).toInt32 &&& 1431655765)) &&& 858993459) + ((Int32.toUInt32 (a0 - ((Int32.toUInt32 a0 >>> (Int32.toUInt32 1 &&& Int32.toUInt32 31)).toInt32 &&& 1431655765)) >>> (Int32.toUInt32 2 &&& Int32.toUInt32 31)).toInt32 &&& 858993459)) + (Int32.toUInt32 (((a0 - ((Int32.toUInt32 a0 >>> (Int32.toUInt32 1 &&& Int32.toUInt32 31)).toInt32 &&& 1431655765)) &&& 858993459) + ((Int32.toUInt32 (a0 - ((Int32.toUInt32 a0 >>> (Int32.toUInt32 1 &&& Int32.toUInt32 31)).toInt32 &&& 1431655765)) >>> (Int32.toUInt32 2 &&& Int32.toUInt32 31)).toInt32 &&& 858993459)) >>> (Int32.toUInt32 4 &&& Int32.toUInt32 31)).toInt32) &&& 252645135) + (Int32.toUInt32 (((((a0 - ((Int32.toUInt32 a0 >>> (Int32.toUInt32 1 &&& Int32.toUInt32 31)).toInt32 &&& 1431655765)) &&& 858993459) + ((Int32.toUInt32 (a0 - ((Int32.toUInt32 a0 >>> (Int32.toUInt32 1 &&& Int32.toUInt32 31)).toInt32 &&& 1431655765)) >>> (Int32.toUInt32 2 &&& Int32.toUInt32 31)).toInt32 &&& 858993459)) + (Int32.toUInt32 (((a0 - ((Int32.toUInt32 a0 >>> (Int32.toUInt32 1 &&& Int32.toUInt32 31)).toInt32 &&& 1431655765)) &&& 858993459) + ((Int32.toUInt32 (a0 - ((Int32.toUInt32 a0 >>> (Int32.toUInt32 1 &&& Int32.toUInt32 31)).toInt32 &&& 1431655765)) >>> (Int32.toUInt32 2 &&& Int32.toUInt32 31)).toInt32 &&& 858993459)) >>> (Int32.toUInt32 4 &&& Int32.toUInt32 31)).toInt32) &&& 252645135) >>> (Int32.toUInt32 8 &&& Int32.toUInt32 31)).toInt32))] [] (hM p σ τ) ?_
  show xv l Ω d 0 0 37 51 [some (.int (((((((a0 - ((Int32.toUInt32 a0 >>> (Int32.toUInt32 1 &&& Int32.toUInt32 31)).toInt32 &&& 1431655765)) &&& 858993459) + ((Int32.toUInt32 (a0 - ((Int32.toUInt32 a0 >>> (Int32.toUInt32 1 &&& Int32.toUInt32 31)).toInt32 &&& 1431655765)) >>> (Int32.toUInt32 2 &&& Int32.toUInt32 31)).toInt32 &&& 858993459)) + (Int32.toUInt32 (((a0 - ((Int32.toUInt32 a0 >>> (Int32.toUInt32 1 &&& Int32.toUInt32 31)).toInt32 &&& 1431655765)) &&& 858993459) + ((Int32.toUInt32 (a0 - ((Int32.toUInt32 a0 >>> (Int32.toUInt32 1 &&& Int32.toUInt32 31)).toInt32 &&& 1431655765)) >>> (Int32.toUInt32 2 &&& Int32.toUInt32 31)).toInt32 &&& 858993459)) >>> (Int32.toUInt32 4 &&& Int32.toUInt32 31)).toInt32) &&& 252645135) + (Int32.toUInt32 (((((a0 - ((Int32.toUInt32 a0 >>> (Int32.toUInt32 1 &&& Int32.toUInt32 31)).toInt32 &&& 1431655765)) &&& 858993459) + ((Int32.toUInt32 (a0 - ((Int32.toUInt32 a0 >>> (Int32.toUInt32 1 &&& Int32.toUInt32 31)).toInt32 &&& 1431655765)) >>> (Int32.toUInt32 2 &&& Int32.toUInt32 31)).toInt32 &&& 858993459)) + (Int32.toUInt32 (((a0 - ((Int32.toUInt32 a0 >>> (Int32.toUInt32 1 &&& Int32.toUInt32 31)).toInt32 &&& 1431655765)) &&& 858993459) + ((Int32.toUInt32 (a0 - ((Int32.toUInt32 a0 >>> (Int32.toUInt32 1 &&& Int32.toUInt32 31)).toInt32 &&& 1431655765)) >>> (Int32.toUInt32 2 &&& Int32.toUInt32 31)).toInt32 &&& 858993459)) >>> (Int32.toUInt32 4 &&& Int32.toUInt32 31)).toInt32) &&& 252645135) >>> (Int32.toUInt32 8 &&& Int32.toUInt32 31)).toInt32) + (Int32.toUInt32 ((((((a0 - ((Int32.toUInt32 a0 >>> (Int32.toUInt32 1 &&& Int32.toUInt32 31)).toInt32 &&& 1431655765)) &&& 858993459) + ((Int32.toUInt32 (a0 - ((Int32.toUInt32 a0 >>> (Int32.toUInt32 1 &&& Int32.toUInt32 31)).toInt32 &&& 1431655765)) >>> (Int32.toUInt32 2 &&& Int32.toUInt32 31)).toInt32 &&& 858993459)) + (Int32.toUInt32 (((a0 - ((Int32.toUInt32 a0 >>> (Int32.toUInt32 1 &&& Int32.toUInt32 31)).toInt32 &&& 1431655765)) &&& 858993459) + ((Int32.toUInt32 (a0 - ((Int32.toUInt32 a0 >>> (Int32.toUInt32 1 &&& Int32.toUInt32 31)).toInt32 &&& 1431655765)) >>> (Int32.toUInt32 2 &&& Int32.toUInt32 31)).toInt32 &&& 858993459)) >>> (Int32.toUInt32 4 &&& Int32.toUInt32 31)).toInt32) &&& 252645135) + (Int32.toUInt32 (((((a0 - ((Int32.toUInt32 a0 >>> (Int32.toUInt32 1 &&& Int32.toUInt32 31)).toInt32 &&& 1431655765)) &&& 858993459) + ((Int32.toUInt32 (a0 - ((Int32.toUInt32 a0 >>> (Int32.toUInt32 1 &&& Int32.toUInt32 31)).toInt32 &&& 1431655765)) >>> (Int32.toUInt32 2 &&& Int32.toUInt32 31)).toInt32 &&& 858993459)) + (Int32.toUInt32 (((a0 - ((Int32.toUInt32 a0 >>> (Int32.toUInt32 1 &&& Int32.toUInt32 31)).toInt32 &&& 1431655765)) &&& 858993459) + ((Int32.toUInt32 (a0 - ((Int32.toUInt32 a0 >>> (Int32.toUInt32 1 &&& Int32.toUInt32 31)).toInt32 &&& 1431655765)) >>> (Int32.toUInt32 2 &&& Int32.toUInt32 31)).toInt32 &&& 858993459)) >>> (Int32.toUInt32 4 &&& Int32.toUInt32 31)).toInt32) &&& 252645135) >>> (Int32.toUInt32 8 &&& Int32.toUInt32 31)).toInt32) >>> (Int32.toUInt32 16 &&& Int32.toUInt32 31)).toInt32))] [.int 63, .int (((((((a0 - ((Int32.toUInt32 a0 >>> (Int32.toUInt32 1 &&& Int32.toUInt32 31)).toInt32 &&& 1431655765)) &&& 858993459) + ((Int32.toUInt32 (a0 - ((Int32.toUInt32 a0 >>> (Int32.toUInt32 1 &&& Int32.toUInt32 31)).toInt32 &&& 1431655765)) >>> (Int32.toUInt32 2 &&& Int32.toUInt32 31)).toInt32 &&& 858993459)) + (Int32.toUInt32 (((a0 - ((Int32.toUInt32 a0 >>> (Int32.toUInt32 1 &&& Int32.toUInt32 31)).toInt32 &&& 1431655765)) &&& 858993459) + ((Int32.toUInt32 (a0 - ((Int32.toUInt32 a0 >>> (Int32.toUInt32 1 &&& Int32.toUInt32 31)).toInt32 &&& 1431655765)) >>> (Int32.toUInt32 2 &&& Int32.toUInt32 31)).toInt32 &&& 858993459)) >>> (Int32.toUInt32 4 &&& Int32.toUInt32 31)).toInt32) &&& 252645135) + (Int32.toUInt32 (((((a0 - ((Int32.toUInt32 a0 >>> (Int32.toUInt32 1 &&& Int32.toUInt32 31)).toInt32 &&& 1431655765)) &&& 858993459) + ((Int32.toUInt32 (a0 - ((Int32.toUInt32 a0 >>> (Int32.toUInt32 1 &&& Int32.toUInt32 31)).toInt32 &&& 1431655765)) >>> (Int32.toUInt32 2 &&& Int32.toUInt32 31)).toInt32 &&& 858993459)) + (Int32.toUInt32 (((a0 - ((Int32.toUInt32 a0 >>> (Int32.toUInt32 1 &&& Int32.toUInt32 31)).toInt32 &&& 1431655765)) &&& 858993459) + ((Int32.toUInt32 (a0 - ((Int32.toUInt32 a0 >>> (Int32.toUInt32 1 &&& Int32.toUInt32 31)).toInt32 &&& 1431655765)) >>> (Int32.toUInt32 2 &&& Int32.toUInt32 31)).toInt32 &&& 858993459)) >>> (Int32.toUInt32 4 &&& Int32.toUInt32 31)).toInt32) &&& 252645135) >>> (Int32.toUInt32 8 &&& Int32.toUInt32 31)).toInt32) + (Int32.toUInt32 ((((((a0 - ((Int32.toUInt32 a0 >>> (Int32.toUInt32 1 &&& Int32.toUInt32 31)).toInt32 &&& 1431655765)) &&& 858993459) + ((Int32.toUInt32 (a0 - ((Int32.toUInt32 a0 >>> (Int32.toUInt32 1 &&& Int32.toUInt32 31)).toInt32 &&& 1431655765)) >>> (Int32.toUInt32 2 &&& Int32.toUInt32 31)).toInt32 &&& 858993459)) + (Int32.toUInt32 (((a0 - ((Int32.toUInt32 a0 >>> (Int32.toUInt32 1 &&& Int32.toUInt32 31)).toInt32 &&& 1431655765)) &&& 858993459) + ((Int32.toUInt32 (a0 - ((Int32.toUInt32 a0 >>> (Int32.toUInt32 1 &&& Int32.toUInt32 31)).toInt32 &&& 1431655765)) >>> (Int32.toUInt32 2 &&& Int32.toUInt32 31)).toInt32 &&& 858993459)) >>> (Int32.toUInt32 4 &&& Int32.toUInt32 31)).toInt32) &&& 252645135) + (Int32.toUInt32 (((((a0 - ((Int32.toUInt32 a0 >>> (Int32.toUInt32 1 &&& Int32.toUInt32 31)).toInt32 &&& 1431655765)) &&& 858993459) + ((Int32.toUInt32 (a0 - ((Int32.toUInt32 a0 >>> (Int32.toUInt32 1 &&& Int32.toUInt32 31)).toInt32 &&& 1431655765)) >>> (Int32.toUInt32 2 &&& Int32.toUInt32 31)).toInt32 &&& 858993459)) + (Int32.toUInt32 (((a0 - ((Int32.toUInt32 a0 >>> (Int32.toUInt32 1 &&& Int32.toUInt32 31)).toInt32 &&& 1431655765)) &&& 858993459) + ((Int32.toUInt32 (a0 - ((Int32.toUInt32 a0 >>> (Int32.toUInt32 1 &&& Int32.toUInt32 31)).toInt32 &&& 1431655765)) >>> (Int32.toUInt32 2 &&& Int32.toUInt32 31)).toInt32 &&& 858993459)) >>> (Int32.toUInt32 4 &&& Int32.toUInt32 31)).toInt32) &&& 252645135) >>> (Int32.toUInt32 8 &&& Int32.toUInt32 31)).toInt32) >>> (Int32.toUInt32 16 &&& Int32.toUInt32 31)).toInt32)] (hM p σ τ) r
  exact xp_ok htr 2 d 0 0 [] 37 51 [some (.int (((((((a0 - ((Int32.toUInt32 a0 >>> (Int32.toUInt32 1 &&& Int32.toUInt32 31)).toInt32 &&& 1431655765)) &&& 858993459) + ((Int32.toUInt32 (a0 - ((Int32.toUInt32 a0 >>> (Int32.toUInt32 1 &&& Int32.toUInt32 31)).toInt32 &&& 1431655765)) >>> (Int32.toUInt32 2 &&& Int32.toUInt32 31)).toInt32 &&& 858993459)) + (Int32.toUInt32 (((a0 - ((Int32.toUInt32 a0 >>> (Int32.toUInt32 1 &&& Int32.toUInt32 31)).toInt32 &&& 1431655765)) &&& 858993459) + ((Int32.toUInt32 (a0 - ((Int32.toUInt32 a0 >>> (Int32.toUInt32 1 &&& Int32.toUInt32 31)).toInt32 &&& 1431655765)) >>> (Int32.toUInt32 2 &&& Int32.toUInt32 31)).toInt32 &&& 858993459)) >>> (Int32.toUInt32 4 &&& Int32.toUInt32 31)).toInt32) &&& 252645135) + (Int32.toUInt32 (((((a0 - ((Int32.toUInt32 a0 >>> (Int32.toUInt32 1 &&& Int32.toUInt32 31)).toInt32 &&& 1431655765)) &&& 858993459) + ((Int32.toUInt32 (a0 - ((Int32.toUInt32 a0 >>> (Int32.toUInt32 1 &&& Int32.toUInt32 31)).toInt32 &&& 1431655765)) >>> (Int32.toUInt32 2 &&& Int32.toUInt32 31)).toInt32 &&& 858993459)) + (Int32.toUInt32 (((a0 - ((Int32.toUInt32 a0 >>> (Int32.toUInt32 1 &&& Int32.toUInt32 31)).toInt32 &&& 1431655765)) &&& 858993459) + ((Int32.toUInt32 (a0 - ((Int32.toUInt32 a0 >>> (Int32.toUInt32 1 &&& Int32.toUInt32 31)).toInt32 &&& 1431655765)) >>> (Int32.toUInt32 2 &&& Int32.toUInt32 31)).toInt32 &&& 858993459)) >>> (Int32.toUInt32 4 &&& Int32.toUInt32 31)).toInt32) &&& 252645135) >>> (Int32.toUInt32 8 &&& Int32.toUInt32 31)).toInt32) + (Int32.toUInt32 ((((((a0 - ((Int32.toUInt32 a0 >>> (Int32.toUInt32 1 &&& Int32.toUInt32 31)).toInt32 &&& 1431655765)) &&& 858993459) + ((Int32.toUInt32 (a0 - ((Int32.toUInt32 a0 >>> (Int32.toUInt32 1 &&& Int32.toUInt32 31)).toInt32 &&& 1431655765)) >>> (Int32.toUInt32 2 &&& Int32.toUInt32 31)).toInt32 &&& 858993459)) + (Int32.toUInt32 (((a0 - ((Int32.toUInt32 a0 >>> (Int32.toUInt32 1 &&& Int32.toUInt32 31)).toInt32 &&& 1431655765)) &&& 858993459) + ((Int32.toUInt32 (a0 - ((Int32.toUInt32 a0 >>> (Int32.toUInt32 1 &&& Int32.toUInt32 31)).toInt32 &&& 1431655765)) >>> (Int32.toUInt32 2 &&& Int32.toUInt32 31)).toInt32 &&& 858993459)) >>> (Int32.toUInt32 4 &&& Int32.toUInt32 31)).toInt32) &&& 252645135) + (Int32.toUInt32 (((((a0 - ((Int32.toUInt32 a0 >>> (Int32.toUInt32 1 &&& Int32.toUInt32 31)).toInt32 &&& 1431655765)) &&& 858993459) + ((Int32.toUInt32 (a0 - ((Int32.toUInt32 a0 >>> (Int32.toUInt32 1 &&& Int32.toUInt32 31)).toInt32 &&& 1431655765)) >>> (Int32.toUInt32 2 &&& Int32.toUInt32 31)).toInt32 &&& 858993459)) + (Int32.toUInt32 (((a0 - ((Int32.toUInt32 a0 >>> (Int32.toUInt32 1 &&& Int32.toUInt32 31)).toInt32 &&& 1431655765)) &&& 858993459) + ((Int32.toUInt32 (a0 - ((Int32.toUInt32 a0 >>> (Int32.toUInt32 1 &&& Int32.toUInt32 31)).toInt32 &&& 1431655765)) >>> (Int32.toUInt32 2 &&& Int32.toUInt32 31)).toInt32 &&& 858993459)) >>> (Int32.toUInt32 4 &&& Int32.toUInt32 31)).toInt32) &&& 252645135) >>> (Int32.toUInt32 8 &&& Int32.toUInt32 31)).toInt32) >>> (Int32.toUInt32 16 &&& Int32.toUInt32 31)).toInt32))] [.int 63, .int (((((((a0 - ((Int32.toUInt32 a0 >>> (Int32.toUInt32 1 &&& Int32.toUInt32 31)).toInt32 &&& 1431655765)) &&& 858993459) + ((Int32.toUInt32 (a0 - ((Int32.toUInt32 a0 >>> (Int32.toUInt32 1 &&& Int32.toUInt32 31)).toInt32 &&& 1431655765)) >>> (Int32.toUInt32 2 &&& Int32.toUInt32 31)).toInt32 &&& 858993459)) + (Int32.toUInt32 (((a0 - ((Int32.toUInt32 a0 >>> (Int32.toUInt32 1 &&& Int32.toUInt32 31)).toInt32 &&& 1431655765)) &&& 858993459) + ((Int32.toUInt32 (a0 - ((Int32.toUInt32 a0 >>> (Int32.toUInt32 1 &&& Int32.toUInt32 31)).toInt32 &&& 1431655765)) >>> (Int32.toUInt32 2 &&& Int32.toUInt32 31)).toInt32 &&& 858993459)) >>> (Int32.toUInt32 4 &&& Int32.toUInt32 31)).toInt32) &&& 252645135) + (Int32.toUInt32 (((((a0 - ((Int32.toUInt32 a0 >>> (Int32.toUInt32 1 &&& Int32.toUInt32 31)).toInt32 &&& 1431655765)) &&& 858993459) + ((Int32.toUInt32 (a0 - ((Int32.toUInt32 a0 >>> (Int32.toUInt32 1 &&& Int32.toUInt32 31)).toInt32 &&& 1431655765)) >>> (Int32.toUInt32 2 &&& Int32.toUInt32 31)).toInt32 &&& 858993459)) + (Int32.toUInt32 (((a0 - ((Int32.toUInt32 a0 >>> (Int32.toUInt32 1 &&& Int32.toUInt32 31)).toInt32 &&& 1431655765)) &&& 858993459) + ((Int32.toUInt32 (a0 - ((Int32.toUInt32 a0 >>> (Int32.toUInt32 1 &&& Int32.toUInt32 31)).toInt32 &&& 1431655765)) >>> (Int32.toUInt32 2 &&& Int32.toUInt32 31)).toInt32 &&& 858993459)) >>> (Int32.toUInt32 4 &&& Int32.toUInt32 31)).toInt32) &&& 252645135) >>> (Int32.toUInt32 8 &&& Int32.toUInt32 31)).toInt32) + (Int32.toUInt32 ((((((a0 - ((Int32.toUInt32 a0 >>> (Int32.toUInt32 1 &&& Int32.toUInt32 31)).toInt32 &&& 1431655765)) &&& 858993459) + ((Int32.toUInt32 (a0 - ((Int32.toUInt32 a0 >>> (Int32.toUInt32 1 &&& Int32.toUInt32 31)).toInt32 &&& 1431655765)) >>> (Int32.toUInt32 2 &&& Int32.toUInt32 31)).toInt32 &&& 858993459)) + (Int32.toUInt32 (((a0 - ((Int32.toUInt32 a0 >>> (Int32.toUInt32 1 &&& Int32.toUInt32 31)).toInt32 &&& 1431655765)) &&& 858993459) + ((Int32.toUInt32 (a0 - ((Int32.toUInt32 a0 >>> (Int32.toUInt32 1 &&& Int32.toUInt32 31)).toInt32 &&& 1431655765)) >>> (Int32.toUInt32 2 &&& Int32.toUInt32 31)).toInt32 &&& 858993459)) >>> (Int32.toUInt32 4 &&& Int32.toUInt32 31)).toInt32) &&& 252645135) + (Int32.toUInt32 (((((a0 - ((Int32.toUInt32 a0 >>> (Int32.toUInt32 1 &&& Int32.toUInt32 31)).toInt32 &&& 1431655765)) &&& 858993459) + ((Int32.toUInt32 (a0 - ((Int32.toUInt32 a0 >>> (Int32.toUInt32 1 &&& Int32.toUInt32 31)).toInt32 &&& 1431655765)) >>> (Int32.toUInt32 2 &&& Int32.toUInt32 31)).toInt32 &&& 858993459)) + (Int32.toUInt32 (((a0 - ((Int32.toUInt32 a0 >>> (Int32.toUInt32 1 &&& Int32.toUInt32 31)).toInt32 &&& 1431655765)) &&& 858993459) + ((Int32.toUInt32 (a0 - ((Int32.toUInt32 a0 >>> (Int32.toUInt32 1 &&& Int32.toUInt32 31)).toInt32 &&& 1431655765)) >>> (Int32.toUInt32 2 &&& Int32.toUInt32 31)).toInt32 &&& 858993459)) >>> (Int32.toUInt32 4 &&& Int32.toUInt32 31)).toInt32) &&& 252645135) >>> (Int32.toUInt32 8 &&& Int32.toUInt32 31)).toInt32) >>> (Int32.toUInt32 16 &&& Int32.toUInt32 31)).toInt32)] (hM p σ τ) ⟨trivial, (Eq.symm H)⟩
/- AccessDesk.isBrokenBySession -/
def g35_2b (x1 : Int32) (x2 : Int32) (x3 : Int32) (σ : xS) : Option ((Int32 × Int32 × Int32 × xS) ⊕ xQ) := (if 6 ≤ x3 then some (Sum.inr ((Sum.inl 0, σ))) else (match g36 x3 σ with | some (Sum.inl v2, s3) => (match g37 (v2 &&& x1) s3 with | some (Sum.inl v5, s6) => (if v5 < x2 then some (Sum.inl (x1, x2, (x3 + 1), s6)) else some (Sum.inr ((Sum.inl 1, s6)))) | some (Sum.inr v5, s6) => none | none => none) | some (Sum.inr v2, s3) => none | none => none))
def g35_2 (x1 : Int32) (x2 : Int32) (x3 : Int32) (σ : xS) : Option xQ := xlo (fun a : Int32 × Int32 × Int32 × xS => g35_2b a.1 a.2.1 a.2.2.1 a.2.2.2) 1000 (x1, x2, x3, σ)
def g35 (a1 : Int32) (a2 : Int32) (σ : xS) : xO := g35_2 a1 a2 0 σ
def a35_2 (l : Launch) (Ω : xo_O) (d p : Nat) (τ : Nat → Nat → Int64) (r : xv_R) : Int32 × Int32 × Int32 × xS → Prop := fun a => xv l Ω (d + 3) 0 0 35 2 [some (.ref 0), some (.int a.1), some (.int a.2.1), some (.int a.2.2.1)] [] (hM p a.2.2.2 τ) r
theorem g35_2b_ok {l : Launch} {Ω : xo_O} (htr : xH l) (d : Nat) (p : Nat) (τ : Nat → Nat → Int64) (x1 : Int32) (x2 : Int32) (x3 : Int32) (σ : xS) (r : xv_R) (H : xo (xd (a35_2 l Ω d p τ r) (xB false p τ r)) (g35_2b x1 x2 x3 σ)) : xv l Ω (d + 3) 0 0 35 2 [some (.ref 0), some (.int x1), some (.int x2), some (.int x3)] [] (hM p σ τ) r := by
  unfold g35_2b at H
  by_cases h1 : 6 ≤ x3
  · rw [if_pos h1] at H
    refine xp_ok htr 3 (d + 3) 0 0 [eB true] 35 2 [some (.ref 0), some (.int x1), some (.int x2), some (.int x3)] [] (hM p σ τ) ⟨h1, ?_⟩
    show xv l Ω (d + 3) 0 0 35 30 [some (.ref 0), some (.int x1), some (.int x2), some (.int x3)] [] (hM p σ τ) r
    exact xp_ok htr 2 (d + 3) 0 0 [] 35 30 [some (.ref 0), some (.int x1), some (.int x2), some (.int x3)] [] (hM p σ τ) ⟨Or.inl rfl, (Eq.symm H)⟩
  · rw [if_neg h1] at H
    refine xp_ok htr 3 (d + 3) 0 0 [eB false] 35 2 [some (.ref 0), some (.int x1), some (.int x2), some (.int x3)] [] (hM p σ τ) ⟨h1, ?_⟩
    show xv l Ω (d + 3) 0 0 35 8 [some (.ref 0), some (.int x1), some (.int x2), some (.int x3)] [] (hM p σ τ) r
    cases q4 : g36 x3 σ with
    | none => rw [q4] at H; exact False.elim H
    | some q40 =>
      obtain ⟨v2 | v2, s3⟩ := q40
      · rw [q4] at H; dsimp only at H
        have hc := g36_run (Ω := Ω) htr d p τ x3 σ q4
        refine xp_ok htr 3 (d + 3) 0 0 [eC (some (.int v2)) (hM p s3 τ)] 35 8 [some (.ref 0), some (.int x1), some (.int x2), some (.int x3)] [] (hM p σ τ) ⟨hc, ?_⟩
        show xv l Ω (d + 3) 0 0 35 13 [some (.ref 0), some (.int x1), some (.int x2), some (.int x3)] [.int v2] (hM p s3 τ) r
        cases q7 : g37 (v2 &&& x1) s3 with
        | none => rw [q7] at H; exact False.elim H
        | some q70 =>
          obtain ⟨v5 | v5, s6⟩ := q70
          · rw [q7] at H; dsimp only at H
            have hc := g37_run (Ω := Ω) htr (d + 2) p τ (v2 &&& x1) s3 q7
            refine xp_ok htr 3 (d + 3) 0 0 [eC (some (.int v5)) (hM p s6 τ)] 35 13 [some (.ref 0), some (.int x1), some (.int x2), some (.int x3)] [.int v2] (hM p s3 τ) ⟨hc, ?_⟩
            show xv l Ω (d + 3) 0 0 35 18 [some (.ref 0), some (.int x1), some (.int x2), some (.int x3)] [.int v5] (hM p s6 τ) r
            by_cases h8 : v5 < x2
            · rw [if_pos h8] at H
              refine xp_ok htr 2 (d + 3) 0 0 [eB true] 35 18 [some (.ref 0), some (.int x1), some (.int x2), some (.int x3)] [.int v5] (hM p s6 τ) ⟨h8, ?_⟩
              show xv l Ω (d + 3) 0 0 35 24 [some (.ref 0), some (.int x1), some (.int x2), some (.int x3)] [] (hM p s6 τ) r
              refine xp_ok htr 2 (d + 3) 0 0 [] 35 24 [some (.ref 0), some (.int x1), some (.int x2), some (.int x3)] [] (hM p s6 τ) ?_
              show xv l Ω (d + 3) 0 0 35 2 [some (.ref 0), some (.int x1), some (.int x2), some (.int (x3 + 1))] [] (hM p s6 τ) r
              exact xv_sub (L' := [some (.ref 0), some (.int x1), some (.int x2), some (.int (x3 + 1))]) ⟨rfl, ⟨rfl, ⟨rfl, ⟨rfl, trivial⟩⟩⟩⟩ H
            · rw [if_neg h8] at H
              refine xp_ok htr 2 (d + 3) 0 0 [eB false] 35 18 [some (.ref 0), some (.int x1), some (.int x2), some (.int x3)] [.int v5] (hM p s6 τ) ⟨h8, ?_⟩
              show xv l Ω (d + 3) 0 0 35 22 [some (.ref 0), some (.int x1), some (.int x2), some (.int x3)] [] (hM p s6 τ) r
              exact xp_ok htr 2 (d + 3) 0 0 [] 35 22 [some (.ref 0), some (.int x1), some (.int x2), some (.int x3)] [] (hM p s6 τ) ⟨Or.inr rfl, (Eq.symm H)⟩
          · rw [q7] at H; exact False.elim H
      · rw [q4] at H; exact False.elim H
theorem g35_2_ok {l : Launch} {Ω : xo_O} (htr : xH l) (d : Nat) (p : Nat) (τ : Nat → Nat → Int64) (x1 : Int32) (x2 : Int32) (x3 : Int32) (σ : xS) (r : xv_R) (H : xo (xB false p τ r) (g35_2 x1 x2 x3 σ)) : xv l Ω (d + 3) 0 0 35 2 [some (.ref 0), some (.int x1), some (.int x2), some (.int x3)] [] (hM p σ τ) r :=
  xlo_ok (A := a35_2 l Ω d p τ r) (fun a H => g35_2b_ok htr d p τ a.1 a.2.1 a.2.2.1 a.2.2.2 r H) 1000 (x1, x2, x3, σ) H
theorem g35_run {l : Launch} {Ω : xo_O} (htr : xH l) (d : Nat) (p : Nat) (τ : Nat → Nat → Int64) (a1 : Int32) (a2 : Int32) (σ : xS) {q : xQ} (hq : g35 a1 a2 σ = some q) : xv l Ω (d + 3) 0 0 35 0 (xs_loc (xm_l 35) [.ref 0, .int a1, .int a2]) [] (hM p σ τ) (xq_R false p τ q) := by
  have H : xo (xB false p τ (xq_R false p τ q)) (g35 a1 a2 σ) := by rw [hq]; exact rfl
  generalize xq_R false p τ q = r at H ⊢
  show xv l Ω (d + 3) 0 0 35 0 [some (.ref 0), some (.int a1), some (.int a2), none] [] (hM p σ τ) r
  unfold g35 at H
  refine xp_ok htr 2 (d + 3) 0 0 [] 35 0 [some (.ref 0), some (.int a1), some (.int a2), none] [] (hM p σ τ) ?_
  show xv l Ω (d + 3) 0 0 35 2 [some (.ref 0), some (.int a1), some (.int a2), some (.int 0)] [] (hM p σ τ) r
  exact xv_sub (L' := [some (.ref 0), some (.int a1), some (.int a2), some (.int 0)]) ⟨rfl, ⟨rfl, ⟨rfl, ⟨rfl, trivial⟩⟩⟩⟩ (g35_2_ok htr d p τ a1 a2 0 σ r H)
/- AccessDesk.rolesOfUser -/
def g39 (a1 : Int32) (σ : xS) : xO := (bif xn a1 8 then (match g30 (σ 4 (Int32.toNatClampNeg a1)) σ with | some (Sum.inl v2, s3) => some ((Sum.inl v2, s3)) | some (Sum.inr v2, s3) => none | none => none) else none)
theorem g39_run {l : Launch} {Ω : xo_O} (htr : xH l) (d : Nat) (p : Nat) (τ : Nat → Nat → Int64) (a1 : Int32) (σ : xS) {q : xQ} (hq : g39 a1 σ = some q) : xv l Ω (d + 2) 0 0 39 0 (xs_loc (xm_l 39) [.ref 0, .int a1]) [] (hM p σ τ) (xq_R false p τ q) := by
  have H : xo (xB false p τ (xq_R false p τ q)) (g39 a1 σ) := by rw [hq]; exact rfl
  generalize xq_R false p τ q = r at H ⊢
  show xv l Ω (d + 2) 0 0 39 0 [some (.ref 0), some (.int a1)] [] (hM p σ τ) r
  unfold g39 at H
  cases g1 : xn a1 8 with
  | false => rw [g1, cond_false] at H; exact False.elim H
  | true =>
    rw [g1, cond_true] at H
    cases q4 : g30 (σ 4 (Int32.toNatClampNeg a1)) σ with
    | none => rw [q4] at H; exact False.elim H
    | some q40 =>
      obtain ⟨v2 | v2, s3⟩ := q40
      · rw [q4] at H; dsimp only at H
        have hc := g30_run (Ω := Ω) htr d p τ (σ 4 (Int32.toNatClampNeg a1)) σ q4
        refine xp_ok htr 8 (d + 2) 0 0 [eC (some (.int v2)) (hM p s3 τ)] 39 0 [some (.ref 0), some (.int a1)] [] (hM p σ τ) ⟨(xn_in g1), hc, ?_⟩
        show xv l Ω (d + 2) 0 0 39 16 [some (.ref 0), some (.int a1)] [.int v2] (hM p s3 τ) r
        exact xp_ok htr 1 (d + 2) 0 0 [] 39 16 [some (.ref 0), some (.int a1)] [.int v2] (hM p s3 τ) ⟨trivial, (Eq.symm H)⟩
      · rw [q4] at H; exact False.elim H
/- AccessDesk.isBrokenByUser -/
def g38_2b (x1 : Int32) (x2 : Int32) (x3 : Int32) (σ : xS) : Option ((Int32 × Int32 × Int32 × xS) ⊕ xQ) := (if 8 ≤ x3 then some (Sum.inr ((Sum.inl 0, σ))) else (match g39 x3 σ with | some (Sum.inl v2, s3) => (match g37 (v2 &&& x1) s3 with | some (Sum.inl v5, s6) => (if v5 < x2 then some (Sum.inl (x1, x2, (x3 + 1), s6)) else some (Sum.inr ((Sum.inl 1, s6)))) | some (Sum.inr v5, s6) => none | none => none) | some (Sum.inr v2, s3) => none | none => none))
def g38_2 (x1 : Int32) (x2 : Int32) (x3 : Int32) (σ : xS) : Option xQ := xlo (fun a : Int32 × Int32 × Int32 × xS => g38_2b a.1 a.2.1 a.2.2.1 a.2.2.2) 1000 (x1, x2, x3, σ)
def g38 (a1 : Int32) (a2 : Int32) (σ : xS) : xO := g38_2 a1 a2 0 σ
def a38_2 (l : Launch) (Ω : xo_O) (d p : Nat) (τ : Nat → Nat → Int64) (r : xv_R) : Int32 × Int32 × Int32 × xS → Prop := fun a => xv l Ω (d + 3) 0 0 38 2 [some (.ref 0), some (.int a.1), some (.int a.2.1), some (.int a.2.2.1)] [] (hM p a.2.2.2 τ) r
theorem g38_2b_ok {l : Launch} {Ω : xo_O} (htr : xH l) (d : Nat) (p : Nat) (τ : Nat → Nat → Int64) (x1 : Int32) (x2 : Int32) (x3 : Int32) (σ : xS) (r : xv_R) (H : xo (xd (a38_2 l Ω d p τ r) (xB false p τ r)) (g38_2b x1 x2 x3 σ)) : xv l Ω (d + 3) 0 0 38 2 [some (.ref 0), some (.int x1), some (.int x2), some (.int x3)] [] (hM p σ τ) r := by
  unfold g38_2b at H
  by_cases h1 : 8 ≤ x3
  · rw [if_pos h1] at H
    refine xp_ok htr 3 (d + 3) 0 0 [eB true] 38 2 [some (.ref 0), some (.int x1), some (.int x2), some (.int x3)] [] (hM p σ τ) ⟨h1, ?_⟩
    show xv l Ω (d + 3) 0 0 38 30 [some (.ref 0), some (.int x1), some (.int x2), some (.int x3)] [] (hM p σ τ) r
    exact xp_ok htr 2 (d + 3) 0 0 [] 38 30 [some (.ref 0), some (.int x1), some (.int x2), some (.int x3)] [] (hM p σ τ) ⟨Or.inl rfl, (Eq.symm H)⟩
  · rw [if_neg h1] at H
    refine xp_ok htr 3 (d + 3) 0 0 [eB false] 38 2 [some (.ref 0), some (.int x1), some (.int x2), some (.int x3)] [] (hM p σ τ) ⟨h1, ?_⟩
    show xv l Ω (d + 3) 0 0 38 8 [some (.ref 0), some (.int x1), some (.int x2), some (.int x3)] [] (hM p σ τ) r
    cases q4 : g39 x3 σ with
    | none => rw [q4] at H; exact False.elim H
    | some q40 =>
      obtain ⟨v2 | v2, s3⟩ := q40
      · rw [q4] at H; dsimp only at H
        have hc := g39_run (Ω := Ω) htr d p τ x3 σ q4
        refine xp_ok htr 3 (d + 3) 0 0 [eC (some (.int v2)) (hM p s3 τ)] 38 8 [some (.ref 0), some (.int x1), some (.int x2), some (.int x3)] [] (hM p σ τ) ⟨hc, ?_⟩
        show xv l Ω (d + 3) 0 0 38 13 [some (.ref 0), some (.int x1), some (.int x2), some (.int x3)] [.int v2] (hM p s3 τ) r
        cases q7 : g37 (v2 &&& x1) s3 with
        | none => rw [q7] at H; exact False.elim H
        | some q70 =>
          obtain ⟨v5 | v5, s6⟩ := q70
          · rw [q7] at H; dsimp only at H
            have hc := g37_run (Ω := Ω) htr (d + 2) p τ (v2 &&& x1) s3 q7
            refine xp_ok htr 3 (d + 3) 0 0 [eC (some (.int v5)) (hM p s6 τ)] 38 13 [some (.ref 0), some (.int x1), some (.int x2), some (.int x3)] [.int v2] (hM p s3 τ) ⟨hc, ?_⟩
            show xv l Ω (d + 3) 0 0 38 18 [some (.ref 0), some (.int x1), some (.int x2), some (.int x3)] [.int v5] (hM p s6 τ) r
            by_cases h8 : v5 < x2
            · rw [if_pos h8] at H
              refine xp_ok htr 2 (d + 3) 0 0 [eB true] 38 18 [some (.ref 0), some (.int x1), some (.int x2), some (.int x3)] [.int v5] (hM p s6 τ) ⟨h8, ?_⟩
              show xv l Ω (d + 3) 0 0 38 24 [some (.ref 0), some (.int x1), some (.int x2), some (.int x3)] [] (hM p s6 τ) r
              refine xp_ok htr 2 (d + 3) 0 0 [] 38 24 [some (.ref 0), some (.int x1), some (.int x2), some (.int x3)] [] (hM p s6 τ) ?_
              show xv l Ω (d + 3) 0 0 38 2 [some (.ref 0), some (.int x1), some (.int x2), some (.int (x3 + 1))] [] (hM p s6 τ) r
              exact xv_sub (L' := [some (.ref 0), some (.int x1), some (.int x2), some (.int (x3 + 1))]) ⟨rfl, ⟨rfl, ⟨rfl, ⟨rfl, trivial⟩⟩⟩⟩ H
            · rw [if_neg h8] at H
              refine xp_ok htr 2 (d + 3) 0 0 [eB false] 38 18 [some (.ref 0), some (.int x1), some (.int x2), some (.int x3)] [.int v5] (hM p s6 τ) ⟨h8, ?_⟩
              show xv l Ω (d + 3) 0 0 38 22 [some (.ref 0), some (.int x1), some (.int x2), some (.int x3)] [] (hM p s6 τ) r
              exact xp_ok htr 2 (d + 3) 0 0 [] 38 22 [some (.ref 0), some (.int x1), some (.int x2), some (.int x3)] [] (hM p s6 τ) ⟨Or.inr rfl, (Eq.symm H)⟩
          · rw [q7] at H; exact False.elim H
      · rw [q4] at H; exact False.elim H
theorem g38_2_ok {l : Launch} {Ω : xo_O} (htr : xH l) (d : Nat) (p : Nat) (τ : Nat → Nat → Int64) (x1 : Int32) (x2 : Int32) (x3 : Int32) (σ : xS) (r : xv_R) (H : xo (xB false p τ r) (g38_2 x1 x2 x3 σ)) : xv l Ω (d + 3) 0 0 38 2 [some (.ref 0), some (.int x1), some (.int x2), some (.int x3)] [] (hM p σ τ) r :=
  xlo_ok (A := a38_2 l Ω d p τ r) (fun a H => g38_2b_ok htr d p τ a.1 a.2.1 a.2.2.1 a.2.2.2 r H) 1000 (x1, x2, x3, σ) H
theorem g38_run {l : Launch} {Ω : xo_O} (htr : xH l) (d : Nat) (p : Nat) (τ : Nat → Nat → Int64) (a1 : Int32) (a2 : Int32) (σ : xS) {q : xQ} (hq : g38 a1 a2 σ = some q) : xv l Ω (d + 3) 0 0 38 0 (xs_loc (xm_l 38) [.ref 0, .int a1, .int a2]) [] (hM p σ τ) (xq_R false p τ q) := by
  have H : xo (xB false p τ (xq_R false p τ q)) (g38 a1 a2 σ) := by rw [hq]; exact rfl
  generalize xq_R false p τ q = r at H ⊢
  show xv l Ω (d + 3) 0 0 38 0 [some (.ref 0), some (.int a1), some (.int a2), none] [] (hM p σ τ) r
  unfold g38 at H
  refine xp_ok htr 2 (d + 3) 0 0 [] 38 0 [some (.ref 0), some (.int a1), some (.int a2), none] [] (hM p σ τ) ?_
  show xv l Ω (d + 3) 0 0 38 2 [some (.ref 0), some (.int a1), some (.int a2), some (.int 0)] [] (hM p σ τ) r
  exact xv_sub (L' := [some (.ref 0), some (.int a1), some (.int a2), some (.int 0)]) ⟨rfl, ⟨rfl, ⟨rfl, ⟨rfl, trivial⟩⟩⟩⟩ (g38_2_ok htr d p τ a1 a2 0 σ r H)
/- AccessDesk.isBroken -/
def g34 (a1 : Int32) (a2 : Int32) (a3 : Int32) (σ : xS) : xO := (if a1 = 0 then (match g38 a2 a3 σ with | some (Sum.inl v2, s3) => (bif decide (v2 = 0 ∨ v2 = 1) then some ((Sum.inl v2, s3)) else none) | some (Sum.inr v2, s3) => none | none => none) else (match g35 a2 a3 σ with | some (Sum.inl v6, s7) => (bif decide (v6 = 0 ∨ v6 = 1) then some ((Sum.inl v6, s7)) else none) | some (Sum.inr v6, s7) => none | none => none))
theorem g34_run {l : Launch} {Ω : xo_O} (htr : xH l) (d : Nat) (p : Nat) (τ : Nat → Nat → Int64) (a1 : Int32) (a2 : Int32) (a3 : Int32) (σ : xS) {q : xQ} (hq : g34 a1 a2 a3 σ = some q) : xv l Ω (d + 4) 0 0 34 0 (xs_loc (xm_l 34) [.ref 0, .int a1, .int a2, .int a3]) [] (hM p σ τ) (xq_R false p τ q) := by
  have H : xo (xB false p τ (xq_R false p τ q)) (g34 a1 a2 a3 σ) := by rw [hq]; exact rfl
  generalize xq_R false p τ q = r at H ⊢
  show xv l Ω (d + 4) 0 0 34 0 [some (.ref 0), some (.int a1), some (.int a2), some (.int a3)] [] (hM p σ τ) r
  unfold g34 at H
  by_cases h1 : a1 = 0
  · rw [if_pos h1] at H
    refine xp_ok htr 2 (d + 4) 0 0 [eB true] 34 0 [some (.ref 0), some (.int a1), some (.int a2), some (.int a3)] [] (hM p σ τ) ⟨h1, ?_⟩
    show xv l Ω (d + 4) 0 0 34 13 [some (.ref 0), some (.int a1), some (.int a2), some (.int a3)] [] (hM p σ τ) r
    cases q4 : g38 a2 a3 σ with
    | none => rw [q4] at H; exact False.elim H
    | some q40 =>
      obtain ⟨v2 | v2, s3⟩ := q40
      · rw [q4] at H; dsimp only at H
        have hc := g38_run (Ω := Ω) htr d p τ a2 a3 σ q4
        refine xp_ok htr 4 (d + 4) 0 0 [eC (some (.int v2)) (hM p s3 τ)] 34 13 [some (.ref 0), some (.int a1), some (.int a2), some (.int a3)] [] (hM p σ τ) ⟨hc, ?_⟩
        show xv l Ω (d + 4) 0 0 34 19 [some (.ref 0), some (.int a1), some (.int a2), some (.int a3)] [.int v2] (hM p s3 τ) r
        cases g5 : decide (v2 = 0 ∨ v2 = 1) with
        | false => rw [g5, cond_false] at H; exact False.elim H
        | true =>
          rw [g5, cond_true] at H
          exact xp_ok htr 1 (d + 4) 0 0 [] 34 19 [some (.ref 0), some (.int a1), some (.int a2), some (.int a3)] [.int v2] (hM p s3 τ) ⟨(xb01 g5), (Eq.symm H)⟩
      · rw [q4] at H; exact False.elim H
  · rw [if_neg h1] at H
    refine xp_ok htr 2 (d + 4) 0 0 [eB false] 34 0 [some (.ref 0), some (.int a1), some (.int a2), some (.int a3)] [] (hM p σ τ) ⟨h1, ?_⟩
    show xv l Ω (d + 4) 0 0 34 4 [some (.ref 0), some (.int a1), some (.int a2), some (.int a3)] [] (hM p σ τ) r
    cases q8 : g35 a2 a3 σ with
    | none => rw [q8] at H; exact False.elim H
    | some q80 =>
      obtain ⟨v6 | v6, s7⟩ := q80
      · rw [q8] at H; dsimp only at H
        have hc := g35_run (Ω := Ω) htr d p τ a2 a3 σ q8
        refine xp_ok htr 4 (d + 4) 0 0 [eC (some (.int v6)) (hM p s7 τ)] 34 4 [some (.ref 0), some (.int a1), some (.int a2), some (.int a3)] [] (hM p σ τ) ⟨hc, ?_⟩
        show xv l Ω (d + 4) 0 0 34 10 [some (.ref 0), some (.int a1), some (.int a2), some (.int a3)] [.int v6] (hM p s7 τ) r
        cases g9 : decide (v6 = 0 ∨ v6 = 1) with
        | false => rw [g9, cond_false] at H; exact False.elim H
        | true =>
          rw [g9, cond_true] at H
          exact xp_ok htr 2 (d + 4) 0 0 [] 34 10 [some (.ref 0), some (.int a1), some (.int a2), some (.int a3)] [.int v6] (hM p s7 τ) ⟨(xb01 g9), (Eq.symm H)⟩
      · rw [q8] at H; exact False.elim H
/- AccessDesk.isAnyBoundBroken -/
def g33_2b (x1 : Int32) (σ : xS) : Option ((Int32 × xS) ⊕ xQ) := (if (σ 11 3) ≤ x1 then some (Sum.inr ((Sum.inl 0, σ))) else (bif xn x1 6 then (match g34 (σ 12 (Int32.toNatClampNeg x1)) (σ 13 (Int32.toNatClampNeg x1)) (σ 14 (Int32.toNatClampNeg x1)) σ with | some (Sum.inl v3, s4) => (if v3 = 0 then some (Sum.inl ((x1 + 1), s4)) else some (Sum.inr ((Sum.inl 1, s4)))) | some (Sum.inr v3, s4) => none | none => none) else none))
def g33_2 (x1 : Int32) (σ : xS) : Option xQ := xlo (fun a : Int32 × xS => g33_2b a.1 a.2) 1000 (x1, σ)
def g33  (σ : xS) : xO := g33_2 0 σ
def a33_2 (l : Launch) (Ω : xo_O) (d p : Nat) (τ : Nat → Nat → Int64) (r : xv_R) : Int32 × xS → Prop := fun a => xv l Ω (d + 5) 0 0 33 2 [some (.ref 0), some (.int a.1)] [] (hM p a.2 τ) r
theorem g33_2b_ok {l : Launch} {Ω : xo_O} (htr : xH l) (d : Nat) (p : Nat) (τ : Nat → Nat → Int64) (x1 : Int32) (σ : xS) (r : xv_R) (H : xo (xd (a33_2 l Ω d p τ r) (xB false p τ r)) (g33_2b x1 σ)) : xv l Ω (d + 5) 0 0 33 2 [some (.ref 0), some (.int x1)] [] (hM p σ τ) r := by
  unfold g33_2b at H
  by_cases h1 : (σ 11 3) ≤ x1
  · rw [if_pos h1] at H
    refine xp_ok htr 5 (d + 5) 0 0 [eB true] 33 2 [some (.ref 0), some (.int x1)] [] (hM p σ τ) ⟨h1, ?_⟩
    show xv l Ω (d + 5) 0 0 33 55 [some (.ref 0), some (.int x1)] [] (hM p σ τ) r
    exact xp_ok htr 2 (d + 5) 0 0 [] 33 55 [some (.ref 0), some (.int x1)] [] (hM p σ τ) ⟨Or.inl rfl, (Eq.symm H)⟩
  · rw [if_neg h1] at H
    refine xp_ok htr 5 (d + 5) 0 0 [eB false] 33 2 [some (.ref 0), some (.int x1)] [] (hM p σ τ) ⟨h1, ?_⟩
    show xv l Ω (d + 5) 0 0 33 13 [some (.ref 0), some (.int x1)] [] (hM p σ τ) r
    cases g2 : xn x1 6 with
    | false => rw [g2, cond_false] at H; exact False.elim H
    | true =>
      rw [g2, cond_true] at H
      refine xp_ok htr 8 (d + 5) 0 0 [] 33 13 [some (.ref 0), some (.int x1)] [] (hM p σ τ) ⟨(xn_in g2), ?_⟩
      show xv l Ω (d + 5) 0 0 33 27 [some (.ref 0), some (.int x1)] [.ref 11, .int (σ 12 (Int32.toNatClampNeg x1)), .ref 0] (hM p σ τ) r
      refine xp_ok htr 8 (d + 5) 0 0 [] 33 27 [some (.ref 0), some (.int x1)] [.ref 11, .int (σ 12 (Int32.toNatClampNeg x1)), .ref 0] (hM p σ τ) ⟨(xn_in g2), (xn_in g2), ?_⟩
      show xv l Ω (d + 5) 0 0 33 41 [some (.ref 0), some (.int x1)] [.int (σ 14 (Int32.toNatClampNeg x1)), .int (σ 13 (Int32.toNatClampNeg x1)), .int (σ 12 (Int32.toNatClampNeg x1)), .ref 0] (hM p σ τ) r
      cases q5 : g34 (σ 12 (Int32.toNatClampNeg x1)) (σ 13 (Int32.toNatClampNeg x1)) (σ 14 (Int32.toNatClampNeg x1)) σ with
      | none => rw [q5] at H; exact False.elim H
      | some q50 =>
        obtain ⟨v3 | v3, s4⟩ := q50
        · rw [q5] at H; dsimp only at H
          have hc := g34_run (Ω := Ω) htr d p τ (σ 12 (Int32.toNatClampNeg x1)) (σ 13 (Int32.toNatClampNeg x1)) (σ 14 (Int32.toNatClampNeg x1)) σ q5
          refine xp_ok htr 1 (d + 5) 0 0 [eC (some (.int v3)) (hM p s4 τ)] 33 41 [some (.ref 0), some (.int x1)] [.int (σ 14 (Int32.toNatClampNeg x1)), .int (σ 13 (Int32.toNatClampNeg x1)), .int (σ 12 (Int32.toNatClampNeg x1)), .ref 0] (hM p σ τ) ⟨hc, ?_⟩
          show xv l Ω (d + 5) 0 0 33 44 [some (.ref 0), some (.int x1)] [.int v3] (hM p s4 τ) r
          by_cases h6 : v3 = 0
          · rw [if_pos h6] at H
            refine xp_ok htr 1 (d + 5) 0 0 [eB true] 33 44 [some (.ref 0), some (.int x1)] [.int v3] (hM p s4 τ) ⟨h6, ?_⟩
            show xv l Ω (d + 5) 0 0 33 49 [some (.ref 0), some (.int x1)] [] (hM p s4 τ) r
            refine xp_ok htr 2 (d + 5) 0 0 [] 33 49 [some (.ref 0), some (.int x1)] [] (hM p s4 τ) ?_
            show xv l Ω (d + 5) 0 0 33 2 [some (.ref 0), some (.int (x1 + 1))] [] (hM p s4 τ) r
            exact xv_sub (L' := [some (.ref 0), some (.int (x1 + 1))]) ⟨rfl, ⟨rfl, trivial⟩⟩ H
          · rw [if_neg h6] at H
            refine xp_ok htr 1 (d + 5) 0 0 [eB false] 33 44 [some (.ref 0), some (.int x1)] [.int v3] (hM p s4 τ) ⟨h6, ?_⟩
            show xv l Ω (d + 5) 0 0 33 47 [some (.ref 0), some (.int x1)] [] (hM p s4 τ) r
            exact xp_ok htr 2 (d + 5) 0 0 [] 33 47 [some (.ref 0), some (.int x1)] [] (hM p s4 τ) ⟨Or.inr rfl, (Eq.symm H)⟩
        · rw [q5] at H; exact False.elim H
theorem g33_2_ok {l : Launch} {Ω : xo_O} (htr : xH l) (d : Nat) (p : Nat) (τ : Nat → Nat → Int64) (x1 : Int32) (σ : xS) (r : xv_R) (H : xo (xB false p τ r) (g33_2 x1 σ)) : xv l Ω (d + 5) 0 0 33 2 [some (.ref 0), some (.int x1)] [] (hM p σ τ) r :=
  xlo_ok (A := a33_2 l Ω d p τ r) (fun a H => g33_2b_ok htr d p τ a.1 a.2 r H) 1000 (x1, σ) H
theorem g33_run {l : Launch} {Ω : xo_O} (htr : xH l) (d : Nat) (p : Nat) (τ : Nat → Nat → Int64)  (σ : xS) {q : xQ} (hq : g33  σ = some q) : xv l Ω (d + 5) 0 0 33 0 (xs_loc (xm_l 33) [.ref 0]) [] (hM p σ τ) (xq_R false p τ q) := by
  have H : xo (xB false p τ (xq_R false p τ q)) (g33  σ) := by rw [hq]; exact rfl
  generalize xq_R false p τ q = r at H ⊢
  show xv l Ω (d + 5) 0 0 33 0 [some (.ref 0), none] [] (hM p σ τ) r
  unfold g33 at H
  refine xp_ok htr 2 (d + 5) 0 0 [] 33 0 [some (.ref 0), none] [] (hM p σ τ) ?_
  show xv l Ω (d + 5) 0 0 33 2 [some (.ref 0), some (.int 0)] [] (hM p σ τ) r
  exact xv_sub (L' := [some (.ref 0), some (.int 0)]) ⟨rfl, ⟨rfl, trivial⟩⟩ (g33_2_ok htr d p τ 0 σ r H)
/- AccessDesk$Hierarchy.part -/
def g40 (a1 : Int32) (a2 : Int32) (σ : xS) : xO := (bif xn a1 12 then some ((Sum.inl 0, (xh_ui σ 2 (Int32.toNatClampNeg a1) ((σ 2 (Int32.toNatClampNeg a1)) &&& ((1 <<< (a2 &&& 31)) ^^^ (-1)))))) else none)
theorem g40_run {l : Launch} {Ω : xo_O} (htr : xH l) (d : Nat) (p : Nat) (τ : Nat → Nat → Int64) (a1 : Int32) (a2 : Int32) (σ : xS) {q : xQ} (hq : g40 a1 a2 σ = some q) : xv l Ω d 0 0 40 0 (xs_loc (xm_l 40) [.ref 1, .int a1, .int a2]) [] (hM p σ τ) (xq_R true p τ q) := by
  have H : xo (xB true p τ (xq_R true p τ q)) (g40 a1 a2 σ) := by rw [hq]; exact rfl
  generalize xq_R true p τ q = r at H ⊢
  show xv l Ω d 0 0 40 0 [some (.ref 1), some (.int a1), some (.int a2)] [] (hM p σ τ) r
  unfold g40 at H
  cases g1 : xn a1 12 with
  | false => rw [g1, cond_false] at H; exact False.elim H
  | true =>
    rw [g1, cond_true] at H
    refine xp_ok htr 8 d 0 0 [] 40 0 [some (.ref 1), some (.int a1), some (.int a2)] [] (hM p σ τ) ⟨(xn_in g1), ?_⟩
    show xv l Ω d 0 0 40 10 [some (.ref 1), some (.int a1), some (.int a2)] [.int (1 <<< (a2 &&& 31)), .int (σ 2 (Int32.toNatClampNeg a1)), .int a1, .ref 2] (hM p σ τ) r
    exact xp_ok htr 5 d 0 0 [] 40 10 [some (.ref 1), some (.int a1), some (.int a2)] [.int (1 <<< (a2 &&& 31)), .int (σ 2 (Int32.toNatClampNeg a1)), .int a1, .ref 2] (hM p σ τ) ⟨(xn_in g1), trivial, (Eq.symm H)⟩
/- AccessDesk.senior -/
def g23_56 (x1 : Int32) (x2 : Int32) (k0 : Int32) (σ : xS) : Option xQ := (match g31 k0 σ with | some (Sum.inl v16, s17) => (match g32 x1 x2 s17 with | some (Sum.inl v19, s20) => (match g33 s20 with | some (Sum.inl v22, s23) => (if v22 = 0 then some ((Sum.inl 0, s23)) else (match g40 x1 x2 s23 with | some (Sum.inl v26, s27) => some ((Sum.inr 1, s27)) | some (Sum.inr v26, s27) => none | none => none)) | some (Sum.inr v22, s23) => none | none => none) | some (Sum.inr v19, s20) => none | none => none) | some (Sum.inr v16, s17) => some ((Sum.inr v16, s17)) | none => none)
def g23_55 (x1 : Int32) (x2 : Int32) (σ : xS) : Option xQ := g23_56 x1 x2 0 σ
def g23_24 (x1 : Int32) (x2 : Int32) (k0 : Int32) (σ : xS) : Option xQ := (match g26 k0 σ with | some (Sum.inl v5, s6) => (match g27 x1 x2 s6 with | some (Sum.inl v8, s9) => (if v8 = 0 then (match g29 x2 x1 s9 with | some (Sum.inl v12, s13) => (if v12 = 0 then g23_56 x1 x2 1 s13 else g23_55 x1 x2 s13) | some (Sum.inr v12, s13) => none | none => none) else g23_55 x1 x2 s9) | some (Sum.inr v8, s9) => none | none => none) | some (Sum.inr v5, s6) => some ((Sum.inr v5, s6)) | none => none)
def g23_23 (x1 : Int32) (x2 : Int32) (σ : xS) : Option xQ := g23_24 x1 x2 0 σ
def g23 (a1 : Int32) (a2 : Int32) (σ : xS) : xO := (match g24 a1 σ with | some (Sum.inl v1, s2) => (if v1 = 0 then g23_23 a1 a2 s2 else (match g24 a2 s2 with | some (Sum.inl v29, s30) => (if v29 = 0 then g23_23 a1 a2 s30 else (if a1 = a2 then g23_23 a1 a2 s30 else g23_24 a1 a2 1 s30)) | some (Sum.inr v29, s30) => none | none => none)) | some (Sum.inr v1, s2) => none | none => none)
theorem g23_56_ok {l : Launch} {Ω : xo_O} (htr : xH l) (d : Nat) (p : Nat) (τ : Nat → Nat → Int64) (x1 : Int32) (x2 : Int32) (k0 : Int32) (σ : xS) (r : xv_R) (H : xo (xB true p τ r) (g23_56 x1 x2 k0 σ)) : xv l Ω (d + 7) 2 12 23 56 [some (.ref 0), some (.int x1), some (.int x2)] [.int k0] (hM p σ τ) r := by
  unfold g23_56 at H
  cases q18 : g31 k0 σ with
  | none => rw [q18] at H; exact False.elim H
  | some q180 =>
    obtain ⟨v16 | v16, s17⟩ := q180
    · rw [q18] at H; dsimp only at H
      have hc := g31_run (Ω := Ω) htr d p τ k0 σ q18
      refine xp_ok htr 1 (d + 7) 2 12 [eN none (hM p s17 τ) 1 6] 23 56 [some (.ref 0), some (.int x1), some (.int x2)] [.int k0] (hM p σ τ) ⟨hc, ?_⟩
      show xv l Ω (d + 7) 1 6 23 59 [some (.ref 0), some (.int x1), some (.int x2)] [] (hM p s17 τ) r
      cases q21 : g32 x1 x2 s17 with
      | none => rw [q21] at H; exact False.elim H
      | some q210 =>
        obtain ⟨v19 | v19, s20⟩ := q210
        · rw [q21] at H; dsimp only at H
          have hc := g32_run (Ω := Ω) htr (d + 6) p τ x1 x2 s17 q21
          refine xp_ok htr 5 (d + 7) 1 6 [eC none (hM p s20 τ)] 23 59 [some (.ref 0), some (.int x1), some (.int x2)] [] (hM p s17 τ) ⟨hc, ?_⟩
          show xv l Ω (d + 7) 1 6 23 68 [some (.ref 0), some (.int x1), some (.int x2)] [] (hM p s20 τ) r
          cases q24 : g33 s20 with
          | none => rw [q24] at H; exact False.elim H
          | some q240 =>
            obtain ⟨v22 | v22, s23⟩ := q240
            · rw [q24] at H; dsimp only at H
              have hc := g33_run (Ω := Ω) htr (d + 1) p τ  s20 q24
              refine xp_ok htr 2 (d + 7) 1 6 [eC (some (.int v22)) (hM p s23 τ)] 23 68 [some (.ref 0), some (.int x1), some (.int x2)] [] (hM p s20 τ) ⟨hc, ?_⟩
              show xv l Ω (d + 7) 1 6 23 72 [some (.ref 0), some (.int x1), some (.int x2)] [.int v22] (hM p s23 τ) r
              by_cases h25 : v22 = 0
              · rw [if_pos h25] at H
                refine xp_ok htr 1 (d + 7) 1 6 [eB true] 23 72 [some (.ref 0), some (.int x1), some (.int x2)] [.int v22] (hM p s23 τ) ⟨h25, ?_⟩
                show xv l Ω (d + 7) 1 6 23 94 [some (.ref 0), some (.int x1), some (.int x2)] [] (hM p s23 τ) r
                exact xp_ok htr 1 (d + 7) 1 6 [] 23 94 [some (.ref 0), some (.int x1), some (.int x2)] [] (hM p s23 τ) ⟨trivial, (Eq.symm H)⟩
              · rw [if_neg h25] at H
                refine xp_ok htr 1 (d + 7) 1 6 [eB false] 23 72 [some (.ref 0), some (.int x1), some (.int x2)] [.int v22] (hM p s23 τ) ⟨h25, ?_⟩
                show xv l Ω (d + 7) 1 6 23 75 [some (.ref 0), some (.int x1), some (.int x2)] [] (hM p s23 τ) r
                cases q28 : g40 x1 x2 s23 with
                | none => rw [q28] at H; exact False.elim H
                | some q280 =>
                  obtain ⟨v26 | v26, s27⟩ := q280
                  · rw [q28] at H; dsimp only at H
                    have hc := g40_run (Ω := Ω) htr (d + 6) p τ x1 x2 s23 q28
                    refine xp_ok htr 5 (d + 7) 1 6 [eC none (hM p s27 τ)] 23 75 [some (.ref 0), some (.int x1), some (.int x2)] [] (hM p s23 τ) ⟨hc, ?_⟩
                    show xv l Ω (d + 7) 1 6 23 84 [some (.ref 0), some (.int x1), some (.int x2)] [] (hM p s27 τ) r
                    exact xp_ok htr 1 (d + 7) 1 6 [] 23 84 [some (.ref 0), some (.int x1), some (.int x2)] [] (hM p s27 τ) (Eq.symm H)
                  · rw [q28] at H; exact False.elim H
            · rw [q24] at H; exact False.elim H
        · rw [q21] at H; exact False.elim H
    · rw [q18] at H; dsimp only at H
      have hc := g31_run (Ω := Ω) htr d p τ k0 σ q18
      exact xp_ok htr 1 (d + 7) 2 12 [eT v16 (hM p s17 τ) 1 6] 23 56 [some (.ref 0), some (.int x1), some (.int x2)] [.int k0] (hM p σ τ) ⟨hc, (Eq.symm H)⟩
theorem g23_55_ok {l : Launch} {Ω : xo_O} (htr : xH l) (d : Nat) (p : Nat) (τ : Nat → Nat → Int64) (x1 : Int32) (x2 : Int32) (σ : xS) (r : xv_R) (H : xo (xB true p τ r) (g23_55 x1 x2 σ)) : xv l Ω (d + 7) 2 12 23 55 [some (.ref 0), some (.int x1), some (.int x2)] [] (hM p σ τ) r := by
  unfold g23_55 at H
  refine xp_ok htr 1 (d + 7) 2 12 [] 23 55 [some (.ref 0), some (.int x1), some (.int x2)] [] (hM p σ τ) ?_
  show xv l Ω (d + 7) 2 12 23 56 [some (.ref 0), some (.int x1), some (.int x2)] [.int 0] (hM p σ τ) r
  exact xv_sub (L' := [some (.ref 0), some (.int x1), some (.int x2)]) ⟨rfl, ⟨rfl, ⟨rfl, trivial⟩⟩⟩ (g23_56_ok htr d p τ x1 x2 0 σ r H)
theorem g23_24_ok {l : Launch} {Ω : xo_O} (htr : xH l) (d : Nat) (p : Nat) (τ : Nat → Nat → Int64) (x1 : Int32) (x2 : Int32) (k0 : Int32) (σ : xS) (r : xv_R) (H : xo (xB true p τ r) (g23_24 x1 x2 k0 σ)) : xv l Ω (d + 7) 3 18 23 24 [some (.ref 0), some (.int x1), some (.int x2)] [.int k0] (hM p σ τ) r := by
  unfold g23_24 at H
  cases q7 : g26 k0 σ with
  | none => rw [q7] at H; exact False.elim H
  | some q70 =>
    obtain ⟨v5 | v5, s6⟩ := q70
    · rw [q7] at H; dsimp only at H
      have hc := g26_run (Ω := Ω) htr d p τ k0 σ q7
      refine xp_ok htr 1 (d + 7) 3 18 [eN none (hM p s6 τ) 1 6] 23 24 [some (.ref 0), some (.int x1), some (.int x2)] [.int k0] (hM p σ τ) ⟨hc, ?_⟩
      show xv l Ω (d + 7) 2 12 23 27 [some (.ref 0), some (.int x1), some (.int x2)] [] (hM p s6 τ) r
      cases q10 : g27 x1 x2 s6 with
      | none => rw [q10] at H; exact False.elim H
      | some q100 =>
        obtain ⟨v8 | v8, s9⟩ := q100
        · rw [q10] at H; dsimp only at H
          have hc := g27_run (Ω := Ω) htr (d + 5) p τ x1 x2 s6 q10
          refine xp_ok htr 5 (d + 7) 2 12 [eC (some (.int v8)) (hM p s9 τ)] 23 27 [some (.ref 0), some (.int x1), some (.int x2)] [] (hM p s6 τ) ⟨hc, ?_⟩
          show xv l Ω (d + 7) 2 12 23 36 [some (.ref 0), some (.int x1), some (.int x2)] [.int v8] (hM p s9 τ) r
          by_cases h11 : v8 = 0
          · rw [if_pos h11] at H
            refine xp_ok htr 1 (d + 7) 2 12 [eB false] 23 36 [some (.ref 0), some (.int x1), some (.int x2)] [.int v8] (hM p s9 τ) ⟨h11, ?_⟩
            show xv l Ω (d + 7) 2 12 23 39 [some (.ref 0), some (.int x1), some (.int x2)] [] (hM p s9 τ) r
            cases q14 : g29 x2 x1 s9 with
            | none => rw [q14] at H; exact False.elim H
            | some q140 =>
              obtain ⟨v12 | v12, s13⟩ := q140
              · rw [q14] at H; dsimp only at H
                have hc := g29_run (Ω := Ω) htr (d + 4) p τ x2 x1 s9 q14
                refine xp_ok htr 5 (d + 7) 2 12 [eC (some (.int v12)) (hM p s13 τ)] 23 39 [some (.ref 0), some (.int x1), some (.int x2)] [] (hM p s9 τ) ⟨hc, ?_⟩
                show xv l Ω (d + 7) 2 12 23 48 [some (.ref 0), some (.int x1), some (.int x2)] [.int v12] (hM p s13 τ) r
                by_cases h15 : v12 = 0
                · rw [if_pos h15] at H
                  refine xp_ok htr 1 (d + 7) 2 12 [eB false] 23 48 [some (.ref 0), some (.int x1), some (.int x2)] [.int v12] (hM p s13 τ) ⟨h15, ?_⟩
                  show xv l Ω (d + 7) 2 12 23 51 [some (.ref 0), some (.int x1), some (.int x2)] [] (hM p s13 τ) r
                  refine xp_ok htr 2 (d + 7) 2 12 [] 23 51 [some (.ref 0), some (.int x1), some (.int x2)] [] (hM p s13 τ) ?_
                  show xv l Ω (d + 7) 2 12 23 56 [some (.ref 0), some (.int x1), some (.int x2)] [.int 1] (hM p s13 τ) r
                  exact xv_sub (L' := [some (.ref 0), some (.int x1), some (.int x2)]) ⟨rfl, ⟨rfl, ⟨rfl, trivial⟩⟩⟩ (g23_56_ok htr d p τ x1 x2 1 s13 r H)
                · rw [if_neg h15] at H
                  refine xp_ok htr 1 (d + 7) 2 12 [eB true] 23 48 [some (.ref 0), some (.int x1), some (.int x2)] [.int v12] (hM p s13 τ) ⟨h15, ?_⟩
                  show xv l Ω (d + 7) 2 12 23 55 [some (.ref 0), some (.int x1), some (.int x2)] [] (hM p s13 τ) r
                  exact xv_sub (L' := [some (.ref 0), some (.int x1), some (.int x2)]) ⟨rfl, ⟨rfl, ⟨rfl, trivial⟩⟩⟩ (g23_55_ok htr d p τ x1 x2 s13 r H)
              · rw [q14] at H; exact False.elim H
          · rw [if_neg h11] at H
            refine xp_ok htr 1 (d + 7) 2 12 [eB true] 23 36 [some (.ref 0), some (.int x1), some (.int x2)] [.int v8] (hM p s9 τ) ⟨h11, ?_⟩
            show xv l Ω (d + 7) 2 12 23 55 [some (.ref 0), some (.int x1), some (.int x2)] [] (hM p s9 τ) r
            exact xv_sub (L' := [some (.ref 0), some (.int x1), some (.int x2)]) ⟨rfl, ⟨rfl, ⟨rfl, trivial⟩⟩⟩ (g23_55_ok htr d p τ x1 x2 s9 r H)
        · rw [q10] at H; exact False.elim H
    · rw [q7] at H; dsimp only at H
      have hc := g26_run (Ω := Ω) htr d p τ k0 σ q7
      exact xp_ok htr 1 (d + 7) 3 18 [eT v5 (hM p s6 τ) 1 6] 23 24 [some (.ref 0), some (.int x1), some (.int x2)] [.int k0] (hM p σ τ) ⟨hc, (Eq.symm H)⟩
theorem g23_23_ok {l : Launch} {Ω : xo_O} (htr : xH l) (d : Nat) (p : Nat) (τ : Nat → Nat → Int64) (x1 : Int32) (x2 : Int32) (σ : xS) (r : xv_R) (H : xo (xB true p τ r) (g23_23 x1 x2 σ)) : xv l Ω (d + 7) 3 18 23 23 [some (.ref 0), some (.int x1), some (.int x2)] [] (hM p σ τ) r := by
  unfold g23_23 at H
  refine xp_ok htr 1 (d + 7) 3 18 [] 23 23 [some (.ref 0), some (.int x1), some (.int x2)] [] (hM p σ τ) ?_
  show xv l Ω (d + 7) 3 18 23 24 [some (.ref 0), some (.int x1), some (.int x2)] [.int 0] (hM p σ τ) r
  exact xv_sub (L' := [some (.ref 0), some (.int x1), some (.int x2)]) ⟨rfl, ⟨rfl, ⟨rfl, trivial⟩⟩⟩ (g23_24_ok htr d p τ x1 x2 0 σ r H)
theorem g23_run {l : Launch} {Ω : xo_O} (htr : xH l) (d : Nat) (p : Nat) (τ : Nat → Nat → Int64) (a1 : Int32) (a2 : Int32) (σ : xS) {q : xQ} (hq : g23 a1 a2 σ = some q) : xv l Ω (d + 7) 3 18 23 0 (xs_loc (xm_l 23) [.ref 0, .int a1, .int a2]) [] (hM p σ τ) (xq_R true p τ q) := by
  have H : xo (xB true p τ (xq_R true p τ q)) (g23 a1 a2 σ) := by rw [hq]; exact rfl
  generalize xq_R true p τ q = r at H ⊢
  show xv l Ω (d + 7) 3 18 23 0 [some (.ref 0), some (.int a1), some (.int a2)] [] (hM p σ τ) r
  unfold g23 at H
  cases q3 : g24 a1 σ with
  | none => rw [q3] at H; exact False.elim H
  | some q30 =>
    obtain ⟨v1 | v1, s2⟩ := q30
    · rw [q3] at H; dsimp only at H
      have hc := g24_run (Ω := Ω) htr (d + 5) p τ a1 σ q3
      refine xp_ok htr 2 (d + 7) 3 18 [eC (some (.int v1)) (hM p s2 τ)] 23 0 [some (.ref 0), some (.int a1), some (.int a2)] [] (hM p σ τ) ⟨hc, ?_⟩
      show xv l Ω (d + 7) 3 18 23 4 [some (.ref 0), some (.int a1), some (.int a2)] [.int v1] (hM p s2 τ) r
      by_cases h4 : v1 = 0
      · rw [if_pos h4] at H
        refine xp_ok htr 1 (d + 7) 3 18 [eB true] 23 4 [some (.ref 0), some (.int a1), some (.int a2)] [.int v1] (hM p s2 τ) ⟨h4, ?_⟩
        show xv l Ω (d + 7) 3 18 23 23 [some (.ref 0), some (.int a1), some (.int a2)] [] (hM p s2 τ) r
        exact xv_sub (L' := [some (.ref 0), some (.int a1), some (.int a2)]) ⟨rfl, ⟨rfl, ⟨rfl, trivial⟩⟩⟩ (g23_23_ok htr d p τ a1 a2 s2 r H)
      · rw [if_neg h4] at H
        refine xp_ok htr 1 (d + 7) 3 18 [eB false] 23 4 [some (.ref 0), some (.int a1), some (.int a2)] [.int v1] (hM p s2 τ) ⟨h4, ?_⟩
        show xv l Ω (d + 7) 3 18 23 7 [some (.ref 0), some (.int a1), some (.int a2)] [] (hM p s2 τ) r
        cases q31 : g24 a2 s2 with
        | none => rw [q31] at H; exact False.elim H
        | some q310 =>
          obtain ⟨v29 | v29, s30⟩ := q310
          · rw [q31] at H; dsimp only at H
            have hc := g24_run (Ω := Ω) htr (d + 5) p τ a2 s2 q31
            refine xp_ok htr 2 (d + 7) 3 18 [eC (some (.int v29)) (hM p s30 τ)] 23 7 [some (.ref 0), some (.int a1), some (.int a2)] [] (hM p s2 τ) ⟨hc, ?_⟩
            show xv l Ω (d + 7) 3 18 23 11 [some (.ref 0), some (.int a1), some (.int a2)] [.int v29] (hM p s30 τ) r
            by_cases h32 : v29 = 0
            · rw [if_pos h32] at H
              refine xp_ok htr 1 (d + 7) 3 18 [eB true] 23 11 [some (.ref 0), some (.int a1), some (.int a2)] [.int v29] (hM p s30 τ) ⟨h32, ?_⟩
              show xv l Ω (d + 7) 3 18 23 23 [some (.ref 0), some (.int a1), some (.int a2)] [] (hM p s30 τ) r
              exact xv_sub (L' := [some (.ref 0), some (.int a1), some (.int a2)]) ⟨rfl, ⟨rfl, ⟨rfl, trivial⟩⟩⟩ (g23_23_ok htr d p τ a1 a2 s30 r H)
            · rw [if_neg h32] at H
              refine xp_ok htr 1 (d + 7) 3 18 [eB false] 23 11 [some (.ref 0), some (.int a1), some (.int a2)] [.int v29] (hM p s30 τ) ⟨h32, ?_⟩
              show xv l Ω (d + 7) 3 18 23 14 [some (.ref 0), some (.int a1), some (.int a2)] [] (hM p s30 τ) r
              by_cases h33 : a1 = a2
              · rw [if_pos h33] at H
                refine xp_ok htr 3 (d + 7) 3 18 [eB true] 23 14 [some (.ref 0), some (.int a1), some (.int a2)] [] (hM p s30 τ) ⟨h33, ?_⟩
                show xv l Ω (d + 7) 3 18 23 23 [some (.ref 0), some (.int a1), some (.int a2)] [] (hM p s30 τ) r
                exact xv_sub (L' := [some (.ref 0), some (.int a1), some (.int a2)]) ⟨rfl, ⟨rfl, ⟨rfl, trivial⟩⟩⟩ (g23_23_ok htr d p τ a1 a2 s30 r H)
              · rw [if_neg h33] at H
                refine xp_ok htr 3 (d + 7) 3 18 [eB false] 23 14 [some (.ref 0), some (.int a1), some (.int a2)] [] (hM p s30 τ) ⟨h33, ?_⟩
                show xv l Ω (d + 7) 3 18 23 19 [some (.ref 0), some (.int a1), some (.int a2)] [] (hM p s30 τ) r
                refine xp_ok htr 2 (d + 7) 3 18 [] 23 19 [some (.ref 0), some (.int a1), some (.int a2)] [] (hM p s30 τ) ?_
                show xv l Ω (d + 7) 3 18 23 24 [some (.ref 0), some (.int a1), some (.int a2)] [.int 1] (hM p s30 τ) r
                exact xv_sub (L' := [some (.ref 0), some (.int a1), some (.int a2)]) ⟨rfl, ⟨rfl, ⟨rfl, trivial⟩⟩⟩ (g23_24_ok htr d p τ a1 a2 1 s30 r H)
          · rw [q31] at H; exact False.elim H
    · rw [q3] at H; exact False.elim H
/- AccessDesk$Sessions.isOpen -/
def g44 (a1 : Int32) (σ : xS) : xO := (bif xn a1 6 then (if (σ 8 (Int32.toNatClampNeg a1)) = (-1) then some ((Sum.inl 0, σ)) else some ((Sum.inl 1, σ))) else none)
theorem g44_run {l : Launch} {Ω : xo_O} (htr : xH l) (d : Nat) (p : Nat) (τ : Nat → Nat → Int64) (a1 : Int32) (σ : xS) {q : xQ} (hq : g44 a1 σ = some q) : xv l Ω d 0 0 44 0 (xs_loc (xm_l 44) [.ref 7, .int a1]) [] (hM p σ τ) (xq_R false p τ q) := by
  have H : xo (xB false p τ (xq_R false p τ q)) (g44 a1 σ) := by rw [hq]; exact rfl
  generalize xq_R false p τ q = r at H ⊢
  show xv l Ω d 0 0 44 0 [some (.ref 7), some (.int a1)] [] (hM p σ τ) r
  unfold g44 at H
  cases g1 : xn a1 6 with
  | false => rw [g1, cond_false] at H; exact False.elim H
  | true =>
    rw [g1, cond_true] at H
    by_cases h2 : (σ 8 (Int32.toNatClampNeg a1)) = (-1)
    · rw [if_pos h2] at H
      refine xp_ok htr 6 d 0 0 [eB true] 44 0 [some (.ref 7), some (.int a1)] [] (hM p σ τ) ⟨(xn_in g1), h2, ?_⟩
      show xv l Ω d 0 0 44 14 [some (.ref 7), some (.int a1)] [] (hM p σ τ) r
      exact xp_ok htr 2 d 0 0 [] 44 14 [some (.ref 7), some (.int a1)] [] (hM p σ τ) ⟨Or.inl rfl, (Eq.symm H)⟩
    · rw [if_neg h2] at H
      refine xp_ok htr 6 d 0 0 [eB false] 44 0 [some (.ref 7), some (.int a1)] [] (hM p σ τ) ⟨(xn_in g1), h2, ?_⟩
      show xv l Ω d 0 0 44 10 [some (.ref 7), some (.int a1)] [] (hM p σ τ) r
      exact xp_ok htr 3 d 0 0 [] 44 10 [some (.ref 7), some (.int a1)] [] (hM p σ τ) ⟨Or.inr rfl, (Eq.symm H)⟩
/- AccessDesk.dropLostRoles -/
def g43_44 (x1 : Int32) (σ : xS) : Option ((Int32 × xS) ⊕ xQ) := some (Sum.inl ((x1 + 1), σ))
def g43_2b (x1 : Int32) (σ : xS) : Option ((Int32 × xS) ⊕ xQ) := (if 6 ≤ x1 then some (Sum.inr ((Sum.inl 0, σ))) else (match g44 x1 σ with | some (Sum.inl v2, s3) => (if v2 = 0 then g43_44 x1 s3 else (bif xn x1 6 then (match g39 (s3 8 (Int32.toNatClampNeg x1)) s3 with | some (Sum.inl v7, s8) => g43_44 x1 (xh_ui s8 9 (Int32.toNatClampNeg x1) ((s3 9 (Int32.toNatClampNeg x1)) &&& v7)) | some (Sum.inr v7, s8) => none | none => none) else none)) | some (Sum.inr v2, s3) => none | none => none))
def g43_2 (x1 : Int32) (σ : xS) : Option xQ := xlo (fun a : Int32 × xS => g43_2b a.1 a.2) 1000 (x1, σ)
def g43  (σ : xS) : xO := g43_2 0 σ
def a43_2 (l : Launch) (Ω : xo_O) (d p : Nat) (τ : Nat → Nat → Int64) (r : xv_R) : Int32 × xS → Prop := fun a => xv l Ω (d + 3) 0 0 43 2 [some (.ref 0), some (.int a.1)] [] (hM p a.2 τ) r
theorem g43_44_ok {l : Launch} {Ω : xo_O} (htr : xH l) (d : Nat) (p : Nat) (τ : Nat → Nat → Int64) (x1 : Int32) (σ : xS) (r : xv_R) (H : xo (xd (a43_2 l Ω d p τ r) (xB true p τ r)) (g43_44 x1 σ)) : xv l Ω (d + 3) 0 0 43 44 [some (.ref 0), some (.int x1)] [] (hM p σ τ) r := by
  unfold g43_44 at H
  refine xp_ok htr 2 (d + 3) 0 0 [] 43 44 [some (.ref 0), some (.int x1)] [] (hM p σ τ) ?_
  show xv l Ω (d + 3) 0 0 43 2 [some (.ref 0), some (.int (x1 + 1))] [] (hM p σ τ) r
  exact xv_sub (L' := [some (.ref 0), some (.int (x1 + 1))]) ⟨rfl, ⟨rfl, trivial⟩⟩ H
theorem g43_2b_ok {l : Launch} {Ω : xo_O} (htr : xH l) (d : Nat) (p : Nat) (τ : Nat → Nat → Int64) (x1 : Int32) (σ : xS) (r : xv_R) (H : xo (xd (a43_2 l Ω d p τ r) (xB true p τ r)) (g43_2b x1 σ)) : xv l Ω (d + 3) 0 0 43 2 [some (.ref 0), some (.int x1)] [] (hM p σ τ) r := by
  unfold g43_2b at H
  by_cases h1 : 6 ≤ x1
  · rw [if_pos h1] at H
    refine xp_ok htr 3 (d + 3) 0 0 [eB true] 43 2 [some (.ref 0), some (.int x1)] [] (hM p σ τ) ⟨h1, ?_⟩
    show xv l Ω (d + 3) 0 0 43 50 [some (.ref 0), some (.int x1)] [] (hM p σ τ) r
    exact xp_ok htr 1 (d + 3) 0 0 [] 43 50 [some (.ref 0), some (.int x1)] [] (hM p σ τ) ⟨trivial, (Eq.symm H)⟩
  · rw [if_neg h1] at H
    refine xp_ok htr 3 (d + 3) 0 0 [eB false] 43 2 [some (.ref 0), some (.int x1)] [] (hM p σ τ) ⟨h1, ?_⟩
    show xv l Ω (d + 3) 0 0 43 8 [some (.ref 0), some (.int x1)] [] (hM p σ τ) r
    cases q4 : g44 x1 σ with
    | none => rw [q4] at H; exact False.elim H
    | some q40 =>
      obtain ⟨v2 | v2, s3⟩ := q40
      · rw [q4] at H; dsimp only at H
        have hc := g44_run (Ω := Ω) htr (d + 2) p τ x1 σ q4
        refine xp_ok htr 4 (d + 3) 0 0 [eC (some (.int v2)) (hM p s3 τ)] 43 8 [some (.ref 0), some (.int x1)] [] (hM p σ τ) ⟨hc, ?_⟩
        show xv l Ω (d + 3) 0 0 43 16 [some (.ref 0), some (.int x1)] [.int v2] (hM p s3 τ) r
        by_cases h5 : v2 = 0
        · rw [if_pos h5] at H
          refine xp_ok htr 1 (d + 3) 0 0 [eB true] 43 16 [some (.ref 0), some (.int x1)] [.int v2] (hM p s3 τ) ⟨h5, ?_⟩
          show xv l Ω (d + 3) 0 0 43 44 [some (.ref 0), some (.int x1)] [] (hM p s3 τ) r
          exact xv_sub (L' := [some (.ref 0), some (.int x1)]) ⟨rfl, ⟨rfl, trivial⟩⟩ (g43_44_ok htr d p τ x1 s3 r H)
        · rw [if_neg h5] at H
          refine xp_ok htr 1 (d + 3) 0 0 [eB false] 43 16 [some (.ref 0), some (.int x1)] [.int v2] (hM p s3 τ) ⟨h5, ?_⟩
          show xv l Ω (d + 3) 0 0 43 19 [some (.ref 0), some (.int x1)] [] (hM p s3 τ) r
          cases g6 : xn x1 6 with
          | false => rw [g6, cond_false] at H; exact False.elim H
          | true =>
            rw [g6, cond_true] at H
            refine xp_ok htr 8 (d + 3) 0 0 [] 43 19 [some (.ref 0), some (.int x1)] [] (hM p s3 τ) ⟨(xn_in g6), ?_⟩
            show xv l Ω (d + 3) 0 0 43 31 [some (.ref 0), some (.int x1)] [.ref 0, .ref 0, .int (s3 9 (Int32.toNatClampNeg x1)), .int x1, .ref 9] (hM p s3 τ) r
            cases q9 : g39 (s3 8 (Int32.toNatClampNeg x1)) s3 with
            | none => rw [q9] at H; exact False.elim H
            | some q90 =>
              obtain ⟨v7 | v7, s8⟩ := q90
              · rw [q9] at H; dsimp only at H
                have hc := g39_run (Ω := Ω) htr d p τ (s3 8 (Int32.toNatClampNeg x1)) s3 q9
                refine xp_ok htr 5 (d + 3) 0 0 [eC (some (.int v7)) (hM p s8 τ)] 43 31 [some (.ref 0), some (.int x1)] [.ref 0, .ref 0, .int (s3 9 (Int32.toNatClampNeg x1)), .int x1, .ref 9] (hM p s3 τ) ⟨(xn_in g6), hc, ?_⟩
                show xv l Ω (d + 3) 0 0 43 42 [some (.ref 0), some (.int x1)] [.int v7, .int (s3 9 (Int32.toNatClampNeg x1)), .int x1, .ref 9] (hM p s8 τ) r
                refine xp_ok htr 2 (d + 3) 0 0 [] 43 42 [some (.ref 0), some (.int x1)] [.int v7, .int (s3 9 (Int32.toNatClampNeg x1)), .int x1, .ref 9] (hM p s8 τ) ⟨(xn_in g6), ?_⟩
                show xv l Ω (d + 3) 0 0 43 44 [some (.ref 0), some (.int x1)] [] (hM p (xh_ui s8 9 (Int32.toNatClampNeg x1) ((s3 9 (Int32.toNatClampNeg x1)) &&& v7)) τ) r
                exact xv_sub (L' := [some (.ref 0), some (.int x1)]) ⟨rfl, ⟨rfl, trivial⟩⟩ (g43_44_ok htr d p τ x1 (xh_ui s8 9 (Int32.toNatClampNeg x1) ((s3 9 (Int32.toNatClampNeg x1)) &&& v7)) r H)
              · rw [q9] at H; exact False.elim H
      · rw [q4] at H; exact False.elim H
theorem g43_2_ok {l : Launch} {Ω : xo_O} (htr : xH l) (d : Nat) (p : Nat) (τ : Nat → Nat → Int64) (x1 : Int32) (σ : xS) (r : xv_R) (H : xo (xB true p τ r) (g43_2 x1 σ)) : xv l Ω (d + 3) 0 0 43 2 [some (.ref 0), some (.int x1)] [] (hM p σ τ) r :=
  xlo_ok (A := a43_2 l Ω d p τ r) (fun a H => g43_2b_ok htr d p τ a.1 a.2 r H) 1000 (x1, σ) H
theorem g43_run {l : Launch} {Ω : xo_O} (htr : xH l) (d : Nat) (p : Nat) (τ : Nat → Nat → Int64)  (σ : xS) {q : xQ} (hq : g43  σ = some q) : xv l Ω (d + 3) 0 0 43 0 (xs_loc (xm_l 43) [.ref 0]) [] (hM p σ τ) (xq_R true p τ q) := by
  have H : xo (xB true p τ (xq_R true p τ q)) (g43  σ) := by rw [hq]; exact rfl
  generalize xq_R true p τ q = r at H ⊢
  show xv l Ω (d + 3) 0 0 43 0 [some (.ref 0), none] [] (hM p σ τ) r
  unfold g43 at H
  refine xp_ok htr 2 (d + 3) 0 0 [] 43 0 [some (.ref 0), none] [] (hM p σ τ) ?_
  show xv l Ω (d + 3) 0 0 43 2 [some (.ref 0), some (.int 0)] [] (hM p σ τ) r
  exact xv_sub (L' := [some (.ref 0), some (.int 0)]) ⟨rfl, ⟨rfl, trivial⟩⟩ (g43_2_ok htr d p τ 0 σ r H)
/- AccessDesk.unsenior -/
def g42_19 (x1 : Int32) (x2 : Int32) (k0 : Int32) (σ : xS) : Option xQ := (match g26 k0 σ with | some (Sum.inl v5, s6) => (match g27 x1 x2 s6 with | some (Sum.inl v8, s9) => (match g31 v8 s9 with | some (Sum.inl v11, s12) => (match g40 x1 x2 s12 with | some (Sum.inl v14, s15) => (match g43 s15 with | some (Sum.inl v17, s18) => some ((Sum.inl 0, s18)) | some (Sum.inr v17, s18) => none | none => none) | some (Sum.inr v14, s15) => none | none => none) | some (Sum.inr v11, s12) => some ((Sum.inr v11, s12)) | none => none) | some (Sum.inr v8, s9) => none | none => none) | some (Sum.inr v5, s6) => some ((Sum.inr v5, s6)) | none => none)
def g42_18 (x1 : Int32) (x2 : Int32) (σ : xS) : Option xQ := g42_19 x1 x2 0 σ
def g42 (a1 : Int32) (a2 : Int32) (σ : xS) : xO := (match g24 a1 σ with | some (Sum.inl v1, s2) => (if v1 = 0 then g42_18 a1 a2 s2 else (match g24 a2 s2 with | some (Sum.inl v20, s21) => (if v20 = 0 then g42_18 a1 a2 s21 else g42_19 a1 a2 1 s21) | some (Sum.inr v20, s21) => none | none => none)) | some (Sum.inr v1, s2) => none | none => none)
theorem g42_19_ok {l : Launch} {Ω : xo_O} (htr : xH l) (d : Nat) (p : Nat) (τ : Nat → Nat → Int64) (x1 : Int32) (x2 : Int32) (k0 : Int32) (σ : xS) (r : xv_R) (H : xo (xB true p τ r) (g42_19 x1 x2 k0 σ)) : xv l Ω (d + 7) 2 12 42 19 [some (.ref 0), some (.int x1), some (.int x2)] [.int k0] (hM p σ τ) r := by
  unfold g42_19 at H
  cases q7 : g26 k0 σ with
  | none => rw [q7] at H; exact False.elim H
  | some q70 =>
    obtain ⟨v5 | v5, s6⟩ := q70
    · rw [q7] at H; dsimp only at H
      have hc := g26_run (Ω := Ω) htr d p τ k0 σ q7
      refine xp_ok htr 1 (d + 7) 2 12 [eN none (hM p s6 τ) 1 6] 42 19 [some (.ref 0), some (.int x1), some (.int x2)] [.int k0] (hM p σ τ) ⟨hc, ?_⟩
      show xv l Ω (d + 7) 1 6 42 22 [some (.ref 0), some (.int x1), some (.int x2)] [] (hM p s6 τ) r
      cases q10 : g27 x1 x2 s6 with
      | none => rw [q10] at H; exact False.elim H
      | some q100 =>
        obtain ⟨v8 | v8, s9⟩ := q100
        · rw [q10] at H; dsimp only at H
          have hc := g27_run (Ω := Ω) htr (d + 5) p τ x1 x2 s6 q10
          refine xp_ok htr 5 (d + 7) 1 6 [eC (some (.int v8)) (hM p s9 τ)] 42 22 [some (.ref 0), some (.int x1), some (.int x2)] [] (hM p s6 τ) ⟨hc, ?_⟩
          show xv l Ω (d + 7) 1 6 42 31 [some (.ref 0), some (.int x1), some (.int x2)] [.int v8] (hM p s9 τ) r
          cases q13 : g31 v8 s9 with
          | none => rw [q13] at H; exact False.elim H
          | some q130 =>
            obtain ⟨v11 | v11, s12⟩ := q130
            · rw [q13] at H; dsimp only at H
              have hc := g31_run (Ω := Ω) htr d p τ v8 s9 q13
              refine xp_ok htr 1 (d + 7) 1 6 [eN none (hM p s12 τ) 1 6] 42 31 [some (.ref 0), some (.int x1), some (.int x2)] [.int v8] (hM p s9 τ) ⟨hc, ?_⟩
              show xv l Ω (d + 7) 0 0 42 34 [some (.ref 0), some (.int x1), some (.int x2)] [] (hM p s12 τ) r
              cases q16 : g40 x1 x2 s12 with
              | none => rw [q16] at H; exact False.elim H
              | some q160 =>
                obtain ⟨v14 | v14, s15⟩ := q160
                · rw [q16] at H; dsimp only at H
                  have hc := g40_run (Ω := Ω) htr (d + 6) p τ x1 x2 s12 q16
                  refine xp_ok htr 5 (d + 7) 0 0 [eC none (hM p s15 τ)] 42 34 [some (.ref 0), some (.int x1), some (.int x2)] [] (hM p s12 τ) ⟨hc, ?_⟩
                  show xv l Ω (d + 7) 0 0 42 43 [some (.ref 0), some (.int x1), some (.int x2)] [] (hM p s15 τ) r
                  cases q19 : g43 s15 with
                  | none => rw [q19] at H; exact False.elim H
                  | some q190 =>
                    obtain ⟨v17 | v17, s18⟩ := q190
                    · rw [q19] at H; dsimp only at H
                      have hc := g43_run (Ω := Ω) htr (d + 3) p τ  s15 q19
                      refine xp_ok htr 2 (d + 7) 0 0 [eC none (hM p s18 τ)] 42 43 [some (.ref 0), some (.int x1), some (.int x2)] [] (hM p s15 τ) ⟨hc, ?_⟩
                      show xv l Ω (d + 7) 0 0 42 47 [some (.ref 0), some (.int x1), some (.int x2)] [] (hM p s18 τ) r
                      exact xp_ok htr 1 (d + 7) 0 0 [] 42 47 [some (.ref 0), some (.int x1), some (.int x2)] [] (hM p s18 τ) ⟨trivial, (Eq.symm H)⟩
                    · rw [q19] at H; exact False.elim H
                · rw [q16] at H; exact False.elim H
            · rw [q13] at H; dsimp only at H
              have hc := g31_run (Ω := Ω) htr d p τ v8 s9 q13
              exact xp_ok htr 1 (d + 7) 1 6 [eT v11 (hM p s12 τ) 1 6] 42 31 [some (.ref 0), some (.int x1), some (.int x2)] [.int v8] (hM p s9 τ) ⟨hc, (Eq.symm H)⟩
        · rw [q10] at H; exact False.elim H
    · rw [q7] at H; dsimp only at H
      have hc := g26_run (Ω := Ω) htr d p τ k0 σ q7
      exact xp_ok htr 1 (d + 7) 2 12 [eT v5 (hM p s6 τ) 1 6] 42 19 [some (.ref 0), some (.int x1), some (.int x2)] [.int k0] (hM p σ τ) ⟨hc, (Eq.symm H)⟩
theorem g42_18_ok {l : Launch} {Ω : xo_O} (htr : xH l) (d : Nat) (p : Nat) (τ : Nat → Nat → Int64) (x1 : Int32) (x2 : Int32) (σ : xS) (r : xv_R) (H : xo (xB true p τ r) (g42_18 x1 x2 σ)) : xv l Ω (d + 7) 2 12 42 18 [some (.ref 0), some (.int x1), some (.int x2)] [] (hM p σ τ) r := by
  unfold g42_18 at H
  refine xp_ok htr 1 (d + 7) 2 12 [] 42 18 [some (.ref 0), some (.int x1), some (.int x2)] [] (hM p σ τ) ?_
  show xv l Ω (d + 7) 2 12 42 19 [some (.ref 0), some (.int x1), some (.int x2)] [.int 0] (hM p σ τ) r
  exact xv_sub (L' := [some (.ref 0), some (.int x1), some (.int x2)]) ⟨rfl, ⟨rfl, ⟨rfl, trivial⟩⟩⟩ (g42_19_ok htr d p τ x1 x2 0 σ r H)
theorem g42_run {l : Launch} {Ω : xo_O} (htr : xH l) (d : Nat) (p : Nat) (τ : Nat → Nat → Int64) (a1 : Int32) (a2 : Int32) (σ : xS) {q : xQ} (hq : g42 a1 a2 σ = some q) : xv l Ω (d + 7) 2 12 42 0 (xs_loc (xm_l 42) [.ref 0, .int a1, .int a2]) [] (hM p σ τ) (xq_R true p τ q) := by
  have H : xo (xB true p τ (xq_R true p τ q)) (g42 a1 a2 σ) := by rw [hq]; exact rfl
  generalize xq_R true p τ q = r at H ⊢
  show xv l Ω (d + 7) 2 12 42 0 [some (.ref 0), some (.int a1), some (.int a2)] [] (hM p σ τ) r
  unfold g42 at H
  cases q3 : g24 a1 σ with
  | none => rw [q3] at H; exact False.elim H
  | some q30 =>
    obtain ⟨v1 | v1, s2⟩ := q30
    · rw [q3] at H; dsimp only at H
      have hc := g24_run (Ω := Ω) htr (d + 5) p τ a1 σ q3
      refine xp_ok htr 2 (d + 7) 2 12 [eC (some (.int v1)) (hM p s2 τ)] 42 0 [some (.ref 0), some (.int a1), some (.int a2)] [] (hM p σ τ) ⟨hc, ?_⟩
      show xv l Ω (d + 7) 2 12 42 4 [some (.ref 0), some (.int a1), some (.int a2)] [.int v1] (hM p s2 τ) r
      by_cases h4 : v1 = 0
      · rw [if_pos h4] at H
        refine xp_ok htr 1 (d + 7) 2 12 [eB true] 42 4 [some (.ref 0), some (.int a1), some (.int a2)] [.int v1] (hM p s2 τ) ⟨h4, ?_⟩
        show xv l Ω (d + 7) 2 12 42 18 [some (.ref 0), some (.int a1), some (.int a2)] [] (hM p s2 τ) r
        exact xv_sub (L' := [some (.ref 0), some (.int a1), some (.int a2)]) ⟨rfl, ⟨rfl, ⟨rfl, trivial⟩⟩⟩ (g42_18_ok htr d p τ a1 a2 s2 r H)
      · rw [if_neg h4] at H
        refine xp_ok htr 1 (d + 7) 2 12 [eB false] 42 4 [some (.ref 0), some (.int a1), some (.int a2)] [.int v1] (hM p s2 τ) ⟨h4, ?_⟩
        show xv l Ω (d + 7) 2 12 42 7 [some (.ref 0), some (.int a1), some (.int a2)] [] (hM p s2 τ) r
        cases q22 : g24 a2 s2 with
        | none => rw [q22] at H; exact False.elim H
        | some q220 =>
          obtain ⟨v20 | v20, s21⟩ := q220
          · rw [q22] at H; dsimp only at H
            have hc := g24_run (Ω := Ω) htr (d + 5) p τ a2 s2 q22
            refine xp_ok htr 2 (d + 7) 2 12 [eC (some (.int v20)) (hM p s21 τ)] 42 7 [some (.ref 0), some (.int a1), some (.int a2)] [] (hM p s2 τ) ⟨hc, ?_⟩
            show xv l Ω (d + 7) 2 12 42 11 [some (.ref 0), some (.int a1), some (.int a2)] [.int v20] (hM p s21 τ) r
            by_cases h23 : v20 = 0
            · rw [if_pos h23] at H
              refine xp_ok htr 1 (d + 7) 2 12 [eB true] 42 11 [some (.ref 0), some (.int a1), some (.int a2)] [.int v20] (hM p s21 τ) ⟨h23, ?_⟩
              show xv l Ω (d + 7) 2 12 42 18 [some (.ref 0), some (.int a1), some (.int a2)] [] (hM p s21 τ) r
              exact xv_sub (L' := [some (.ref 0), some (.int a1), some (.int a2)]) ⟨rfl, ⟨rfl, ⟨rfl, trivial⟩⟩⟩ (g42_18_ok htr d p τ a1 a2 s21 r H)
            · rw [if_neg h23] at H
              refine xp_ok htr 1 (d + 7) 2 12 [eB false] 42 11 [some (.ref 0), some (.int a1), some (.int a2)] [.int v20] (hM p s21 τ) ⟨h23, ?_⟩
              show xv l Ω (d + 7) 2 12 42 14 [some (.ref 0), some (.int a1), some (.int a2)] [] (hM p s21 τ) r
              refine xp_ok htr 2 (d + 7) 2 12 [] 42 14 [some (.ref 0), some (.int a1), some (.int a2)] [] (hM p s21 τ) ?_
              show xv l Ω (d + 7) 2 12 42 19 [some (.ref 0), some (.int a1), some (.int a2)] [.int 1] (hM p s21 τ) r
              exact xv_sub (L' := [some (.ref 0), some (.int a1), some (.int a2)]) ⟨rfl, ⟨rfl, ⟨rfl, trivial⟩⟩⟩ (g42_19_ok htr d p τ a1 a2 1 s21 r H)
          · rw [q22] at H; exact False.elim H
    · rw [q3] at H; exact False.elim H
/- AccessDesk.isUser -/
def g47 (a0 : Int32) (σ : xS) : xO := (match g25 a0 8 σ with | some (Sum.inl v1, s2) => (bif decide (v1 = 0 ∨ v1 = 1) then some ((Sum.inl v1, s2)) else none) | some (Sum.inr v1, s2) => none | none => none)
theorem g47_run {l : Launch} {Ω : xo_O} (htr : xH l) (d : Nat) (p : Nat) (τ : Nat → Nat → Int64) (a0 : Int32) (σ : xS) {q : xQ} (hq : g47 a0 σ = some q) : xv l Ω (d + 1) 0 0 47 0 (xs_loc (xm_l 47) [.int a0]) [] (hM p σ τ) (xq_R false p τ q) := by
  have H : xo (xB false p τ (xq_R false p τ q)) (g47 a0 σ) := by rw [hq]; exact rfl
  generalize xq_R false p τ q = r at H ⊢
  show xv l Ω (d + 1) 0 0 47 0 [some (.int a0)] [] (hM p σ τ) r
  unfold g47 at H
  cases q3 : g25 a0 8 σ with
  | none => rw [q3] at H; exact False.elim H
  | some q30 =>
    obtain ⟨v1 | v1, s2⟩ := q30
    · rw [q3] at H; dsimp only at H
      have hc := g25_run (Ω := Ω) htr d p τ a0 8 σ q3
      refine xp_ok htr 3 (d + 1) 0 0 [eC (some (.int v1)) (hM p s2 τ)] 47 0 [some (.int a0)] [] (hM p σ τ) ⟨hc, ?_⟩
      show xv l Ω (d + 1) 0 0 47 6 [some (.int a0)] [.int v1] (hM p s2 τ) r
      cases g4 : decide (v1 = 0 ∨ v1 = 1) with
      | false => rw [g4, cond_false] at H; exact False.elim H
      | true =>
        rw [g4, cond_true] at H
        exact xp_ok htr 1 (d + 1) 0 0 [] 47 6 [some (.int a0)] [.int v1] (hM p s2 τ) ⟨(xb01 g4), (Eq.symm H)⟩
    · rw [q3] at H; exact False.elim H
/- AccessDesk$Users.isGiven -/
def g48 (a1 : Int32) (a2 : Int32) (σ : xS) : xO := (bif xn a1 8 then (match g28 (σ 4 (Int32.toNatClampNeg a1)) a2 σ with | some (Sum.inl v2, s3) => (bif decide (v2 = 0 ∨ v2 = 1) then some ((Sum.inl v2, s3)) else none) | some (Sum.inr v2, s3) => none | none => none) else none)
theorem g48_run {l : Launch} {Ω : xo_O} (htr : xH l) (d : Nat) (p : Nat) (τ : Nat → Nat → Int64) (a1 : Int32) (a2 : Int32) (σ : xS) {q : xQ} (hq : g48 a1 a2 σ = some q) : xv l Ω (d + 1) 0 0 48 0 (xs_loc (xm_l 48) [.ref 3, .int a1, .int a2]) [] (hM p σ τ) (xq_R false p τ q) := by
  have H : xo (xB false p τ (xq_R false p τ q)) (g48 a1 a2 σ) := by rw [hq]; exact rfl
  generalize xq_R false p τ q = r at H ⊢
  show xv l Ω (d + 1) 0 0 48 0 [some (.ref 3), some (.int a1), some (.int a2)] [] (hM p σ τ) r
  unfold g48 at H
  cases g1 : xn a1 8 with
  | false => rw [g1, cond_false] at H; exact False.elim H
  | true =>
    rw [g1, cond_true] at H
    cases q4 : g28 (σ 4 (Int32.toNatClampNeg a1)) a2 σ with
    | none => rw [q4] at H; exact False.elim H
    | some q40 =>
      obtain ⟨v2 | v2, s3⟩ := q40
      · rw [q4] at H; dsimp only at H
        have hc := g28_run (Ω := Ω) htr d p τ (σ 4 (Int32.toNatClampNeg a1)) a2 σ q4
        refine xp_ok htr 6 (d + 1) 0 0 [eC (some (.int v2)) (hM p s3 τ)] 48 0 [some (.ref 3), some (.int a1), some (.int a2)] [] (hM p σ τ) ⟨(xn_in g1), hc, ?_⟩
        show xv l Ω (d + 1) 0 0 48 10 [some (.ref 3), some (.int a1), some (.int a2)] [.int v2] (hM p s3 τ) r
        cases g5 : decide (v2 = 0 ∨ v2 = 1) with
        | false => rw [g5, cond_false] at H; exact False.elim H
        | true =>
          rw [g5, cond_true] at H
          exact xp_ok htr 1 (d + 1) 0 0 [] 48 10 [some (.ref 3), some (.int a1), some (.int a2)] [.int v2] (hM p s3 τ) ⟨(xb01 g5), (Eq.symm H)⟩
      · rw [q4] at H; exact False.elim H
/- AccessDesk$Users.give -/
def g49 (a1 : Int32) (a2 : Int32) (σ : xS) : xO := (bif xn a1 8 then some ((Sum.inl 0, (xh_ui σ 4 (Int32.toNatClampNeg a1) ((σ 4 (Int32.toNatClampNeg a1)) ||| (1 <<< (a2 &&& 31)))))) else none)
theorem g49_run {l : Launch} {Ω : xo_O} (htr : xH l) (d : Nat) (p : Nat) (τ : Nat → Nat → Int64) (a1 : Int32) (a2 : Int32) (σ : xS) {q : xQ} (hq : g49 a1 a2 σ = some q) : xv l Ω d 0 0 49 0 (xs_loc (xm_l 49) [.ref 3, .int a1, .int a2]) [] (hM p σ τ) (xq_R true p τ q) := by
  have H : xo (xB true p τ (xq_R true p τ q)) (g49 a1 a2 σ) := by rw [hq]; exact rfl
  generalize xq_R true p τ q = r at H ⊢
  show xv l Ω d 0 0 49 0 [some (.ref 3), some (.int a1), some (.int a2)] [] (hM p σ τ) r
  unfold g49 at H
  cases g1 : xn a1 8 with
  | false => rw [g1, cond_false] at H; exact False.elim H
  | true =>
    rw [g1, cond_true] at H
    refine xp_ok htr 8 d 0 0 [] 49 0 [some (.ref 3), some (.int a1), some (.int a2)] [] (hM p σ τ) ⟨(xn_in g1), ?_⟩
    show xv l Ω d 0 0 49 10 [some (.ref 3), some (.int a1), some (.int a2)] [.int (1 <<< (a2 &&& 31)), .int (σ 4 (Int32.toNatClampNeg a1)), .int a1, .ref 4] (hM p σ τ) r
    exact xp_ok htr 3 d 0 0 [] 49 10 [some (.ref 3), some (.int a1), some (.int a2)] [.int (1 <<< (a2 &&& 31)), .int (σ 4 (Int32.toNatClampNeg a1)), .int a1, .ref 4] (hM p σ τ) ⟨(xn_in g1), trivial, (Eq.symm H)⟩
/- AccessDesk$Users.take -/
def g50 (a1 : Int32) (a2 : Int32) (σ : xS) : xO := (bif xn a1 8 then some ((Sum.inl 0, (xh_ui σ 4 (Int32.toNatClampNeg a1) ((σ 4 (Int32.toNatClampNeg a1)) &&& ((1 <<< (a2 &&& 31)) ^^^ (-1)))))) else none)
theorem g50_run {l : Launch} {Ω : xo_O} (htr : xH l) (d : Nat) (p : Nat) (τ : Nat → Nat → Int64) (a1 : Int32) (a2 : Int32) (σ : xS) {q : xQ} (hq : g50 a1 a2 σ = some q) : xv l Ω d 0 0 50 0 (xs_loc (xm_l 50) [.ref 3, .int a1, .int a2]) [] (hM p σ τ) (xq_R true p τ q) := by
  have H : xo (xB true p τ (xq_R true p τ q)) (g50 a1 a2 σ) := by rw [hq]; exact rfl
  generalize xq_R true p τ q = r at H ⊢
  show xv l Ω d 0 0 50 0 [some (.ref 3), some (.int a1), some (.int a2)] [] (hM p σ τ) r
  unfold g50 at H
  cases g1 : xn a1 8 with
  | false => rw [g1, cond_false] at H; exact False.elim H
  | true =>
    rw [g1, cond_true] at H
    refine xp_ok htr 8 d 0 0 [] 50 0 [some (.ref 3), some (.int a1), some (.int a2)] [] (hM p σ τ) ⟨(xn_in g1), ?_⟩
    show xv l Ω d 0 0 50 10 [some (.ref 3), some (.int a1), some (.int a2)] [.int (1 <<< (a2 &&& 31)), .int (σ 4 (Int32.toNatClampNeg a1)), .int a1, .ref 4] (hM p σ τ) r
    exact xp_ok htr 5 d 0 0 [] 50 10 [some (.ref 3), some (.int a1), some (.int a2)] [.int (1 <<< (a2 &&& 31)), .int (σ 4 (Int32.toNatClampNeg a1)), .int a1, .ref 4] (hM p σ τ) ⟨(xn_in g1), trivial, (Eq.symm H)⟩
/- AccessDesk.assign -/
def g46_39 (x1 : Int32) (x2 : Int32) (k0 : Int32) (σ : xS) : Option xQ := (match g31 k0 σ with | some (Sum.inl v12, s13) => (match g49 x1 x2 s13 with | some (Sum.inl v15, s16) => (match g33 s16 with | some (Sum.inl v18, s19) => (if v18 = 0 then some ((Sum.inl 0, s19)) else (match g50 x1 x2 s19 with | some (Sum.inl v22, s23) => some ((Sum.inr 1, s23)) | some (Sum.inr v22, s23) => none | none => none)) | some (Sum.inr v18, s19) => none | none => none) | some (Sum.inr v15, s16) => none | none => none) | some (Sum.inr v12, s13) => some ((Sum.inr v12, s13)) | none => none)
def g46_19 (x1 : Int32) (x2 : Int32) (k0 : Int32) (σ : xS) : Option xQ := (match g26 k0 σ with | some (Sum.inl v5, s6) => (match g48 x1 x2 s6 with | some (Sum.inl v8, s9) => (if v8 = 0 then g46_39 x1 x2 1 s9 else g46_39 x1 x2 0 s9) | some (Sum.inr v8, s9) => none | none => none) | some (Sum.inr v5, s6) => some ((Sum.inr v5, s6)) | none => none)
def g46_18 (x1 : Int32) (x2 : Int32) (σ : xS) : Option xQ := g46_19 x1 x2 0 σ
def g46 (a1 : Int32) (a2 : Int32) (σ : xS) : xO := (match g47 a1 σ with | some (Sum.inl v1, s2) => (if v1 = 0 then g46_18 a1 a2 s2 else (match g24 a2 s2 with | some (Sum.inl v25, s26) => (if v25 = 0 then g46_18 a1 a2 s26 else g46_19 a1 a2 1 s26) | some (Sum.inr v25, s26) => none | none => none)) | some (Sum.inr v1, s2) => none | none => none)
theorem g46_39_ok {l : Launch} {Ω : xo_O} (htr : xH l) (d : Nat) (p : Nat) (τ : Nat → Nat → Int64) (x1 : Int32) (x2 : Int32) (k0 : Int32) (σ : xS) (r : xv_R) (H : xo (xB true p τ r) (g46_39 x1 x2 k0 σ)) : xv l Ω (d + 7) 2 12 46 39 [some (.ref 0), some (.int x1), some (.int x2)] [.int k0] (hM p σ τ) r := by
  unfold g46_39 at H
  cases q14 : g31 k0 σ with
  | none => rw [q14] at H; exact False.elim H
  | some q140 =>
    obtain ⟨v12 | v12, s13⟩ := q140
    · rw [q14] at H; dsimp only at H
      have hc := g31_run (Ω := Ω) htr d p τ k0 σ q14
      refine xp_ok htr 1 (d + 7) 2 12 [eN none (hM p s13 τ) 1 6] 46 39 [some (.ref 0), some (.int x1), some (.int x2)] [.int k0] (hM p σ τ) ⟨hc, ?_⟩
      show xv l Ω (d + 7) 1 6 46 42 [some (.ref 0), some (.int x1), some (.int x2)] [] (hM p s13 τ) r
      cases q17 : g49 x1 x2 s13 with
      | none => rw [q17] at H; exact False.elim H
      | some q170 =>
        obtain ⟨v15 | v15, s16⟩ := q170
        · rw [q17] at H; dsimp only at H
          have hc := g49_run (Ω := Ω) htr (d + 6) p τ x1 x2 s13 q17
          refine xp_ok htr 5 (d + 7) 1 6 [eC none (hM p s16 τ)] 46 42 [some (.ref 0), some (.int x1), some (.int x2)] [] (hM p s13 τ) ⟨hc, ?_⟩
          show xv l Ω (d + 7) 1 6 46 51 [some (.ref 0), some (.int x1), some (.int x2)] [] (hM p s16 τ) r
          cases q20 : g33 s16 with
          | none => rw [q20] at H; exact False.elim H
          | some q200 =>
            obtain ⟨v18 | v18, s19⟩ := q200
            · rw [q20] at H; dsimp only at H
              have hc := g33_run (Ω := Ω) htr (d + 1) p τ  s16 q20
              refine xp_ok htr 2 (d + 7) 1 6 [eC (some (.int v18)) (hM p s19 τ)] 46 51 [some (.ref 0), some (.int x1), some (.int x2)] [] (hM p s16 τ) ⟨hc, ?_⟩
              show xv l Ω (d + 7) 1 6 46 55 [some (.ref 0), some (.int x1), some (.int x2)] [.int v18] (hM p s19 τ) r
              by_cases h21 : v18 = 0
              · rw [if_pos h21] at H
                refine xp_ok htr 1 (d + 7) 1 6 [eB true] 46 55 [some (.ref 0), some (.int x1), some (.int x2)] [.int v18] (hM p s19 τ) ⟨h21, ?_⟩
                show xv l Ω (d + 7) 1 6 46 77 [some (.ref 0), some (.int x1), some (.int x2)] [] (hM p s19 τ) r
                exact xp_ok htr 1 (d + 7) 1 6 [] 46 77 [some (.ref 0), some (.int x1), some (.int x2)] [] (hM p s19 τ) ⟨trivial, (Eq.symm H)⟩
              · rw [if_neg h21] at H
                refine xp_ok htr 1 (d + 7) 1 6 [eB false] 46 55 [some (.ref 0), some (.int x1), some (.int x2)] [.int v18] (hM p s19 τ) ⟨h21, ?_⟩
                show xv l Ω (d + 7) 1 6 46 58 [some (.ref 0), some (.int x1), some (.int x2)] [] (hM p s19 τ) r
                cases q24 : g50 x1 x2 s19 with
                | none => rw [q24] at H; exact False.elim H
                | some q240 =>
                  obtain ⟨v22 | v22, s23⟩ := q240
                  · rw [q24] at H; dsimp only at H
                    have hc := g50_run (Ω := Ω) htr (d + 6) p τ x1 x2 s19 q24
                    refine xp_ok htr 5 (d + 7) 1 6 [eC none (hM p s23 τ)] 46 58 [some (.ref 0), some (.int x1), some (.int x2)] [] (hM p s19 τ) ⟨hc, ?_⟩
                    show xv l Ω (d + 7) 1 6 46 67 [some (.ref 0), some (.int x1), some (.int x2)] [] (hM p s23 τ) r
                    exact xp_ok htr 1 (d + 7) 1 6 [] 46 67 [some (.ref 0), some (.int x1), some (.int x2)] [] (hM p s23 τ) (Eq.symm H)
                  · rw [q24] at H; exact False.elim H
            · rw [q20] at H; exact False.elim H
        · rw [q17] at H; exact False.elim H
    · rw [q14] at H; dsimp only at H
      have hc := g31_run (Ω := Ω) htr d p τ k0 σ q14
      exact xp_ok htr 1 (d + 7) 2 12 [eT v12 (hM p s13 τ) 1 6] 46 39 [some (.ref 0), some (.int x1), some (.int x2)] [.int k0] (hM p σ τ) ⟨hc, (Eq.symm H)⟩
theorem g46_19_ok {l : Launch} {Ω : xo_O} (htr : xH l) (d : Nat) (p : Nat) (τ : Nat → Nat → Int64) (x1 : Int32) (x2 : Int32) (k0 : Int32) (σ : xS) (r : xv_R) (H : xo (xB true p τ r) (g46_19 x1 x2 k0 σ)) : xv l Ω (d + 7) 3 18 46 19 [some (.ref 0), some (.int x1), some (.int x2)] [.int k0] (hM p σ τ) r := by
  unfold g46_19 at H
  cases q7 : g26 k0 σ with
  | none => rw [q7] at H; exact False.elim H
  | some q70 =>
    obtain ⟨v5 | v5, s6⟩ := q70
    · rw [q7] at H; dsimp only at H
      have hc := g26_run (Ω := Ω) htr d p τ k0 σ q7
      refine xp_ok htr 1 (d + 7) 3 18 [eN none (hM p s6 τ) 1 6] 46 19 [some (.ref 0), some (.int x1), some (.int x2)] [.int k0] (hM p σ τ) ⟨hc, ?_⟩
      show xv l Ω (d + 7) 2 12 46 22 [some (.ref 0), some (.int x1), some (.int x2)] [] (hM p s6 τ) r
      cases q10 : g48 x1 x2 s6 with
      | none => rw [q10] at H; exact False.elim H
      | some q100 =>
        obtain ⟨v8 | v8, s9⟩ := q100
        · rw [q10] at H; dsimp only at H
          have hc := g48_run (Ω := Ω) htr (d + 5) p τ x1 x2 s6 q10
          refine xp_ok htr 5 (d + 7) 2 12 [eC (some (.int v8)) (hM p s9 τ)] 46 22 [some (.ref 0), some (.int x1), some (.int x2)] [] (hM p s6 τ) ⟨hc, ?_⟩
          show xv l Ω (d + 7) 2 12 46 31 [some (.ref 0), some (.int x1), some (.int x2)] [.int v8] (hM p s9 τ) r
          by_cases h11 : v8 = 0
          · rw [if_pos h11] at H
            refine xp_ok htr 1 (d + 7) 2 12 [eB false] 46 31 [some (.ref 0), some (.int x1), some (.int x2)] [.int v8] (hM p s9 τ) ⟨h11, ?_⟩
            show xv l Ω (d + 7) 2 12 46 34 [some (.ref 0), some (.int x1), some (.int x2)] [] (hM p s9 τ) r
            refine xp_ok htr 2 (d + 7) 2 12 [] 46 34 [some (.ref 0), some (.int x1), some (.int x2)] [] (hM p s9 τ) ?_
            show xv l Ω (d + 7) 2 12 46 39 [some (.ref 0), some (.int x1), some (.int x2)] [.int 1] (hM p s9 τ) r
            exact xv_sub (L' := [some (.ref 0), some (.int x1), some (.int x2)]) ⟨rfl, ⟨rfl, ⟨rfl, trivial⟩⟩⟩ (g46_39_ok htr d p τ x1 x2 1 s9 r H)
          · rw [if_neg h11] at H
            refine xp_ok htr 1 (d + 7) 2 12 [eB true] 46 31 [some (.ref 0), some (.int x1), some (.int x2)] [.int v8] (hM p s9 τ) ⟨h11, ?_⟩
            show xv l Ω (d + 7) 2 12 46 38 [some (.ref 0), some (.int x1), some (.int x2)] [] (hM p s9 τ) r
            refine xp_ok htr 1 (d + 7) 2 12 [] 46 38 [some (.ref 0), some (.int x1), some (.int x2)] [] (hM p s9 τ) ?_
            show xv l Ω (d + 7) 2 12 46 39 [some (.ref 0), some (.int x1), some (.int x2)] [.int 0] (hM p s9 τ) r
            exact xv_sub (L' := [some (.ref 0), some (.int x1), some (.int x2)]) ⟨rfl, ⟨rfl, ⟨rfl, trivial⟩⟩⟩ (g46_39_ok htr d p τ x1 x2 0 s9 r H)
        · rw [q10] at H; exact False.elim H
    · rw [q7] at H; dsimp only at H
      have hc := g26_run (Ω := Ω) htr d p τ k0 σ q7
      exact xp_ok htr 1 (d + 7) 3 18 [eT v5 (hM p s6 τ) 1 6] 46 19 [some (.ref 0), some (.int x1), some (.int x2)] [.int k0] (hM p σ τ) ⟨hc, (Eq.symm H)⟩
theorem g46_18_ok {l : Launch} {Ω : xo_O} (htr : xH l) (d : Nat) (p : Nat) (τ : Nat → Nat → Int64) (x1 : Int32) (x2 : Int32) (σ : xS) (r : xv_R) (H : xo (xB true p τ r) (g46_18 x1 x2 σ)) : xv l Ω (d + 7) 3 18 46 18 [some (.ref 0), some (.int x1), some (.int x2)] [] (hM p σ τ) r := by
  unfold g46_18 at H
  refine xp_ok htr 1 (d + 7) 3 18 [] 46 18 [some (.ref 0), some (.int x1), some (.int x2)] [] (hM p σ τ) ?_
  show xv l Ω (d + 7) 3 18 46 19 [some (.ref 0), some (.int x1), some (.int x2)] [.int 0] (hM p σ τ) r
  exact xv_sub (L' := [some (.ref 0), some (.int x1), some (.int x2)]) ⟨rfl, ⟨rfl, ⟨rfl, trivial⟩⟩⟩ (g46_19_ok htr d p τ x1 x2 0 σ r H)
theorem g46_run {l : Launch} {Ω : xo_O} (htr : xH l) (d : Nat) (p : Nat) (τ : Nat → Nat → Int64) (a1 : Int32) (a2 : Int32) (σ : xS) {q : xQ} (hq : g46 a1 a2 σ = some q) : xv l Ω (d + 7) 3 18 46 0 (xs_loc (xm_l 46) [.ref 0, .int a1, .int a2]) [] (hM p σ τ) (xq_R true p τ q) := by
  have H : xo (xB true p τ (xq_R true p τ q)) (g46 a1 a2 σ) := by rw [hq]; exact rfl
  generalize xq_R true p τ q = r at H ⊢
  show xv l Ω (d + 7) 3 18 46 0 [some (.ref 0), some (.int a1), some (.int a2)] [] (hM p σ τ) r
  unfold g46 at H
  cases q3 : g47 a1 σ with
  | none => rw [q3] at H; exact False.elim H
  | some q30 =>
    obtain ⟨v1 | v1, s2⟩ := q30
    · rw [q3] at H; dsimp only at H
      have hc := g47_run (Ω := Ω) htr (d + 5) p τ a1 σ q3
      refine xp_ok htr 2 (d + 7) 3 18 [eC (some (.int v1)) (hM p s2 τ)] 46 0 [some (.ref 0), some (.int a1), some (.int a2)] [] (hM p σ τ) ⟨hc, ?_⟩
      show xv l Ω (d + 7) 3 18 46 4 [some (.ref 0), some (.int a1), some (.int a2)] [.int v1] (hM p s2 τ) r
      by_cases h4 : v1 = 0
      · rw [if_pos h4] at H
        refine xp_ok htr 1 (d + 7) 3 18 [eB true] 46 4 [some (.ref 0), some (.int a1), some (.int a2)] [.int v1] (hM p s2 τ) ⟨h4, ?_⟩
        show xv l Ω (d + 7) 3 18 46 18 [some (.ref 0), some (.int a1), some (.int a2)] [] (hM p s2 τ) r
        exact xv_sub (L' := [some (.ref 0), some (.int a1), some (.int a2)]) ⟨rfl, ⟨rfl, ⟨rfl, trivial⟩⟩⟩ (g46_18_ok htr d p τ a1 a2 s2 r H)
      · rw [if_neg h4] at H
        refine xp_ok htr 1 (d + 7) 3 18 [eB false] 46 4 [some (.ref 0), some (.int a1), some (.int a2)] [.int v1] (hM p s2 τ) ⟨h4, ?_⟩
        show xv l Ω (d + 7) 3 18 46 7 [some (.ref 0), some (.int a1), some (.int a2)] [] (hM p s2 τ) r
        cases q27 : g24 a2 s2 with
        | none => rw [q27] at H; exact False.elim H
        | some q270 =>
          obtain ⟨v25 | v25, s26⟩ := q270
          · rw [q27] at H; dsimp only at H
            have hc := g24_run (Ω := Ω) htr (d + 5) p τ a2 s2 q27
            refine xp_ok htr 2 (d + 7) 3 18 [eC (some (.int v25)) (hM p s26 τ)] 46 7 [some (.ref 0), some (.int a1), some (.int a2)] [] (hM p s2 τ) ⟨hc, ?_⟩
            show xv l Ω (d + 7) 3 18 46 11 [some (.ref 0), some (.int a1), some (.int a2)] [.int v25] (hM p s26 τ) r
            by_cases h28 : v25 = 0
            · rw [if_pos h28] at H
              refine xp_ok htr 1 (d + 7) 3 18 [eB true] 46 11 [some (.ref 0), some (.int a1), some (.int a2)] [.int v25] (hM p s26 τ) ⟨h28, ?_⟩
              show xv l Ω (d + 7) 3 18 46 18 [some (.ref 0), some (.int a1), some (.int a2)] [] (hM p s26 τ) r
              exact xv_sub (L' := [some (.ref 0), some (.int a1), some (.int a2)]) ⟨rfl, ⟨rfl, ⟨rfl, trivial⟩⟩⟩ (g46_18_ok htr d p τ a1 a2 s26 r H)
            · rw [if_neg h28] at H
              refine xp_ok htr 1 (d + 7) 3 18 [eB false] 46 11 [some (.ref 0), some (.int a1), some (.int a2)] [.int v25] (hM p s26 τ) ⟨h28, ?_⟩
              show xv l Ω (d + 7) 3 18 46 14 [some (.ref 0), some (.int a1), some (.int a2)] [] (hM p s26 τ) r
              refine xp_ok htr 2 (d + 7) 3 18 [] 46 14 [some (.ref 0), some (.int a1), some (.int a2)] [] (hM p s26 τ) ?_
              show xv l Ω (d + 7) 3 18 46 19 [some (.ref 0), some (.int a1), some (.int a2)] [.int 1] (hM p s26 τ) r
              exact xv_sub (L' := [some (.ref 0), some (.int a1), some (.int a2)]) ⟨rfl, ⟨rfl, ⟨rfl, trivial⟩⟩⟩ (g46_19_ok htr d p τ a1 a2 1 s26 r H)
          · rw [q27] at H; exact False.elim H
    · rw [q3] at H; exact False.elim H
/- AccessDesk.withdraw -/
def g52_19 (x1 : Int32) (x2 : Int32) (k0 : Int32) (σ : xS) : Option xQ := (match g26 k0 σ with | some (Sum.inl v5, s6) => (match g48 x1 x2 s6 with | some (Sum.inl v8, s9) => (match g31 v8 s9 with | some (Sum.inl v11, s12) => (match g50 x1 x2 s12 with | some (Sum.inl v14, s15) => (match g43 s15 with | some (Sum.inl v17, s18) => some ((Sum.inl 0, s18)) | some (Sum.inr v17, s18) => none | none => none) | some (Sum.inr v14, s15) => none | none => none) | some (Sum.inr v11, s12) => some ((Sum.inr v11, s12)) | none => none) | some (Sum.inr v8, s9) => none | none => none) | some (Sum.inr v5, s6) => some ((Sum.inr v5, s6)) | none => none)
def g52_18 (x1 : Int32) (x2 : Int32) (σ : xS) : Option xQ := g52_19 x1 x2 0 σ
def g52 (a1 : Int32) (a2 : Int32) (σ : xS) : xO := (match g47 a1 σ with | some (Sum.inl v1, s2) => (if v1 = 0 then g52_18 a1 a2 s2 else (match g24 a2 s2 with | some (Sum.inl v20, s21) => (if v20 = 0 then g52_18 a1 a2 s21 else g52_19 a1 a2 1 s21) | some (Sum.inr v20, s21) => none | none => none)) | some (Sum.inr v1, s2) => none | none => none)
theorem g52_19_ok {l : Launch} {Ω : xo_O} (htr : xH l) (d : Nat) (p : Nat) (τ : Nat → Nat → Int64) (x1 : Int32) (x2 : Int32) (k0 : Int32) (σ : xS) (r : xv_R) (H : xo (xB true p τ r) (g52_19 x1 x2 k0 σ)) : xv l Ω (d + 7) 2 12 52 19 [some (.ref 0), some (.int x1), some (.int x2)] [.int k0] (hM p σ τ) r := by
  unfold g52_19 at H
  cases q7 : g26 k0 σ with
  | none => rw [q7] at H; exact False.elim H
  | some q70 =>
    obtain ⟨v5 | v5, s6⟩ := q70
    · rw [q7] at H; dsimp only at H
      have hc := g26_run (Ω := Ω) htr d p τ k0 σ q7
      refine xp_ok htr 1 (d + 7) 2 12 [eN none (hM p s6 τ) 1 6] 52 19 [some (.ref 0), some (.int x1), some (.int x2)] [.int k0] (hM p σ τ) ⟨hc, ?_⟩
      show xv l Ω (d + 7) 1 6 52 22 [some (.ref 0), some (.int x1), some (.int x2)] [] (hM p s6 τ) r
      cases q10 : g48 x1 x2 s6 with
      | none => rw [q10] at H; exact False.elim H
      | some q100 =>
        obtain ⟨v8 | v8, s9⟩ := q100
        · rw [q10] at H; dsimp only at H
          have hc := g48_run (Ω := Ω) htr (d + 5) p τ x1 x2 s6 q10
          refine xp_ok htr 5 (d + 7) 1 6 [eC (some (.int v8)) (hM p s9 τ)] 52 22 [some (.ref 0), some (.int x1), some (.int x2)] [] (hM p s6 τ) ⟨hc, ?_⟩
          show xv l Ω (d + 7) 1 6 52 31 [some (.ref 0), some (.int x1), some (.int x2)] [.int v8] (hM p s9 τ) r
          cases q13 : g31 v8 s9 with
          | none => rw [q13] at H; exact False.elim H
          | some q130 =>
            obtain ⟨v11 | v11, s12⟩ := q130
            · rw [q13] at H; dsimp only at H
              have hc := g31_run (Ω := Ω) htr d p τ v8 s9 q13
              refine xp_ok htr 1 (d + 7) 1 6 [eN none (hM p s12 τ) 1 6] 52 31 [some (.ref 0), some (.int x1), some (.int x2)] [.int v8] (hM p s9 τ) ⟨hc, ?_⟩
              show xv l Ω (d + 7) 0 0 52 34 [some (.ref 0), some (.int x1), some (.int x2)] [] (hM p s12 τ) r
              cases q16 : g50 x1 x2 s12 with
              | none => rw [q16] at H; exact False.elim H
              | some q160 =>
                obtain ⟨v14 | v14, s15⟩ := q160
                · rw [q16] at H; dsimp only at H
                  have hc := g50_run (Ω := Ω) htr (d + 6) p τ x1 x2 s12 q16
                  refine xp_ok htr 5 (d + 7) 0 0 [eC none (hM p s15 τ)] 52 34 [some (.ref 0), some (.int x1), some (.int x2)] [] (hM p s12 τ) ⟨hc, ?_⟩
                  show xv l Ω (d + 7) 0 0 52 43 [some (.ref 0), some (.int x1), some (.int x2)] [] (hM p s15 τ) r
                  cases q19 : g43 s15 with
                  | none => rw [q19] at H; exact False.elim H
                  | some q190 =>
                    obtain ⟨v17 | v17, s18⟩ := q190
                    · rw [q19] at H; dsimp only at H
                      have hc := g43_run (Ω := Ω) htr (d + 3) p τ  s15 q19
                      refine xp_ok htr 2 (d + 7) 0 0 [eC none (hM p s18 τ)] 52 43 [some (.ref 0), some (.int x1), some (.int x2)] [] (hM p s15 τ) ⟨hc, ?_⟩
                      show xv l Ω (d + 7) 0 0 52 47 [some (.ref 0), some (.int x1), some (.int x2)] [] (hM p s18 τ) r
                      exact xp_ok htr 1 (d + 7) 0 0 [] 52 47 [some (.ref 0), some (.int x1), some (.int x2)] [] (hM p s18 τ) ⟨trivial, (Eq.symm H)⟩
                    · rw [q19] at H; exact False.elim H
                · rw [q16] at H; exact False.elim H
            · rw [q13] at H; dsimp only at H
              have hc := g31_run (Ω := Ω) htr d p τ v8 s9 q13
              exact xp_ok htr 1 (d + 7) 1 6 [eT v11 (hM p s12 τ) 1 6] 52 31 [some (.ref 0), some (.int x1), some (.int x2)] [.int v8] (hM p s9 τ) ⟨hc, (Eq.symm H)⟩
        · rw [q10] at H; exact False.elim H
    · rw [q7] at H; dsimp only at H
      have hc := g26_run (Ω := Ω) htr d p τ k0 σ q7
      exact xp_ok htr 1 (d + 7) 2 12 [eT v5 (hM p s6 τ) 1 6] 52 19 [some (.ref 0), some (.int x1), some (.int x2)] [.int k0] (hM p σ τ) ⟨hc, (Eq.symm H)⟩
theorem g52_18_ok {l : Launch} {Ω : xo_O} (htr : xH l) (d : Nat) (p : Nat) (τ : Nat → Nat → Int64) (x1 : Int32) (x2 : Int32) (σ : xS) (r : xv_R) (H : xo (xB true p τ r) (g52_18 x1 x2 σ)) : xv l Ω (d + 7) 2 12 52 18 [some (.ref 0), some (.int x1), some (.int x2)] [] (hM p σ τ) r := by
  unfold g52_18 at H
  refine xp_ok htr 1 (d + 7) 2 12 [] 52 18 [some (.ref 0), some (.int x1), some (.int x2)] [] (hM p σ τ) ?_
  show xv l Ω (d + 7) 2 12 52 19 [some (.ref 0), some (.int x1), some (.int x2)] [.int 0] (hM p σ τ) r
  exact xv_sub (L' := [some (.ref 0), some (.int x1), some (.int x2)]) ⟨rfl, ⟨rfl, ⟨rfl, trivial⟩⟩⟩ (g52_19_ok htr d p τ x1 x2 0 σ r H)
theorem g52_run {l : Launch} {Ω : xo_O} (htr : xH l) (d : Nat) (p : Nat) (τ : Nat → Nat → Int64) (a1 : Int32) (a2 : Int32) (σ : xS) {q : xQ} (hq : g52 a1 a2 σ = some q) : xv l Ω (d + 7) 2 12 52 0 (xs_loc (xm_l 52) [.ref 0, .int a1, .int a2]) [] (hM p σ τ) (xq_R true p τ q) := by
  have H : xo (xB true p τ (xq_R true p τ q)) (g52 a1 a2 σ) := by rw [hq]; exact rfl
  generalize xq_R true p τ q = r at H ⊢
  show xv l Ω (d + 7) 2 12 52 0 [some (.ref 0), some (.int a1), some (.int a2)] [] (hM p σ τ) r
  unfold g52 at H
  cases q3 : g47 a1 σ with
  | none => rw [q3] at H; exact False.elim H
  | some q30 =>
    obtain ⟨v1 | v1, s2⟩ := q30
    · rw [q3] at H; dsimp only at H
      have hc := g47_run (Ω := Ω) htr (d + 5) p τ a1 σ q3
      refine xp_ok htr 2 (d + 7) 2 12 [eC (some (.int v1)) (hM p s2 τ)] 52 0 [some (.ref 0), some (.int a1), some (.int a2)] [] (hM p σ τ) ⟨hc, ?_⟩
      show xv l Ω (d + 7) 2 12 52 4 [some (.ref 0), some (.int a1), some (.int a2)] [.int v1] (hM p s2 τ) r
      by_cases h4 : v1 = 0
      · rw [if_pos h4] at H
        refine xp_ok htr 1 (d + 7) 2 12 [eB true] 52 4 [some (.ref 0), some (.int a1), some (.int a2)] [.int v1] (hM p s2 τ) ⟨h4, ?_⟩
        show xv l Ω (d + 7) 2 12 52 18 [some (.ref 0), some (.int a1), some (.int a2)] [] (hM p s2 τ) r
        exact xv_sub (L' := [some (.ref 0), some (.int a1), some (.int a2)]) ⟨rfl, ⟨rfl, ⟨rfl, trivial⟩⟩⟩ (g52_18_ok htr d p τ a1 a2 s2 r H)
      · rw [if_neg h4] at H
        refine xp_ok htr 1 (d + 7) 2 12 [eB false] 52 4 [some (.ref 0), some (.int a1), some (.int a2)] [.int v1] (hM p s2 τ) ⟨h4, ?_⟩
        show xv l Ω (d + 7) 2 12 52 7 [some (.ref 0), some (.int a1), some (.int a2)] [] (hM p s2 τ) r
        cases q22 : g24 a2 s2 with
        | none => rw [q22] at H; exact False.elim H
        | some q220 =>
          obtain ⟨v20 | v20, s21⟩ := q220
          · rw [q22] at H; dsimp only at H
            have hc := g24_run (Ω := Ω) htr (d + 5) p τ a2 s2 q22
            refine xp_ok htr 2 (d + 7) 2 12 [eC (some (.int v20)) (hM p s21 τ)] 52 7 [some (.ref 0), some (.int a1), some (.int a2)] [] (hM p s2 τ) ⟨hc, ?_⟩
            show xv l Ω (d + 7) 2 12 52 11 [some (.ref 0), some (.int a1), some (.int a2)] [.int v20] (hM p s21 τ) r
            by_cases h23 : v20 = 0
            · rw [if_pos h23] at H
              refine xp_ok htr 1 (d + 7) 2 12 [eB true] 52 11 [some (.ref 0), some (.int a1), some (.int a2)] [.int v20] (hM p s21 τ) ⟨h23, ?_⟩
              show xv l Ω (d + 7) 2 12 52 18 [some (.ref 0), some (.int a1), some (.int a2)] [] (hM p s21 τ) r
              exact xv_sub (L' := [some (.ref 0), some (.int a1), some (.int a2)]) ⟨rfl, ⟨rfl, ⟨rfl, trivial⟩⟩⟩ (g52_18_ok htr d p τ a1 a2 s21 r H)
            · rw [if_neg h23] at H
              refine xp_ok htr 1 (d + 7) 2 12 [eB false] 52 11 [some (.ref 0), some (.int a1), some (.int a2)] [.int v20] (hM p s21 τ) ⟨h23, ?_⟩
              show xv l Ω (d + 7) 2 12 52 14 [some (.ref 0), some (.int a1), some (.int a2)] [] (hM p s21 τ) r
              refine xp_ok htr 2 (d + 7) 2 12 [] 52 14 [some (.ref 0), some (.int a1), some (.int a2)] [] (hM p s21 τ) ?_
              show xv l Ω (d + 7) 2 12 52 19 [some (.ref 0), some (.int a1), some (.int a2)] [.int 1] (hM p s21 τ) r
              exact xv_sub (L' := [some (.ref 0), some (.int a1), some (.int a2)]) ⟨rfl, ⟨rfl, ⟨rfl, trivial⟩⟩⟩ (g52_19_ok htr d p τ a1 a2 1 s21 r H)
          · rw [q22] at H; exact False.elim H
    · rw [q3] at H; exact False.elim H
/- AccessDesk$Bounds.isBound -/
def g55 (a0 : Int32) (a1 : Int32) (σ : xS) : xO := (match g25 a0 4096 σ with | some (Sum.inl v1, s2) => (if v1 = 0 then some ((Sum.inl 0, s2)) else (if a1 < 2 then some ((Sum.inl 0, s2)) else (if 6 < a1 then some ((Sum.inl 0, s2)) else (match g37 a0 s2 with | some (Sum.inl v7, s8) => (if v7 < a1 then some ((Sum.inl 0, s8)) else some ((Sum.inl 1, s8))) | some (Sum.inr v7, s8) => none | none => none)))) | some (Sum.inr v1, s2) => none | none => none)
theorem g55_run {l : Launch} {Ω : xo_O} (htr : xH l) (d : Nat) (p : Nat) (τ : Nat → Nat → Int64) (a0 : Int32) (a1 : Int32) (σ : xS) {q : xQ} (hq : g55 a0 a1 σ = some q) : xv l Ω (d + 1) 0 0 55 0 (xs_loc (xm_l 55) [.int a0, .int a1]) [] (hM p σ τ) (xq_R false p τ q) := by
  have H : xo (xB false p τ (xq_R false p τ q)) (g55 a0 a1 σ) := by rw [hq]; exact rfl
  generalize xq_R false p τ q = r at H ⊢
  show xv l Ω (d + 1) 0 0 55 0 [some (.int a0), some (.int a1)] [] (hM p σ τ) r
  unfold g55 at H
  cases q3 : g25 a0 4096 σ with
  | none => rw [q3] at H; exact False.elim H
  | some q30 =>
    obtain ⟨v1 | v1, s2⟩ := q30
    · rw [q3] at H; dsimp only at H
      have hc := g25_run (Ω := Ω) htr d p τ a0 4096 σ q3
      refine xp_ok htr 3 (d + 1) 0 0 [eC (some (.int v1)) (hM p s2 τ)] 55 0 [some (.int a0), some (.int a1)] [] (hM p σ τ) ⟨hc, ?_⟩
      show xv l Ω (d + 1) 0 0 55 7 [some (.int a0), some (.int a1)] [.int v1] (hM p s2 τ) r
      by_cases h4 : v1 = 0
      · rw [if_pos h4] at H
        refine xp_ok htr 1 (d + 1) 0 0 [eB true] 55 7 [some (.int a0), some (.int a1)] [.int v1] (hM p s2 τ) ⟨h4, ?_⟩
        show xv l Ω (d + 1) 0 0 55 33 [some (.int a0), some (.int a1)] [] (hM p s2 τ) r
        exact xp_ok htr 2 (d + 1) 0 0 [] 55 33 [some (.int a0), some (.int a1)] [] (hM p s2 τ) ⟨Or.inl rfl, (Eq.symm H)⟩
      · rw [if_neg h4] at H
        refine xp_ok htr 1 (d + 1) 0 0 [eB false] 55 7 [some (.int a0), some (.int a1)] [.int v1] (hM p s2 τ) ⟨h4, ?_⟩
        show xv l Ω (d + 1) 0 0 55 10 [some (.int a0), some (.int a1)] [] (hM p s2 τ) r
        by_cases h5 : a1 < 2
        · rw [if_pos h5] at H
          refine xp_ok htr 3 (d + 1) 0 0 [eB true] 55 10 [some (.int a0), some (.int a1)] [] (hM p s2 τ) ⟨h5, ?_⟩
          show xv l Ω (d + 1) 0 0 55 33 [some (.int a0), some (.int a1)] [] (hM p s2 τ) r
          exact xp_ok htr 2 (d + 1) 0 0 [] 55 33 [some (.int a0), some (.int a1)] [] (hM p s2 τ) ⟨Or.inl rfl, (Eq.symm H)⟩
        · rw [if_neg h5] at H
          refine xp_ok htr 3 (d + 1) 0 0 [eB false] 55 10 [some (.int a0), some (.int a1)] [] (hM p s2 τ) ⟨h5, ?_⟩
          show xv l Ω (d + 1) 0 0 55 15 [some (.int a0), some (.int a1)] [] (hM p s2 τ) r
          by_cases h6 : 6 < a1
          · rw [if_pos h6] at H
            refine xp_ok htr 3 (d + 1) 0 0 [eB true] 55 15 [some (.int a0), some (.int a1)] [] (hM p s2 τ) ⟨h6, ?_⟩
            show xv l Ω (d + 1) 0 0 55 33 [some (.int a0), some (.int a1)] [] (hM p s2 τ) r
            exact xp_ok htr 2 (d + 1) 0 0 [] 55 33 [some (.int a0), some (.int a1)] [] (hM p s2 τ) ⟨Or.inl rfl, (Eq.symm H)⟩
          · rw [if_neg h6] at H
            refine xp_ok htr 3 (d + 1) 0 0 [eB false] 55 15 [some (.int a0), some (.int a1)] [] (hM p s2 τ) ⟨h6, ?_⟩
            show xv l Ω (d + 1) 0 0 55 21 [some (.int a0), some (.int a1)] [] (hM p s2 τ) r
            cases q9 : g37 a0 s2 with
            | none => rw [q9] at H; exact False.elim H
            | some q90 =>
              obtain ⟨v7 | v7, s8⟩ := q90
              · rw [q9] at H; dsimp only at H
                have hc := g37_run (Ω := Ω) htr d p τ a0 s2 q9
                refine xp_ok htr 2 (d + 1) 0 0 [eC (some (.int v7)) (hM p s8 τ)] 55 21 [some (.int a0), some (.int a1)] [] (hM p s2 τ) ⟨hc, ?_⟩
                show xv l Ω (d + 1) 0 0 55 25 [some (.int a0), some (.int a1)] [.int v7] (hM p s8 τ) r
                by_cases h10 : v7 < a1
                · rw [if_pos h10] at H
                  refine xp_ok htr 2 (d + 1) 0 0 [eB true] 55 25 [some (.int a0), some (.int a1)] [.int v7] (hM p s8 τ) ⟨h10, ?_⟩
                  show xv l Ω (d + 1) 0 0 55 33 [some (.int a0), some (.int a1)] [] (hM p s8 τ) r
                  exact xp_ok htr 2 (d + 1) 0 0 [] 55 33 [some (.int a0), some (.int a1)] [] (hM p s8 τ) ⟨Or.inl rfl, (Eq.symm H)⟩
                · rw [if_neg h10] at H
                  refine xp_ok htr 2 (d + 1) 0 0 [eB false] 55 25 [some (.int a0), some (.int a1)] [.int v7] (hM p s8 τ) ⟨h10, ?_⟩
                  show xv l Ω (d + 1) 0 0 55 29 [some (.int a0), some (.int a1)] [] (hM p s8 τ) r
                  exact xp_ok htr 3 (d + 1) 0 0 [] 55 29 [some (.int a0), some (.int a1)] [] (hM p s8 τ) ⟨Or.inr rfl, (Eq.symm H)⟩
              · rw [q9] at H; exact False.elim H
    · rw [q3] at H; exact False.elim H
/- AccessDesk$Bounds.isFull -/
def g56  (σ : xS) : xO := (if (σ 11 3) < 6 then some ((Sum.inl 0, σ)) else some ((Sum.inl 1, σ)))
theorem g56_run {l : Launch} {Ω : xo_O} (htr : xH l) (d : Nat) (p : Nat) (τ : Nat → Nat → Int64)  (σ : xS) {q : xQ} (hq : g56  σ = some q) : xv l Ω d 0 0 56 0 (xs_loc (xm_l 56) [.ref 11]) [] (hM p σ τ) (xq_R false p τ q) := by
  have H : xo (xB false p τ (xq_R false p τ q)) (g56  σ) := by rw [hq]; exact rfl
  generalize xq_R false p τ q = r at H ⊢
  show xv l Ω d 0 0 56 0 [some (.ref 11)] [] (hM p σ τ) r
  unfold g56 at H
  by_cases h1 : (σ 11 3) < 6
  · rw [if_pos h1] at H
    refine xp_ok htr 4 d 0 0 [eB true] 56 0 [some (.ref 11)] [] (hM p σ τ) ⟨h1, ?_⟩
    show xv l Ω d 0 0 56 13 [some (.ref 11)] [] (hM p σ τ) r
    exact xp_ok htr 2 d 0 0 [] 56 13 [some (.ref 11)] [] (hM p σ τ) ⟨Or.inl rfl, (Eq.symm H)⟩
  · rw [if_neg h1] at H
    refine xp_ok htr 4 d 0 0 [eB false] 56 0 [some (.ref 11)] [] (hM p σ τ) ⟨h1, ?_⟩
    show xv l Ω d 0 0 56 9 [some (.ref 11)] [] (hM p σ τ) r
    exact xp_ok htr 3 d 0 0 [] 56 9 [some (.ref 11)] [] (hM p σ τ) ⟨Or.inr rfl, (Eq.symm H)⟩
