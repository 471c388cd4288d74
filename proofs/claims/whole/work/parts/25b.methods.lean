/-! the methods as functions: laid by program (wip/whole/dec.py) -/
/- AccessDesk$Bounds.add -/
def g57 (a1 : Int32) (a2 : Int32) (a3 : Int32) (σ : xS) : xO := (bif xn (σ 11 3) 6 then some ((Sum.inl (σ 11 3), (xh_ui (xh_ui (xh_ui (xh_ui σ 12 (Int32.toNatClampNeg (σ 11 3)) (vp_nar .boolean a1)) 13 (Int32.toNatClampNeg (σ 11 3)) a2) 14 (Int32.toNatClampNeg (σ 11 3)) a3) 11 3 (((xh_ui (xh_ui (xh_ui σ 12 (Int32.toNatClampNeg (σ 11 3)) (vp_nar .boolean a1)) 13 (Int32.toNatClampNeg (σ 11 3)) a2) 14 (Int32.toNatClampNeg (σ 11 3)) a3) 11 3) + 1)))) else none)
theorem g57_run {l : Launch} {Ω : xo_O} (htr : xH l) (d : Nat) (p : Nat) (τ : Nat → Nat → Int64) (a1 : Int32) (a2 : Int32) (a3 : Int32) (σ : xS) {q : xQ} (hq : g57 a1 a2 a3 σ = some q) : xv l Ω d 0 0 57 0 (xs_loc (xm_l 57) [.ref 11, .int a1, .int a2, .int a3]) [] (hM p σ τ) (xq_R false p τ q) := by
  have H : xo (xB false p τ (xq_R false p τ q)) (g57 a1 a2 a3 σ) := by rw [hq]; exact rfl
  generalize xq_R false p τ q = r at H ⊢
  show xv l Ω d 0 0 57 0 [some (.ref 11), some (.int a1), some (.int a2), some (.int a3), none] [] (hM p σ τ) r
  unfold g57 at H
  cases g1 : xn (σ 11 3) 6 with
  | false => rw [g1, cond_false] at H; exact False.elim H
  | true =>
    rw [g1, cond_true] at H
    refine xp_ok htr 8 d 0 0 [] 57 0 [some (.ref 11), some (.int a1), some (.int a2), some (.int a3), none] [] (hM p σ τ) ⟨(xn_in g1), ?_⟩
    show xv l Ω d 0 0 57 14 [some (.ref 11), some (.int a1), some (.int a2), some (.int a3), some (.int (σ 11 3))] [] (hM p (xh_ui σ 12 (Int32.toNatClampNeg (σ 11 3)) (vp_nar .boolean a1)) τ) r
    refine xp_ok htr 8 d 0 0 [] 57 14 [some (.ref 11), some (.int a1), some (.int a2), some (.int a3), some (.int (σ 11 3))] [] (hM p (xh_ui σ 12 (Int32.toNatClampNeg (σ 11 3)) (vp_nar .boolean a1)) τ) ⟨(xn_in g1), ?_⟩
    show xv l Ω d 0 0 57 28 [some (.ref 11), some (.int a1), some (.int a2), some (.int a3), some (.int (σ 11 3))] [.int (σ 11 3), .ref 14] (hM p (xh_ui (xh_ui σ 12 (Int32.toNatClampNeg (σ 11 3)) (vp_nar .boolean a1)) 13 (Int32.toNatClampNeg (σ 11 3)) a2) τ) r
    refine xp_ok htr 8 d 0 0 [] 57 28 [some (.ref 11), some (.int a1), some (.int a2), some (.int a3), some (.int (σ 11 3))] [.int (σ 11 3), .ref 14] (hM p (xh_ui (xh_ui σ 12 (Int32.toNatClampNeg (σ 11 3)) (vp_nar .boolean a1)) 13 (Int32.toNatClampNeg (σ 11 3)) a2) τ) ⟨(xn_in g1), ?_⟩
    show xv l Ω d 0 0 57 40 [some (.ref 11), some (.int a1), some (.int a2), some (.int a3), some (.int (σ 11 3))] [] (hM p (xh_ui (xh_ui (xh_ui (xh_ui σ 12 (Int32.toNatClampNeg (σ 11 3)) (vp_nar .boolean a1)) 13 (Int32.toNatClampNeg (σ 11 3)) a2) 14 (Int32.toNatClampNeg (σ 11 3)) a3) 11 3 (((xh_ui (xh_ui (xh_ui σ 12 (Int32.toNatClampNeg (σ 11 3)) (vp_nar .boolean a1)) 13 (Int32.toNatClampNeg (σ 11 3)) a2) 14 (Int32.toNatClampNeg (σ 11 3)) a3) 11 3) + 1)) τ) r
    exact xp_ok htr 2 d 0 0 [] 57 40 [some (.ref 11), some (.int a1), some (.int a2), some (.int a3), some (.int (σ 11 3))] [] (hM p (xh_ui (xh_ui (xh_ui (xh_ui σ 12 (Int32.toNatClampNeg (σ 11 3)) (vp_nar .boolean a1)) 13 (Int32.toNatClampNeg (σ 11 3)) a2) 14 (Int32.toNatClampNeg (σ 11 3)) a3) 11 3 (((xh_ui (xh_ui (xh_ui σ 12 (Int32.toNatClampNeg (σ 11 3)) (vp_nar .boolean a1)) 13 (Int32.toNatClampNeg (σ 11 3)) a2) 14 (Int32.toNatClampNeg (σ 11 3)) a3) 11 3) + 1)) τ) ⟨trivial, (Eq.symm H)⟩
/- AccessDesk.bound -/
def g54_33 (x1 : Int32) (x2 : Int32) (x3 : Int32) (k0 : Int32) (σ : xS) : Option xQ := (match g31 k0 σ with | some (Sum.inl v15, s16) => (match g57 x1 x2 x3 s16 with | some (Sum.inl v18, s19) => some ((Sum.inl v18, s19)) | some (Sum.inr v18, s19) => none | none => none) | some (Sum.inr v15, s16) => some ((Sum.inr v15, s16)) | none => none)
def g54_32 (x1 : Int32) (x2 : Int32) (x3 : Int32) (σ : xS) : Option xQ := g54_33 x1 x2 x3 0 σ
def g54 (a1 : Int32) (a2 : Int32) (a3 : Int32) (σ : xS) : xO := (match g55 a2 a3 σ with | some (Sum.inl v1, s2) => (match g26 v1 s2 with | some (Sum.inl v4, s5) => (match g56 s5 with | some (Sum.inl v7, s8) => (if v7 = 0 then (match g34 a1 a2 a3 s8 with | some (Sum.inl v11, s12) => (if v11 = 0 then g54_33 a1 a2 a3 1 s12 else g54_32 a1 a2 a3 s12) | some (Sum.inr v11, s12) => none | none => none) else g54_32 a1 a2 a3 s8) | some (Sum.inr v7, s8) => none | none => none) | some (Sum.inr v4, s5) => some ((Sum.inr v4, s5)) | none => none) | some (Sum.inr v1, s2) => none | none => none)
theorem g54_33_ok {l : Launch} {Ω : xo_O} (htr : xH l) (d : Nat) (p : Nat) (τ : Nat → Nat → Int64) (x1 : Int32) (x2 : Int32) (x3 : Int32) (k0 : Int32) (σ : xS) (r : xv_R) (H : xo (xB false p τ r) (g54_33 x1 x2 x3 k0 σ)) : xv l Ω (d + 7) 1 6 54 33 [some (.ref 0), some (.int x1), some (.int x2), some (.int x3)] [.int k0] (hM p σ τ) r := by
  unfold g54_33 at H
  cases q17 : g31 k0 σ with
  | none => rw [q17] at H; exact False.elim H
  | some q170 =>
    obtain ⟨v15 | v15, s16⟩ := q170
    · rw [q17] at H; dsimp only at H
      have hc := g31_run (Ω := Ω) htr d p τ k0 σ q17
      refine xp_ok htr 1 (d + 7) 1 6 [eN none (hM p s16 τ) 1 6] 54 33 [some (.ref 0), some (.int x1), some (.int x2), some (.int x3)] [.int k0] (hM p σ τ) ⟨hc, ?_⟩
      show xv l Ω (d + 7) 0 0 54 36 [some (.ref 0), some (.int x1), some (.int x2), some (.int x3)] [] (hM p s16 τ) r
      cases q20 : g57 x1 x2 x3 s16 with
      | none => rw [q20] at H; exact False.elim H
      | some q200 =>
        obtain ⟨v18 | v18, s19⟩ := q200
        · rw [q20] at H; dsimp only at H
          have hc := g57_run (Ω := Ω) htr (d + 6) p τ x1 x2 x3 s16 q20
          refine xp_ok htr 6 (d + 7) 0 0 [eC (some (.int v18)) (hM p s19 τ)] 54 36 [some (.ref 0), some (.int x1), some (.int x2), some (.int x3)] [] (hM p s16 τ) ⟨hc, ?_⟩
          show xv l Ω (d + 7) 0 0 54 46 [some (.ref 0), some (.int x1), some (.int x2), some (.int x3)] [.int v18] (hM p s19 τ) r
          exact xp_ok htr 1 (d + 7) 0 0 [] 54 46 [some (.ref 0), some (.int x1), some (.int x2), some (.int x3)] [.int v18] (hM p s19 τ) ⟨trivial, (Eq.symm H)⟩
        · rw [q20] at H; exact False.elim H
    · rw [q17] at H; dsimp only at H
      have hc := g31_run (Ω := Ω) htr d p τ k0 σ q17
      exact xp_ok htr 1 (d + 7) 1 6 [eT v15 (hM p s16 τ) 1 6] 54 33 [some (.ref 0), some (.int x1), some (.int x2), some (.int x3)] [.int k0] (hM p σ τ) ⟨hc, (Eq.symm H)⟩
theorem g54_32_ok {l : Launch} {Ω : xo_O} (htr : xH l) (d : Nat) (p : Nat) (τ : Nat → Nat → Int64) (x1 : Int32) (x2 : Int32) (x3 : Int32) (σ : xS) (r : xv_R) (H : xo (xB false p τ r) (g54_32 x1 x2 x3 σ)) : xv l Ω (d + 7) 1 6 54 32 [some (.ref 0), some (.int x1), some (.int x2), some (.int x3)] [] (hM p σ τ) r := by
  unfold g54_32 at H
  refine xp_ok htr 1 (d + 7) 1 6 [] 54 32 [some (.ref 0), some (.int x1), some (.int x2), some (.int x3)] [] (hM p σ τ) ?_
  show xv l Ω (d + 7) 1 6 54 33 [some (.ref 0), some (.int x1), some (.int x2), some (.int x3)] [.int 0] (hM p σ τ) r
  exact xv_sub (L' := [some (.ref 0), some (.int x1), some (.int x2), some (.int x3)]) ⟨rfl, ⟨rfl, ⟨rfl, ⟨rfl, trivial⟩⟩⟩⟩ (g54_33_ok htr d p τ x1 x2 x3 0 σ r H)
theorem g54_run {l : Launch} {Ω : xo_O} (htr : xH l) (d : Nat) (p : Nat) (τ : Nat → Nat → Int64) (a1 : Int32) (a2 : Int32) (a3 : Int32) (σ : xS) {q : xQ} (hq : g54 a1 a2 a3 σ = some q) : xv l Ω (d + 7) 2 12 54 0 (xs_loc (xm_l 54) [.ref 0, .int a1, .int a2, .int a3]) [] (hM p σ τ) (xq_R false p τ q) := by
  have H : xo (xB false p τ (xq_R false p τ q)) (g54 a1 a2 a3 σ) := by rw [hq]; exact rfl
  generalize xq_R false p τ q = r at H ⊢
  show xv l Ω (d + 7) 2 12 54 0 [some (.ref 0), some (.int a1), some (.int a2), some (.int a3)] [] (hM p σ τ) r
  unfold g54 at H
  cases q3 : g55 a2 a3 σ with
  | none => rw [q3] at H; exact False.elim H
  | some q30 =>
    obtain ⟨v1 | v1, s2⟩ := q30
    · rw [q3] at H; dsimp only at H
      have hc := g55_run (Ω := Ω) htr (d + 5) p τ a2 a3 σ q3
      refine xp_ok htr 3 (d + 7) 2 12 [eC (some (.int v1)) (hM p s2 τ)] 54 0 [some (.ref 0), some (.int a1), some (.int a2), some (.int a3)] [] (hM p σ τ) ⟨hc, ?_⟩
      show xv l Ω (d + 7) 2 12 54 5 [some (.ref 0), some (.int a1), some (.int a2), some (.int a3)] [.int v1] (hM p s2 τ) r
      cases q6 : g26 v1 s2 with
      | none => rw [q6] at H; exact False.elim H
      | some q60 =>
        obtain ⟨v4 | v4, s5⟩ := q60
        · rw [q6] at H; dsimp only at H
          have hc := g26_run (Ω := Ω) htr d p τ v1 s2 q6
          refine xp_ok htr 1 (d + 7) 2 12 [eN none (hM p s5 τ) 1 6] 54 5 [some (.ref 0), some (.int a1), some (.int a2), some (.int a3)] [.int v1] (hM p s2 τ) ⟨hc, ?_⟩
          show xv l Ω (d + 7) 1 6 54 8 [some (.ref 0), some (.int a1), some (.int a2), some (.int a3)] [] (hM p s5 τ) r
          cases q9 : g56 s5 with
          | none => rw [q9] at H; exact False.elim H
          | some q90 =>
            obtain ⟨v7 | v7, s8⟩ := q90
            · rw [q9] at H; dsimp only at H
              have hc := g56_run (Ω := Ω) htr (d + 6) p τ  s5 q9
              refine xp_ok htr 3 (d + 7) 1 6 [eC (some (.int v7)) (hM p s8 τ)] 54 8 [some (.ref 0), some (.int a1), some (.int a2), some (.int a3)] [] (hM p s5 τ) ⟨hc, ?_⟩
              show xv l Ω (d + 7) 1 6 54 15 [some (.ref 0), some (.int a1), some (.int a2), some (.int a3)] [.int v7] (hM p s8 τ) r
              by_cases h10 : v7 = 0
              · rw [if_pos h10] at H
                refine xp_ok htr 1 (d + 7) 1 6 [eB false] 54 15 [some (.ref 0), some (.int a1), some (.int a2), some (.int a3)] [.int v7] (hM p s8 τ) ⟨h10, ?_⟩
                show xv l Ω (d + 7) 1 6 54 18 [some (.ref 0), some (.int a1), some (.int a2), some (.int a3)] [] (hM p s8 τ) r
                cases q13 : g34 a1 a2 a3 s8 with
                | none => rw [q13] at H; exact False.elim H
                | some q130 =>
                  obtain ⟨v11 | v11, s12⟩ := q130
                  · rw [q13] at H; dsimp only at H
                    have hc := g34_run (Ω := Ω) htr (d + 2) p τ a1 a2 a3 s8 q13
                    refine xp_ok htr 5 (d + 7) 1 6 [eC (some (.int v11)) (hM p s12 τ)] 54 18 [some (.ref 0), some (.int a1), some (.int a2), some (.int a3)] [] (hM p s8 τ) ⟨hc, ?_⟩
                    show xv l Ω (d + 7) 1 6 54 25 [some (.ref 0), some (.int a1), some (.int a2), some (.int a3)] [.int v11] (hM p s12 τ) r
                    by_cases h14 : v11 = 0
                    · rw [if_pos h14] at H
                      refine xp_ok htr 1 (d + 7) 1 6 [eB false] 54 25 [some (.ref 0), some (.int a1), some (.int a2), some (.int a3)] [.int v11] (hM p s12 τ) ⟨h14, ?_⟩
                      show xv l Ω (d + 7) 1 6 54 28 [some (.ref 0), some (.int a1), some (.int a2), some (.int a3)] [] (hM p s12 τ) r
                      refine xp_ok htr 2 (d + 7) 1 6 [] 54 28 [some (.ref 0), some (.int a1), some (.int a2), some (.int a3)] [] (hM p s12 τ) ?_
                      show xv l Ω (d + 7) 1 6 54 33 [some (.ref 0), some (.int a1), some (.int a2), some (.int a3)] [.int 1] (hM p s12 τ) r
                      exact xv_sub (L' := [some (.ref 0), some (.int a1), some (.int a2), some (.int a3)]) ⟨rfl, ⟨rfl, ⟨rfl, ⟨rfl, trivial⟩⟩⟩⟩ (g54_33_ok htr d p τ a1 a2 a3 1 s12 r H)
                    · rw [if_neg h14] at H
                      refine xp_ok htr 1 (d + 7) 1 6 [eB true] 54 25 [some (.ref 0), some (.int a1), some (.int a2), some (.int a3)] [.int v11] (hM p s12 τ) ⟨h14, ?_⟩
                      show xv l Ω (d + 7) 1 6 54 32 [some (.ref 0), some (.int a1), some (.int a2), some (.int a3)] [] (hM p s12 τ) r
                      exact xv_sub (L' := [some (.ref 0), some (.int a1), some (.int a2), some (.int a3)]) ⟨rfl, ⟨rfl, ⟨rfl, ⟨rfl, trivial⟩⟩⟩⟩ (g54_32_ok htr d p τ a1 a2 a3 s12 r H)
                  · rw [q13] at H; exact False.elim H
              · rw [if_neg h10] at H
                refine xp_ok htr 1 (d + 7) 1 6 [eB true] 54 15 [some (.ref 0), some (.int a1), some (.int a2), some (.int a3)] [.int v7] (hM p s8 τ) ⟨h10, ?_⟩
                show xv l Ω (d + 7) 1 6 54 32 [some (.ref 0), some (.int a1), some (.int a2), some (.int a3)] [] (hM p s8 τ) r
                exact xv_sub (L' := [some (.ref 0), some (.int a1), some (.int a2), some (.int a3)]) ⟨rfl, ⟨rfl, ⟨rfl, ⟨rfl, trivial⟩⟩⟩⟩ (g54_32_ok htr d p τ a1 a2 a3 s8 r H)
            · rw [q9] at H; exact False.elim H
        · rw [q6] at H; dsimp only at H
          have hc := g26_run (Ω := Ω) htr d p τ v1 s2 q6
          exact xp_ok htr 1 (d + 7) 2 12 [eT v4 (hM p s5 τ) 1 6] 54 5 [some (.ref 0), some (.int a1), some (.int a2), some (.int a3)] [.int v1] (hM p s2 τ) ⟨hc, (Eq.symm H)⟩
    · rw [q3] at H; exact False.elim H
/- AccessDesk$Users.setRank -/
def g60 (a1 : Int32) (a2 : Int32) (a3 : Int32) (σ : xS) : xO := (bif xn a1 8 then some ((Sum.inl 0, (xh_ui (xh_ui σ 5 (Int32.toNatClampNeg a1) a2) 6 (Int32.toNatClampNeg a1) (vp_nar .boolean a3)))) else none)
theorem g60_run {l : Launch} {Ω : xo_O} (htr : xH l) (d : Nat) (p : Nat) (τ : Nat → Nat → Int64) (a1 : Int32) (a2 : Int32) (a3 : Int32) (σ : xS) {q : xQ} (hq : g60 a1 a2 a3 σ = some q) : xv l Ω d 0 0 60 0 (xs_loc (xm_l 60) [.ref 3, .int a1, .int a2, .int a3]) [] (hM p σ τ) (xq_R true p τ q) := by
  have H : xo (xB true p τ (xq_R true p τ q)) (g60 a1 a2 a3 σ) := by rw [hq]; exact rfl
  generalize xq_R true p τ q = r at H ⊢
  show xv l Ω d 0 0 60 0 [some (.ref 3), some (.int a1), some (.int a2), some (.int a3)] [] (hM p σ τ) r
  unfold g60 at H
  cases g1 : xn a1 8 with
  | false => rw [g1, cond_false] at H; exact False.elim H
  | true =>
    rw [g1, cond_true] at H
    refine xp_ok htr 8 d 0 0 [] 60 0 [some (.ref 3), some (.int a1), some (.int a2), some (.int a3)] [] (hM p σ τ) ⟨(xn_in g1), ?_⟩
    show xv l Ω d 0 0 60 12 [some (.ref 3), some (.int a1), some (.int a2), some (.int a3)] [.int a1, .ref 6] (hM p (xh_ui σ 5 (Int32.toNatClampNeg a1) a2) τ) r
    exact xp_ok htr 3 d 0 0 [] 60 12 [some (.ref 3), some (.int a1), some (.int a2), some (.int a3)] [.int a1, .ref 6] (hM p (xh_ui σ 5 (Int32.toNatClampNeg a1) a2) τ) ⟨(xn_in g1), trivial, (Eq.symm H)⟩
/- AccessDesk.rank -/
def g59_22 (k1 : Int32) (k2 : Int32) (k3 : Int32) (σ : xS) : Option xQ := (match g60 k1 k2 k3 σ with | some (Sum.inl v8, s9) => some ((Sum.inl 0, s9)) | some (Sum.inr v8, s9) => none | none => none)
def g59 (a1 : Int32) (a2 : Int32) (a3 : Int32) (σ : xS) : xO := (match g47 a1 σ with | some (Sum.inl v1, s2) => (match g26 v1 s2 with | some (Sum.inl v4, s5) => (if a3 = 0 then g59_22 a1 a2 1 s5 else g59_22 a1 a2 0 s5) | some (Sum.inr v4, s5) => some ((Sum.inr v4, s5)) | none => none) | some (Sum.inr v1, s2) => none | none => none)
theorem g59_22_ok {l : Launch} {Ω : xo_O} (htr : xH l) (d : Nat) (p : Nat) (τ : Nat → Nat → Int64) (k1 : Int32) (k2 : Int32) (k3 : Int32) (σ : xS) (r : xv_R) (H : xo (xB true p τ r) (g59_22 k1 k2 k3 σ)) : xv l Ω (d + 7) 0 0 59 22 [none, none, none, none] [.int k3, .int k2, .int k1, .ref 3] (hM p σ τ) r := by
  unfold g59_22 at H
  cases q10 : g60 k1 k2 k3 σ with
  | none => rw [q10] at H; exact False.elim H
  | some q100 =>
    obtain ⟨v8 | v8, s9⟩ := q100
    · rw [q10] at H; dsimp only at H
      have hc := g60_run (Ω := Ω) htr (d + 6) p τ k1 k2 k3 σ q10
      refine xp_ok htr 1 (d + 7) 0 0 [eC none (hM p s9 τ)] 59 22 [none, none, none, none] [.int k3, .int k2, .int k1, .ref 3] (hM p σ τ) ⟨hc, ?_⟩
      show xv l Ω (d + 7) 0 0 59 25 [none, none, none, none] [] (hM p s9 τ) r
      exact xp_ok htr 1 (d + 7) 0 0 [] 59 25 [none, none, none, none] [] (hM p s9 τ) ⟨trivial, (Eq.symm H)⟩
    · rw [q10] at H; exact False.elim H
theorem g59_run {l : Launch} {Ω : xo_O} (htr : xH l) (d : Nat) (p : Nat) (τ : Nat → Nat → Int64) (a1 : Int32) (a2 : Int32) (a3 : Int32) (σ : xS) {q : xQ} (hq : g59 a1 a2 a3 σ = some q) : xv l Ω (d + 7) 1 6 59 0 (xs_loc (xm_l 59) [.ref 0, .int a1, .int a2, .int a3]) [] (hM p σ τ) (xq_R true p τ q) := by
  have H : xo (xB true p τ (xq_R true p τ q)) (g59 a1 a2 a3 σ) := by rw [hq]; exact rfl
  generalize xq_R true p τ q = r at H ⊢
  show xv l Ω (d + 7) 1 6 59 0 [some (.ref 0), some (.int a1), some (.int a2), some (.int a3)] [] (hM p σ τ) r
  unfold g59 at H
  cases q3 : g47 a1 σ with
  | none => rw [q3] at H; exact False.elim H
  | some q30 =>
    obtain ⟨v1 | v1, s2⟩ := q30
    · rw [q3] at H; dsimp only at H
      have hc := g47_run (Ω := Ω) htr (d + 5) p τ a1 σ q3
      refine xp_ok htr 2 (d + 7) 1 6 [eC (some (.int v1)) (hM p s2 τ)] 59 0 [some (.ref 0), some (.int a1), some (.int a2), some (.int a3)] [] (hM p σ τ) ⟨hc, ?_⟩
      show xv l Ω (d + 7) 1 6 59 4 [some (.ref 0), some (.int a1), some (.int a2), some (.int a3)] [.int v1] (hM p s2 τ) r
      cases q6 : g26 v1 s2 with
      | none => rw [q6] at H; exact False.elim H
      | some q60 =>
        obtain ⟨v4 | v4, s5⟩ := q60
        · rw [q6] at H; dsimp only at H
          have hc := g26_run (Ω := Ω) htr d p τ v1 s2 q6
          refine xp_ok htr 1 (d + 7) 1 6 [eN none (hM p s5 τ) 1 6] 59 4 [some (.ref 0), some (.int a1), some (.int a2), some (.int a3)] [.int v1] (hM p s2 τ) ⟨hc, ?_⟩
          show xv l Ω (d + 7) 0 0 59 7 [some (.ref 0), some (.int a1), some (.int a2), some (.int a3)] [] (hM p s5 τ) r
          by_cases h7 : a3 = 0
          · rw [if_pos h7] at H
            refine xp_ok htr 6 (d + 7) 0 0 [eB false] 59 7 [some (.ref 0), some (.int a1), some (.int a2), some (.int a3)] [] (hM p s5 τ) ⟨h7, ?_⟩
            show xv l Ω (d + 7) 0 0 59 17 [some (.ref 0), some (.int a1), some (.int a2), some (.int a3)] [.int a2, .int a1, .ref 3] (hM p s5 τ) r
            refine xp_ok htr 2 (d + 7) 0 0 [] 59 17 [some (.ref 0), some (.int a1), some (.int a2), some (.int a3)] [.int a2, .int a1, .ref 3] (hM p s5 τ) ?_
            show xv l Ω (d + 7) 0 0 59 22 [some (.ref 0), some (.int a1), some (.int a2), some (.int a3)] [.int 1, .int a2, .int a1, .ref 3] (hM p s5 τ) r
            exact xv_sub (L' := [none, none, none, none]) trivial (g59_22_ok htr d p τ a1 a2 1 s5 r H)
          · rw [if_neg h7] at H
            refine xp_ok htr 6 (d + 7) 0 0 [eB true] 59 7 [some (.ref 0), some (.int a1), some (.int a2), some (.int a3)] [] (hM p s5 τ) ⟨h7, ?_⟩
            show xv l Ω (d + 7) 0 0 59 21 [some (.ref 0), some (.int a1), some (.int a2), some (.int a3)] [.int a2, .int a1, .ref 3] (hM p s5 τ) r
            refine xp_ok htr 1 (d + 7) 0 0 [] 59 21 [some (.ref 0), some (.int a1), some (.int a2), some (.int a3)] [.int a2, .int a1, .ref 3] (hM p s5 τ) ?_
            show xv l Ω (d + 7) 0 0 59 22 [some (.ref 0), some (.int a1), some (.int a2), some (.int a3)] [.int 0, .int a2, .int a1, .ref 3] (hM p s5 τ) r
            exact xv_sub (L' := [none, none, none, none]) trivial (g59_22_ok htr d p τ a1 a2 0 s5 r H)
        · rw [q6] at H; dsimp only at H
          have hc := g26_run (Ω := Ω) htr d p τ v1 s2 q6
          exact xp_ok htr 1 (d + 7) 1 6 [eT v4 (hM p s5 τ) 1 6] 59 4 [some (.ref 0), some (.int a1), some (.int a2), some (.int a3)] [.int v1] (hM p s2 τ) ⟨hc, (Eq.symm H)⟩
    · rw [q3] at H; exact False.elim H
/- AccessDesk.isSession -/
def g63 (a0 : Int32) (σ : xS) : xO := (match g25 a0 6 σ with | some (Sum.inl v1, s2) => (bif decide (v1 = 0 ∨ v1 = 1) then some ((Sum.inl v1, s2)) else none) | some (Sum.inr v1, s2) => none | none => none)
theorem g63_run {l : Launch} {Ω : xo_O} (htr : xH l) (d : Nat) (p : Nat) (τ : Nat → Nat → Int64) (a0 : Int32) (σ : xS) {q : xQ} (hq : g63 a0 σ = some q) : xv l Ω (d + 1) 0 0 63 0 (xs_loc (xm_l 63) [.int a0]) [] (hM p σ τ) (xq_R false p τ q) := by
  have H : xo (xB false p τ (xq_R false p τ q)) (g63 a0 σ) := by rw [hq]; exact rfl
  generalize xq_R false p τ q = r at H ⊢
  show xv l Ω (d + 1) 0 0 63 0 [some (.int a0)] [] (hM p σ τ) r
  unfold g63 at H
  cases q3 : g25 a0 6 σ with
  | none => rw [q3] at H; exact False.elim H
  | some q30 =>
    obtain ⟨v1 | v1, s2⟩ := q30
    · rw [q3] at H; dsimp only at H
      have hc := g25_run (Ω := Ω) htr d p τ a0 6 σ q3
      refine xp_ok htr 3 (d + 1) 0 0 [eC (some (.int v1)) (hM p s2 τ)] 63 0 [some (.int a0)] [] (hM p σ τ) ⟨hc, ?_⟩
      show xv l Ω (d + 1) 0 0 63 6 [some (.int a0)] [.int v1] (hM p s2 τ) r
      cases g4 : decide (v1 = 0 ∨ v1 = 1) with
      | false => rw [g4, cond_false] at H; exact False.elim H
      | true =>
        rw [g4, cond_true] at H
        exact xp_ok htr 1 (d + 1) 0 0 [] 63 6 [some (.int a0)] [.int v1] (hM p s2 τ) ⟨(xb01 g4), (Eq.symm H)⟩
    · rw [q3] at H; exact False.elim H
/- AccessDesk$Sessions.start -/
def g64 (a1 : Int32) (a2 : Int32) (σ : xS) : xO := (bif xn a1 6 then some ((Sum.inl 0, (xh_ui (xh_ui σ 8 (Int32.toNatClampNeg a1) a2) 10 (Int32.toNatClampNeg a1) 0))) else none)
theorem g64_run {l : Launch} {Ω : xo_O} (htr : xH l) (d : Nat) (p : Nat) (τ : Nat → Nat → Int64) (a1 : Int32) (a2 : Int32) (σ : xS) {q : xQ} (hq : g64 a1 a2 σ = some q) : xv l Ω d 0 0 64 0 (xs_loc (xm_l 64) [.ref 7, .int a1, .int a2]) [] (hM p σ τ) (xq_R true p τ q) := by
  have H : xo (xB true p τ (xq_R true p τ q)) (g64 a1 a2 σ) := by rw [hq]; exact rfl
  generalize xq_R true p τ q = r at H ⊢
  show xv l Ω d 0 0 64 0 [some (.ref 7), some (.int a1), some (.int a2)] [] (hM p σ τ) r
  unfold g64 at H
  cases g1 : xn a1 6 with
  | false => rw [g1, cond_false] at H; exact False.elim H
  | true =>
    rw [g1, cond_true] at H
    refine xp_ok htr 8 d 0 0 [] 64 0 [some (.ref 7), some (.int a1), some (.int a2)] [] (hM p σ τ) ⟨(xn_in g1), ?_⟩
    show xv l Ω d 0 0 64 12 [some (.ref 7), some (.int a1), some (.int a2)] [.int a1, .ref 10] (hM p (xh_ui σ 8 (Int32.toNatClampNeg a1) a2) τ) r
    exact xp_ok htr 3 d 0 0 [] 64 12 [some (.ref 7), some (.int a1), some (.int a2)] [.int a1, .ref 10] (hM p (xh_ui σ 8 (Int32.toNatClampNeg a1) a2) τ) ⟨(xn_in g1), trivial, (Eq.symm H)⟩
/- AccessDesk.open -/
def g62_38 (x1 : Int32) (x2 : Int32) (k0 : Int32) (σ : xS) : Option xQ := (match g31 k0 σ with | some (Sum.inl v12, s13) => (match g64 x1 x2 s13 with | some (Sum.inl v15, s16) => some ((Sum.inl 0, s16)) | some (Sum.inr v15, s16) => none | none => none) | some (Sum.inr v12, s13) => some ((Sum.inr v12, s13)) | none => none)
def g62_19 (x1 : Int32) (x2 : Int32) (k0 : Int32) (σ : xS) : Option xQ := (match g26 k0 σ with | some (Sum.inl v5, s6) => (match g44 x1 s6 with | some (Sum.inl v8, s9) => (if v8 = 0 then g62_38 x1 x2 1 s9 else g62_38 x1 x2 0 s9) | some (Sum.inr v8, s9) => none | none => none) | some (Sum.inr v5, s6) => some ((Sum.inr v5, s6)) | none => none)
def g62_18 (x1 : Int32) (x2 : Int32) (σ : xS) : Option xQ := g62_19 x1 x2 0 σ
def g62 (a1 : Int32) (a2 : Int32) (σ : xS) : xO := (match g63 a1 σ with | some (Sum.inl v1, s2) => (if v1 = 0 then g62_18 a1 a2 s2 else (match g47 a2 s2 with | some (Sum.inl v18, s19) => (if v18 = 0 then g62_18 a1 a2 s19 else g62_19 a1 a2 1 s19) | some (Sum.inr v18, s19) => none | none => none)) | some (Sum.inr v1, s2) => none | none => none)
theorem g62_38_ok {l : Launch} {Ω : xo_O} (htr : xH l) (d : Nat) (p : Nat) (τ : Nat → Nat → Int64) (x1 : Int32) (x2 : Int32) (k0 : Int32) (σ : xS) (r : xv_R) (H : xo (xB true p τ r) (g62_38 x1 x2 k0 σ)) : xv l Ω (d + 7) 1 6 62 38 [some (.ref 0), some (.int x1), some (.int x2)] [.int k0] (hM p σ τ) r := by
  unfold g62_38 at H
  cases q14 : g31 k0 σ with
  | none => rw [q14] at H; exact False.elim H
  | some q140 =>
    obtain ⟨v12 | v12, s13⟩ := q140
    · rw [q14] at H; dsimp only at H
      have hc := g31_run (Ω := Ω) htr d p τ k0 σ q14
      refine xp_ok htr 1 (d + 7) 1 6 [eN none (hM p s13 τ) 1 6] 62 38 [some (.ref 0), some (.int x1), some (.int x2)] [.int k0] (hM p σ τ) ⟨hc, ?_⟩
      show xv l Ω (d + 7) 0 0 62 41 [some (.ref 0), some (.int x1), some (.int x2)] [] (hM p s13 τ) r
      cases q17 : g64 x1 x2 s13 with
      | none => rw [q17] at H; exact False.elim H
      | some q170 =>
        obtain ⟨v15 | v15, s16⟩ := q170
        · rw [q17] at H; dsimp only at H
          have hc := g64_run (Ω := Ω) htr (d + 6) p τ x1 x2 s13 q17
          refine xp_ok htr 5 (d + 7) 0 0 [eC none (hM p s16 τ)] 62 41 [some (.ref 0), some (.int x1), some (.int x2)] [] (hM p s13 τ) ⟨hc, ?_⟩
          show xv l Ω (d + 7) 0 0 62 50 [some (.ref 0), some (.int x1), some (.int x2)] [] (hM p s16 τ) r
          exact xp_ok htr 1 (d + 7) 0 0 [] 62 50 [some (.ref 0), some (.int x1), some (.int x2)] [] (hM p s16 τ) ⟨trivial, (Eq.symm H)⟩
        · rw [q17] at H; exact False.elim H
    · rw [q14] at H; dsimp only at H
      have hc := g31_run (Ω := Ω) htr d p τ k0 σ q14
      exact xp_ok htr 1 (d + 7) 1 6 [eT v12 (hM p s13 τ) 1 6] 62 38 [some (.ref 0), some (.int x1), some (.int x2)] [.int k0] (hM p σ τ) ⟨hc, (Eq.symm H)⟩
theorem g62_19_ok {l : Launch} {Ω : xo_O} (htr : xH l) (d : Nat) (p : Nat) (τ : Nat → Nat → Int64) (x1 : Int32) (x2 : Int32) (k0 : Int32) (σ : xS) (r : xv_R) (H : xo (xB true p τ r) (g62_19 x1 x2 k0 σ)) : xv l Ω (d + 7) 2 12 62 19 [some (.ref 0), some (.int x1), some (.int x2)] [.int k0] (hM p σ τ) r := by
  unfold g62_19 at H
  cases q7 : g26 k0 σ with
  | none => rw [q7] at H; exact False.elim H
  | some q70 =>
    obtain ⟨v5 | v5, s6⟩ := q70
    · rw [q7] at H; dsimp only at H
      have hc := g26_run (Ω := Ω) htr d p τ k0 σ q7
      refine xp_ok htr 1 (d + 7) 2 12 [eN none (hM p s6 τ) 1 6] 62 19 [some (.ref 0), some (.int x1), some (.int x2)] [.int k0] (hM p σ τ) ⟨hc, ?_⟩
      show xv l Ω (d + 7) 1 6 62 22 [some (.ref 0), some (.int x1), some (.int x2)] [] (hM p s6 τ) r
      cases q10 : g44 x1 s6 with
      | none => rw [q10] at H; exact False.elim H
      | some q100 =>
        obtain ⟨v8 | v8, s9⟩ := q100
        · rw [q10] at H; dsimp only at H
          have hc := g44_run (Ω := Ω) htr (d + 6) p τ x1 s6 q10
          refine xp_ok htr 4 (d + 7) 1 6 [eC (some (.int v8)) (hM p s9 τ)] 62 22 [some (.ref 0), some (.int x1), some (.int x2)] [] (hM p s6 τ) ⟨hc, ?_⟩
          show xv l Ω (d + 7) 1 6 62 30 [some (.ref 0), some (.int x1), some (.int x2)] [.int v8] (hM p s9 τ) r
          by_cases h11 : v8 = 0
          · rw [if_pos h11] at H
            refine xp_ok htr 1 (d + 7) 1 6 [eB false] 62 30 [some (.ref 0), some (.int x1), some (.int x2)] [.int v8] (hM p s9 τ) ⟨h11, ?_⟩
            show xv l Ω (d + 7) 1 6 62 33 [some (.ref 0), some (.int x1), some (.int x2)] [] (hM p s9 τ) r
            refine xp_ok htr 2 (d + 7) 1 6 [] 62 33 [some (.ref 0), some (.int x1), some (.int x2)] [] (hM p s9 τ) ?_
            show xv l Ω (d + 7) 1 6 62 38 [some (.ref 0), some (.int x1), some (.int x2)] [.int 1] (hM p s9 τ) r
            exact xv_sub (L' := [some (.ref 0), some (.int x1), some (.int x2)]) ⟨rfl, ⟨rfl, ⟨rfl, trivial⟩⟩⟩ (g62_38_ok htr d p τ x1 x2 1 s9 r H)
          · rw [if_neg h11] at H
            refine xp_ok htr 1 (d + 7) 1 6 [eB true] 62 30 [some (.ref 0), some (.int x1), some (.int x2)] [.int v8] (hM p s9 τ) ⟨h11, ?_⟩
            show xv l Ω (d + 7) 1 6 62 37 [some (.ref 0), some (.int x1), some (.int x2)] [] (hM p s9 τ) r
            refine xp_ok htr 1 (d + 7) 1 6 [] 62 37 [some (.ref 0), some (.int x1), some (.int x2)] [] (hM p s9 τ) ?_
            show xv l Ω (d + 7) 1 6 62 38 [some (.ref 0), some (.int x1), some (.int x2)] [.int 0] (hM p s9 τ) r
            exact xv_sub (L' := [some (.ref 0), some (.int x1), some (.int x2)]) ⟨rfl, ⟨rfl, ⟨rfl, trivial⟩⟩⟩ (g62_38_ok htr d p τ x1 x2 0 s9 r H)
        · rw [q10] at H; exact False.elim H
    · rw [q7] at H; dsimp only at H
      have hc := g26_run (Ω := Ω) htr d p τ k0 σ q7
      exact xp_ok htr 1 (d + 7) 2 12 [eT v5 (hM p s6 τ) 1 6] 62 19 [some (.ref 0), some (.int x1), some (.int x2)] [.int k0] (hM p σ τ) ⟨hc, (Eq.symm H)⟩
theorem g62_18_ok {l : Launch} {Ω : xo_O} (htr : xH l) (d : Nat) (p : Nat) (τ : Nat → Nat → Int64) (x1 : Int32) (x2 : Int32) (σ : xS) (r : xv_R) (H : xo (xB true p τ r) (g62_18 x1 x2 σ)) : xv l Ω (d + 7) 2 12 62 18 [some (.ref 0), some (.int x1), some (.int x2)] [] (hM p σ τ) r := by
  unfold g62_18 at H
  refine xp_ok htr 1 (d + 7) 2 12 [] 62 18 [some (.ref 0), some (.int x1), some (.int x2)] [] (hM p σ τ) ?_
  show xv l Ω (d + 7) 2 12 62 19 [some (.ref 0), some (.int x1), some (.int x2)] [.int 0] (hM p σ τ) r
  exact xv_sub (L' := [some (.ref 0), some (.int x1), some (.int x2)]) ⟨rfl, ⟨rfl, ⟨rfl, trivial⟩⟩⟩ (g62_19_ok htr d p τ x1 x2 0 σ r H)
theorem g62_run {l : Launch} {Ω : xo_O} (htr : xH l) (d : Nat) (p : Nat) (τ : Nat → Nat → Int64) (a1 : Int32) (a2 : Int32) (σ : xS) {q : xQ} (hq : g62 a1 a2 σ = some q) : xv l Ω (d + 7) 2 12 62 0 (xs_loc (xm_l 62) [.ref 0, .int a1, .int a2]) [] (hM p σ τ) (xq_R true p τ q) := by
  have H : xo (xB true p τ (xq_R true p τ q)) (g62 a1 a2 σ) := by rw [hq]; exact rfl
  generalize xq_R true p τ q = r at H ⊢
  show xv l Ω (d + 7) 2 12 62 0 [some (.ref 0), some (.int a1), some (.int a2)] [] (hM p σ τ) r
  unfold g62 at H
  cases q3 : g63 a1 σ with
  | none => rw [q3] at H; exact False.elim H
  | some q30 =>
    obtain ⟨v1 | v1, s2⟩ := q30
    · rw [q3] at H; dsimp only at H
      have hc := g63_run (Ω := Ω) htr (d + 5) p τ a1 σ q3
      refine xp_ok htr 2 (d + 7) 2 12 [eC (some (.int v1)) (hM p s2 τ)] 62 0 [some (.ref 0), some (.int a1), some (.int a2)] [] (hM p σ τ) ⟨hc, ?_⟩
      show xv l Ω (d + 7) 2 12 62 4 [some (.ref 0), some (.int a1), some (.int a2)] [.int v1] (hM p s2 τ) r
      by_cases h4 : v1 = 0
      · rw [if_pos h4] at H
        refine xp_ok htr 1 (d + 7) 2 12 [eB true] 62 4 [some (.ref 0), some (.int a1), some (.int a2)] [.int v1] (hM p s2 τ) ⟨h4, ?_⟩
        show xv l Ω (d + 7) 2 12 62 18 [some (.ref 0), some (.int a1), some (.int a2)] [] (hM p s2 τ) r
        exact xv_sub (L' := [some (.ref 0), some (.int a1), some (.int a2)]) ⟨rfl, ⟨rfl, ⟨rfl, trivial⟩⟩⟩ (g62_18_ok htr d p τ a1 a2 s2 r H)
      · rw [if_neg h4] at H
        refine xp_ok htr 1 (d + 7) 2 12 [eB false] 62 4 [some (.ref 0), some (.int a1), some (.int a2)] [.int v1] (hM p s2 τ) ⟨h4, ?_⟩
        show xv l Ω (d + 7) 2 12 62 7 [some (.ref 0), some (.int a1), some (.int a2)] [] (hM p s2 τ) r
        cases q20 : g47 a2 s2 with
        | none => rw [q20] at H; exact False.elim H
        | some q200 =>
          obtain ⟨v18 | v18, s19⟩ := q200
          · rw [q20] at H; dsimp only at H
            have hc := g47_run (Ω := Ω) htr (d + 5) p τ a2 s2 q20
            refine xp_ok htr 2 (d + 7) 2 12 [eC (some (.int v18)) (hM p s19 τ)] 62 7 [some (.ref 0), some (.int a1), some (.int a2)] [] (hM p s2 τ) ⟨hc, ?_⟩
            show xv l Ω (d + 7) 2 12 62 11 [some (.ref 0), some (.int a1), some (.int a2)] [.int v18] (hM p s19 τ) r
            by_cases h21 : v18 = 0
            · rw [if_pos h21] at H
              refine xp_ok htr 1 (d + 7) 2 12 [eB true] 62 11 [some (.ref 0), some (.int a1), some (.int a2)] [.int v18] (hM p s19 τ) ⟨h21, ?_⟩
              show xv l Ω (d + 7) 2 12 62 18 [some (.ref 0), some (.int a1), some (.int a2)] [] (hM p s19 τ) r
              exact xv_sub (L' := [some (.ref 0), some (.int a1), some (.int a2)]) ⟨rfl, ⟨rfl, ⟨rfl, trivial⟩⟩⟩ (g62_18_ok htr d p τ a1 a2 s19 r H)
            · rw [if_neg h21] at H
              refine xp_ok htr 1 (d + 7) 2 12 [eB false] 62 11 [some (.ref 0), some (.int a1), some (.int a2)] [.int v18] (hM p s19 τ) ⟨h21, ?_⟩
              show xv l Ω (d + 7) 2 12 62 14 [some (.ref 0), some (.int a1), some (.int a2)] [] (hM p s19 τ) r
              refine xp_ok htr 2 (d + 7) 2 12 [] 62 14 [some (.ref 0), some (.int a1), some (.int a2)] [] (hM p s19 τ) ?_
              show xv l Ω (d + 7) 2 12 62 19 [some (.ref 0), some (.int a1), some (.int a2)] [.int 1] (hM p s19 τ) r
              exact xv_sub (L' := [some (.ref 0), some (.int a1), some (.int a2)]) ⟨rfl, ⟨rfl, ⟨rfl, trivial⟩⟩⟩ (g62_19_ok htr d p τ a1 a2 1 s19 r H)
          · rw [q20] at H; exact False.elim H
    · rw [q3] at H; exact False.elim H
/- AccessDesk$Sessions.end -/
def g67 (a1 : Int32) (σ : xS) : xO := (bif xn a1 6 then some ((Sum.inl 0, (xh_ui (xh_ui σ 8 (Int32.toNatClampNeg a1) (-1)) 9 (Int32.toNatClampNeg a1) 0))) else none)
theorem g67_run {l : Launch} {Ω : xo_O} (htr : xH l) (d : Nat) (p : Nat) (τ : Nat → Nat → Int64) (a1 : Int32) (σ : xS) {q : xQ} (hq : g67 a1 σ = some q) : xv l Ω d 0 0 67 0 (xs_loc (xm_l 67) [.ref 7, .int a1]) [] (hM p σ τ) (xq_R true p τ q) := by
  have H : xo (xB true p τ (xq_R true p τ q)) (g67 a1 σ) := by rw [hq]; exact rfl
  generalize xq_R true p τ q = r at H ⊢
  show xv l Ω d 0 0 67 0 [some (.ref 7), some (.int a1)] [] (hM p σ τ) r
  unfold g67 at H
  cases g1 : xn a1 6 with
  | false => rw [g1, cond_false] at H; exact False.elim H
  | true =>
    rw [g1, cond_true] at H
    refine xp_ok htr 8 d 0 0 [] 67 0 [some (.ref 7), some (.int a1)] [] (hM p σ τ) ⟨(xn_in g1), ?_⟩
    show xv l Ω d 0 0 67 12 [some (.ref 7), some (.int a1)] [.int a1, .ref 9] (hM p (xh_ui σ 8 (Int32.toNatClampNeg a1) (-1)) τ) r
    exact xp_ok htr 3 d 0 0 [] 67 12 [some (.ref 7), some (.int a1)] [.int a1, .ref 9] (hM p (xh_ui σ 8 (Int32.toNatClampNeg a1) (-1)) τ) ⟨(xn_in g1), trivial, (Eq.symm H)⟩
/- AccessDesk.close -/
def g66 (a1 : Int32) (σ : xS) : xO := (match g63 a1 σ with | some (Sum.inl v1, s2) => (match g26 v1 s2 with | some (Sum.inl v4, s5) => (match g44 a1 s5 with | some (Sum.inl v7, s8) => (match g31 v7 s8 with | some (Sum.inl v10, s11) => (match g67 a1 s11 with | some (Sum.inl v13, s14) => some ((Sum.inl 0, s14)) | some (Sum.inr v13, s14) => none | none => none) | some (Sum.inr v10, s11) => some ((Sum.inr v10, s11)) | none => none) | some (Sum.inr v7, s8) => none | none => none) | some (Sum.inr v4, s5) => some ((Sum.inr v4, s5)) | none => none) | some (Sum.inr v1, s2) => none | none => none)
theorem g66_run {l : Launch} {Ω : xo_O} (htr : xH l) (d : Nat) (p : Nat) (τ : Nat → Nat → Int64) (a1 : Int32) (σ : xS) {q : xQ} (hq : g66 a1 σ = some q) : xv l Ω (d + 7) 2 12 66 0 (xs_loc (xm_l 66) [.ref 0, .int a1]) [] (hM p σ τ) (xq_R true p τ q) := by
  have H : xo (xB true p τ (xq_R true p τ q)) (g66 a1 σ) := by rw [hq]; exact rfl
  generalize xq_R true p τ q = r at H ⊢
  show xv l Ω (d + 7) 2 12 66 0 [some (.ref 0), some (.int a1)] [] (hM p σ τ) r
  unfold g66 at H
  cases q3 : g63 a1 σ with
  | none => rw [q3] at H; exact False.elim H
  | some q30 =>
    obtain ⟨v1 | v1, s2⟩ := q30
    · rw [q3] at H; dsimp only at H
      have hc := g63_run (Ω := Ω) htr (d + 5) p τ a1 σ q3
      refine xp_ok htr 2 (d + 7) 2 12 [eC (some (.int v1)) (hM p s2 τ)] 66 0 [some (.ref 0), some (.int a1)] [] (hM p σ τ) ⟨hc, ?_⟩
      show xv l Ω (d + 7) 2 12 66 4 [some (.ref 0), some (.int a1)] [.int v1] (hM p s2 τ) r
      cases q6 : g26 v1 s2 with
      | none => rw [q6] at H; exact False.elim H
      | some q60 =>
        obtain ⟨v4 | v4, s5⟩ := q60
        · rw [q6] at H; dsimp only at H
          have hc := g26_run (Ω := Ω) htr d p τ v1 s2 q6
          refine xp_ok htr 1 (d + 7) 2 12 [eN none (hM p s5 τ) 1 6] 66 4 [some (.ref 0), some (.int a1)] [.int v1] (hM p s2 τ) ⟨hc, ?_⟩
          show xv l Ω (d + 7) 1 6 66 7 [some (.ref 0), some (.int a1)] [] (hM p s5 τ) r
          cases q9 : g44 a1 s5 with
          | none => rw [q9] at H; exact False.elim H
          | some q90 =>
            obtain ⟨v7 | v7, s8⟩ := q90
            · rw [q9] at H; dsimp only at H
              have hc := g44_run (Ω := Ω) htr (d + 6) p τ a1 s5 q9
              refine xp_ok htr 4 (d + 7) 1 6 [eC (some (.int v7)) (hM p s8 τ)] 66 7 [some (.ref 0), some (.int a1)] [] (hM p s5 τ) ⟨hc, ?_⟩
              show xv l Ω (d + 7) 1 6 66 15 [some (.ref 0), some (.int a1)] [.int v7] (hM p s8 τ) r
              cases q12 : g31 v7 s8 with
              | none => rw [q12] at H; exact False.elim H
              | some q120 =>
                obtain ⟨v10 | v10, s11⟩ := q120
                · rw [q12] at H; dsimp only at H
                  have hc := g31_run (Ω := Ω) htr d p τ v7 s8 q12
                  refine xp_ok htr 1 (d + 7) 1 6 [eN none (hM p s11 τ) 1 6] 66 15 [some (.ref 0), some (.int a1)] [.int v7] (hM p s8 τ) ⟨hc, ?_⟩
                  show xv l Ω (d + 7) 0 0 66 18 [some (.ref 0), some (.int a1)] [] (hM p s11 τ) r
                  cases q15 : g67 a1 s11 with
                  | none => rw [q15] at H; exact False.elim H
                  | some q150 =>
                    obtain ⟨v13 | v13, s14⟩ := q150
                    · rw [q15] at H; dsimp only at H
                      have hc := g67_run (Ω := Ω) htr (d + 6) p τ a1 s11 q15
                      refine xp_ok htr 4 (d + 7) 0 0 [eC none (hM p s14 τ)] 66 18 [some (.ref 0), some (.int a1)] [] (hM p s11 τ) ⟨hc, ?_⟩
                      show xv l Ω (d + 7) 0 0 66 26 [some (.ref 0), some (.int a1)] [] (hM p s14 τ) r
                      exact xp_ok htr 1 (d + 7) 0 0 [] 66 26 [some (.ref 0), some (.int a1)] [] (hM p s14 τ) ⟨trivial, (Eq.symm H)⟩
                    · rw [q15] at H; exact False.elim H
                · rw [q12] at H; dsimp only at H
                  have hc := g31_run (Ω := Ω) htr d p τ v7 s8 q12
                  exact xp_ok htr 1 (d + 7) 1 6 [eT v10 (hM p s11 τ) 1 6] 66 15 [some (.ref 0), some (.int a1)] [.int v7] (hM p s8 τ) ⟨hc, (Eq.symm H)⟩
            · rw [q9] at H; exact False.elim H
        · rw [q6] at H; dsimp only at H
          have hc := g26_run (Ω := Ω) htr d p τ v1 s2 q6
          exact xp_ok htr 1 (d + 7) 2 12 [eT v4 (hM p s5 τ) 1 6] 66 4 [some (.ref 0), some (.int a1)] [.int v1] (hM p s2 τ) ⟨hc, (Eq.symm H)⟩
    · rw [q3] at H; exact False.elim H
/- AccessDesk$Sessions.isActive -/
def g70 (a1 : Int32) (a2 : Int32) (σ : xS) : xO := (bif xn a1 6 then (match g28 (σ 9 (Int32.toNatClampNeg a1)) a2 σ with | some (Sum.inl v2, s3) => (bif decide (v2 = 0 ∨ v2 = 1) then some ((Sum.inl v2, s3)) else none) | some (Sum.inr v2, s3) => none | none => none) else none)
theorem g70_run {l : Launch} {Ω : xo_O} (htr : xH l) (d : Nat) (p : Nat) (τ : Nat → Nat → Int64) (a1 : Int32) (a2 : Int32) (σ : xS) {q : xQ} (hq : g70 a1 a2 σ = some q) : xv l Ω (d + 1) 0 0 70 0 (xs_loc (xm_l 70) [.ref 7, .int a1, .int a2]) [] (hM p σ τ) (xq_R false p τ q) := by
  have H : xo (xB false p τ (xq_R false p τ q)) (g70 a1 a2 σ) := by rw [hq]; exact rfl
  generalize xq_R false p τ q = r at H ⊢
  show xv l Ω (d + 1) 0 0 70 0 [some (.ref 7), some (.int a1), some (.int a2)] [] (hM p σ τ) r
  unfold g70 at H
  cases g1 : xn a1 6 with
  | false => rw [g1, cond_false] at H; exact False.elim H
  | true =>
    rw [g1, cond_true] at H
    cases q4 : g28 (σ 9 (Int32.toNatClampNeg a1)) a2 σ with
    | none => rw [q4] at H; exact False.elim H
    | some q40 =>
      obtain ⟨v2 | v2, s3⟩ := q40
      · rw [q4] at H; dsimp only at H
        have hc := g28_run (Ω := Ω) htr d p τ (σ 9 (Int32.toNatClampNeg a1)) a2 σ q4
        refine xp_ok htr 6 (d + 1) 0 0 [eC (some (.int v2)) (hM p s3 τ)] 70 0 [some (.ref 7), some (.int a1), some (.int a2)] [] (hM p σ τ) ⟨(xn_in g1), hc, ?_⟩
        show xv l Ω (d + 1) 0 0 70 10 [some (.ref 7), some (.int a1), some (.int a2)] [.int v2] (hM p s3 τ) r
        cases g5 : decide (v2 = 0 ∨ v2 = 1) with
        | false => rw [g5, cond_false] at H; exact False.elim H
        | true =>
          rw [g5, cond_true] at H
          exact xp_ok htr 1 (d + 1) 0 0 [] 70 10 [some (.ref 7), some (.int a1), some (.int a2)] [.int v2] (hM p s3 τ) ⟨(xb01 g5), (Eq.symm H)⟩
      · rw [q4] at H; exact False.elim H
/- AccessDesk$Sessions.turnOn -/
def g72 (a1 : Int32) (a2 : Int32) (σ : xS) : xO := (bif xn a1 6 then some ((Sum.inl 0, (xh_ui σ 9 (Int32.toNatClampNeg a1) ((σ 9 (Int32.toNatClampNeg a1)) ||| (1 <<< (a2 &&& 31)))))) else none)
theorem g72_run {l : Launch} {Ω : xo_O} (htr : xH l) (d : Nat) (p : Nat) (τ : Nat → Nat → Int64) (a1 : Int32) (a2 : Int32) (σ : xS) {q : xQ} (hq : g72 a1 a2 σ = some q) : xv l Ω d 0 0 72 0 (xs_loc (xm_l 72) [.ref 7, .int a1, .int a2]) [] (hM p σ τ) (xq_R true p τ q) := by
  have H : xo (xB true p τ (xq_R true p τ q)) (g72 a1 a2 σ) := by rw [hq]; exact rfl
  generalize xq_R true p τ q = r at H ⊢
  show xv l Ω d 0 0 72 0 [some (.ref 7), some (.int a1), some (.int a2)] [] (hM p σ τ) r
  unfold g72 at H
  cases g1 : xn a1 6 with
  | false => rw [g1, cond_false] at H; exact False.elim H
  | true =>
    rw [g1, cond_true] at H
    refine xp_ok htr 8 d 0 0 [] 72 0 [some (.ref 7), some (.int a1), some (.int a2)] [] (hM p σ τ) ⟨(xn_in g1), ?_⟩
    show xv l Ω d 0 0 72 10 [some (.ref 7), some (.int a1), some (.int a2)] [.int (1 <<< (a2 &&& 31)), .int (σ 9 (Int32.toNatClampNeg a1)), .int a1, .ref 9] (hM p σ τ) r
    exact xp_ok htr 3 d 0 0 [] 72 10 [some (.ref 7), some (.int a1), some (.int a2)] [.int (1 <<< (a2 &&& 31)), .int (σ 9 (Int32.toNatClampNeg a1)), .int a1, .ref 9] (hM p σ τ) ⟨(xn_in g1), trivial, (Eq.symm H)⟩
/- AccessDesk$Sessions.turnOff -/
def g73 (a1 : Int32) (a2 : Int32) (σ : xS) : xO := (bif xn a1 6 then some ((Sum.inl 0, (xh_ui σ 9 (Int32.toNatClampNeg a1) ((σ 9 (Int32.toNatClampNeg a1)) &&& ((1 <<< (a2 &&& 31)) ^^^ (-1)))))) else none)
theorem g73_run {l : Launch} {Ω : xo_O} (htr : xH l) (d : Nat) (p : Nat) (τ : Nat → Nat → Int64) (a1 : Int32) (a2 : Int32) (σ : xS) {q : xQ} (hq : g73 a1 a2 σ = some q) : xv l Ω d 0 0 73 0 (xs_loc (xm_l 73) [.ref 7, .int a1, .int a2]) [] (hM p σ τ) (xq_R true p τ q) := by
  have H : xo (xB true p τ (xq_R true p τ q)) (g73 a1 a2 σ) := by rw [hq]; exact rfl
  generalize xq_R true p τ q = r at H ⊢
  show xv l Ω d 0 0 73 0 [some (.ref 7), some (.int a1), some (.int a2)] [] (hM p σ τ) r
  unfold g73 at H
  cases g1 : xn a1 6 with
  | false => rw [g1, cond_false] at H; exact False.elim H
  | true =>
    rw [g1, cond_true] at H
    refine xp_ok htr 8 d 0 0 [] 73 0 [some (.ref 7), some (.int a1), some (.int a2)] [] (hM p σ τ) ⟨(xn_in g1), ?_⟩
    show xv l Ω d 0 0 73 10 [some (.ref 7), some (.int a1), some (.int a2)] [.int (1 <<< (a2 &&& 31)), .int (σ 9 (Int32.toNatClampNeg a1)), .int a1, .ref 9] (hM p σ τ) r
    exact xp_ok htr 5 d 0 0 [] 73 10 [some (.ref 7), some (.int a1), some (.int a2)] [.int (1 <<< (a2 &&& 31)), .int (σ 9 (Int32.toNatClampNeg a1)), .int a1, .ref 9] (hM p σ τ) ⟨(xn_in g1), trivial, (Eq.symm H)⟩
/- AccessDesk.turnOn -/
def g71 (a1 : Int32) (a2 : Int32) (σ : xS) : xO := (bif xn a1 6 then (match g39 (σ 8 (Int32.toNatClampNeg a1)) σ with | some (Sum.inl v2, s3) => (match g28 v2 a2 s3 with | some (Sum.inl v5, s6) => (match g31 v5 s6 with | some (Sum.inl v8, s9) => (match g72 a1 a2 s9 with | some (Sum.inl v11, s12) => (match g33 s12 with | some (Sum.inl v14, s15) => (if v14 = 0 then some ((Sum.inl 0, s15)) else (match g73 a1 a2 s15 with | some (Sum.inl v18, s19) => some ((Sum.inr 1, s19)) | some (Sum.inr v18, s19) => none | none => none)) | some (Sum.inr v14, s15) => none | none => none) | some (Sum.inr v11, s12) => none | none => none) | some (Sum.inr v8, s9) => some ((Sum.inr v8, s9)) | none => none) | some (Sum.inr v5, s6) => none | none => none) | some (Sum.inr v2, s3) => none | none => none) else none)
theorem g71_run {l : Launch} {Ω : xo_O} (htr : xH l) (d : Nat) (p : Nat) (τ : Nat → Nat → Int64) (a1 : Int32) (a2 : Int32) (σ : xS) {q : xQ} (hq : g71 a1 a2 σ = some q) : xv l Ω (d + 7) 2 12 71 0 (xs_loc (xm_l 71) [.ref 0, .int a1, .int a2]) [] (hM p σ τ) (xq_R true p τ q) := by
  have H : xo (xB true p τ (xq_R true p τ q)) (g71 a1 a2 σ) := by rw [hq]; exact rfl
  generalize xq_R true p τ q = r at H ⊢
  show xv l Ω (d + 7) 2 12 71 0 [some (.ref 0), some (.int a1), some (.int a2)] [] (hM p σ τ) r
  unfold g71 at H
  cases g1 : xn a1 6 with
  | false => rw [g1, cond_false] at H; exact False.elim H
  | true =>
    rw [g1, cond_true] at H
    cases q4 : g39 (σ 8 (Int32.toNatClampNeg a1)) σ with
    | none => rw [q4] at H; exact False.elim H
    | some q40 =>
      obtain ⟨v2 | v2, s3⟩ := q40
      · rw [q4] at H; dsimp only at H
        have hc := g39_run (Ω := Ω) htr (d + 4) p τ (σ 8 (Int32.toNatClampNeg a1)) σ q4
        refine xp_ok htr 7 (d + 7) 2 12 [eC (some (.int v2)) (hM p s3 τ)] 71 0 [some (.ref 0), some (.int a1), some (.int a2)] [] (hM p σ τ) ⟨(xn_in g1), hc, ?_⟩
        show xv l Ω (d + 7) 2 12 71 13 [some (.ref 0), some (.int a1), some (.int a2)] [.int v2] (hM p s3 τ) r
        cases q7 : g28 v2 a2 s3 with
        | none => rw [q7] at H; exact False.elim H
        | some q70 =>
          obtain ⟨v5 | v5, s6⟩ := q70
          · rw [q7] at H; dsimp only at H
            have hc := g28_run (Ω := Ω) htr (d + 6) p τ v2 a2 s3 q7
            refine xp_ok htr 2 (d + 7) 2 12 [eC (some (.int v5)) (hM p s6 τ)] 71 13 [some (.ref 0), some (.int a1), some (.int a2)] [.int v2] (hM p s3 τ) ⟨hc, ?_⟩
            show xv l Ω (d + 7) 2 12 71 17 [some (.ref 0), some (.int a1), some (.int a2)] [.int v5] (hM p s6 τ) r
            cases q10 : g31 v5 s6 with
            | none => rw [q10] at H; exact False.elim H
            | some q100 =>
              obtain ⟨v8 | v8, s9⟩ := q100
              · rw [q10] at H; dsimp only at H
                have hc := g31_run (Ω := Ω) htr d p τ v5 s6 q10
                refine xp_ok htr 1 (d + 7) 2 12 [eN none (hM p s9 τ) 1 6] 71 17 [some (.ref 0), some (.int a1), some (.int a2)] [.int v5] (hM p s6 τ) ⟨hc, ?_⟩
                show xv l Ω (d + 7) 1 6 71 20 [some (.ref 0), some (.int a1), some (.int a2)] [] (hM p s9 τ) r
                cases q13 : g72 a1 a2 s9 with
                | none => rw [q13] at H; exact False.elim H
                | some q130 =>
                  obtain ⟨v11 | v11, s12⟩ := q130
                  · rw [q13] at H; dsimp only at H
                    have hc := g72_run (Ω := Ω) htr (d + 6) p τ a1 a2 s9 q13
                    refine xp_ok htr 5 (d + 7) 1 6 [eC none (hM p s12 τ)] 71 20 [some (.ref 0), some (.int a1), some (.int a2)] [] (hM p s9 τ) ⟨hc, ?_⟩
                    show xv l Ω (d + 7) 1 6 71 29 [some (.ref 0), some (.int a1), some (.int a2)] [] (hM p s12 τ) r
                    cases q16 : g33 s12 with
                    | none => rw [q16] at H; exact False.elim H
                    | some q160 =>
                      obtain ⟨v14 | v14, s15⟩ := q160
                      · rw [q16] at H; dsimp only at H
                        have hc := g33_run (Ω := Ω) htr (d + 1) p τ  s12 q16
                        refine xp_ok htr 2 (d + 7) 1 6 [eC (some (.int v14)) (hM p s15 τ)] 71 29 [some (.ref 0), some (.int a1), some (.int a2)] [] (hM p s12 τ) ⟨hc, ?_⟩
                        show xv l Ω (d + 7) 1 6 71 33 [some (.ref 0), some (.int a1), some (.int a2)] [.int v14] (hM p s15 τ) r
                        by_cases h17 : v14 = 0
                        · rw [if_pos h17] at H
                          refine xp_ok htr 1 (d + 7) 1 6 [eB true] 71 33 [some (.ref 0), some (.int a1), some (.int a2)] [.int v14] (hM p s15 τ) ⟨h17, ?_⟩
                          show xv l Ω (d + 7) 1 6 71 55 [some (.ref 0), some (.int a1), some (.int a2)] [] (hM p s15 τ) r
                          exact xp_ok htr 1 (d + 7) 1 6 [] 71 55 [some (.ref 0), some (.int a1), some (.int a2)] [] (hM p s15 τ) ⟨trivial, (Eq.symm H)⟩
                        · rw [if_neg h17] at H
                          refine xp_ok htr 1 (d + 7) 1 6 [eB false] 71 33 [some (.ref 0), some (.int a1), some (.int a2)] [.int v14] (hM p s15 τ) ⟨h17, ?_⟩
                          show xv l Ω (d + 7) 1 6 71 36 [some (.ref 0), some (.int a1), some (.int a2)] [] (hM p s15 τ) r
                          cases q20 : g73 a1 a2 s15 with
                          | none => rw [q20] at H; exact False.elim H
                          | some q200 =>
                            obtain ⟨v18 | v18, s19⟩ := q200
                            · rw [q20] at H; dsimp only at H
                              have hc := g73_run (Ω := Ω) htr (d + 6) p τ a1 a2 s15 q20
                              refine xp_ok htr 5 (d + 7) 1 6 [eC none (hM p s19 τ)] 71 36 [some (.ref 0), some (.int a1), some (.int a2)] [] (hM p s15 τ) ⟨hc, ?_⟩
                              show xv l Ω (d + 7) 1 6 71 45 [some (.ref 0), some (.int a1), some (.int a2)] [] (hM p s19 τ) r
                              exact xp_ok htr 1 (d + 7) 1 6 [] 71 45 [some (.ref 0), some (.int a1), some (.int a2)] [] (hM p s19 τ) (Eq.symm H)
                            · rw [q20] at H; exact False.elim H
                      · rw [q16] at H; exact False.elim H
                  · rw [q13] at H; exact False.elim H
              · rw [q10] at H; dsimp only at H
                have hc := g31_run (Ω := Ω) htr d p τ v5 s6 q10
                exact xp_ok htr 1 (d + 7) 2 12 [eT v8 (hM p s9 τ) 1 6] 71 17 [some (.ref 0), some (.int a1), some (.int a2)] [.int v5] (hM p s6 τ) ⟨hc, (Eq.symm H)⟩
          · rw [q7] at H; exact False.elim H
      · rw [q4] at H; exact False.elim H
/- AccessDesk.activate -/
def g69_51 (x1 : Int32) (x2 : Int32) (x3 : Int32) (k0 : Int32) (σ : xS) : Option xQ := (match g31 k0 σ with | some (Sum.inl v12, s13) => (if x3 = 0 then (match g73 x1 x2 s13 with | some (Sum.inl v16, s17) => some ((Sum.inl 0, s17)) | some (Sum.inr v16, s17) => none | none => none) else (match g71 x1 x2 s13 with | some (Sum.inl v19, s20) => some ((Sum.inl 0, s20)) | some (Sum.inr v19, s20) => some ((Sum.inr v19, s20)) | none => none)) | some (Sum.inr v12, s13) => some ((Sum.inr v12, s13)) | none => none)
def g69_50 (x1 : Int32) (x2 : Int32) (x3 : Int32) (σ : xS) : Option xQ := g69_51 x1 x2 x3 0 σ
def g69_19 (x1 : Int32) (x2 : Int32) (x3 : Int32) (k0 : Int32) (σ : xS) : Option xQ := (match g26 k0 σ with | some (Sum.inl v5, s6) => (match g44 x1 s6 with | some (Sum.inl v8, s9) => (if v8 = 0 then g69_50 x1 x2 x3 s9 else (match g70 x1 x2 s9 with | some (Sum.inl v22, s23) => (if v22 = x3 then g69_50 x1 x2 x3 s23 else g69_51 x1 x2 x3 1 s23) | some (Sum.inr v22, s23) => none | none => none)) | some (Sum.inr v8, s9) => none | none => none) | some (Sum.inr v5, s6) => some ((Sum.inr v5, s6)) | none => none)
def g69_18 (x1 : Int32) (x2 : Int32) (x3 : Int32) (σ : xS) : Option xQ := g69_19 x1 x2 x3 0 σ
def g69 (a1 : Int32) (a2 : Int32) (a3 : Int32) (σ : xS) : xO := (match g63 a1 σ with | some (Sum.inl v1, s2) => (if v1 = 0 then g69_18 a1 a2 a3 s2 else (match g24 a2 s2 with | some (Sum.inl v26, s27) => (if v26 = 0 then g69_18 a1 a2 a3 s27 else g69_19 a1 a2 a3 1 s27) | some (Sum.inr v26, s27) => none | none => none)) | some (Sum.inr v1, s2) => none | none => none)
theorem g69_51_ok {l : Launch} {Ω : xo_O} (htr : xH l) (d : Nat) (p : Nat) (τ : Nat → Nat → Int64) (x1 : Int32) (x2 : Int32) (x3 : Int32) (k0 : Int32) (σ : xS) (r : xv_R) (H : xo (xB true p τ r) (g69_51 x1 x2 x3 k0 σ)) : xv l Ω (d + 8) 3 18 69 51 [some (.ref 0), some (.int x1), some (.int x2), some (.int x3)] [.int k0] (hM p σ τ) r := by
  unfold g69_51 at H
  cases q14 : g31 k0 σ with
  | none => rw [q14] at H; exact False.elim H
  | some q140 =>
    obtain ⟨v12 | v12, s13⟩ := q140
    · rw [q14] at H; dsimp only at H
      have hc := g31_run (Ω := Ω) htr (d + 1) p τ k0 σ q14
      refine xp_ok htr 1 (d + 8) 3 18 [eN none (hM p s13 τ) 1 6] 69 51 [some (.ref 0), some (.int x1), some (.int x2), some (.int x3)] [.int k0] (hM p σ τ) ⟨hc, ?_⟩
      show xv l Ω (d + 8) 2 12 69 54 [some (.ref 0), some (.int x1), some (.int x2), some (.int x3)] [] (hM p s13 τ) r
      by_cases h15 : x3 = 0
      · rw [if_pos h15] at H
        refine xp_ok htr 2 (d + 8) 2 12 [eB true] 69 54 [some (.ref 0), some (.int x1), some (.int x2), some (.int x3)] [] (hM p s13 τ) ⟨h15, ?_⟩
        show xv l Ω (d + 8) 2 12 69 67 [some (.ref 0), some (.int x1), some (.int x2), some (.int x3)] [] (hM p s13 τ) r
        cases q18 : g73 x1 x2 s13 with
        | none => rw [q18] at H; exact False.elim H
        | some q180 =>
          obtain ⟨v16 | v16, s17⟩ := q180
          · rw [q18] at H; dsimp only at H
            have hc := g73_run (Ω := Ω) htr (d + 7) p τ x1 x2 s13 q18
            refine xp_ok htr 5 (d + 8) 2 12 [eC none (hM p s17 τ)] 69 67 [some (.ref 0), some (.int x1), some (.int x2), some (.int x3)] [] (hM p s13 τ) ⟨hc, ?_⟩
            show xv l Ω (d + 8) 2 12 69 76 [some (.ref 0), some (.int x1), some (.int x2), some (.int x3)] [] (hM p s17 τ) r
            exact xp_ok htr 1 (d + 8) 2 12 [] 69 76 [some (.ref 0), some (.int x1), some (.int x2), some (.int x3)] [] (hM p s17 τ) ⟨trivial, (Eq.symm H)⟩
          · rw [q18] at H; exact False.elim H
      · rw [if_neg h15] at H
        refine xp_ok htr 2 (d + 8) 2 12 [eB false] 69 54 [some (.ref 0), some (.int x1), some (.int x2), some (.int x3)] [] (hM p s13 τ) ⟨h15, ?_⟩
        show xv l Ω (d + 8) 2 12 69 58 [some (.ref 0), some (.int x1), some (.int x2), some (.int x3)] [] (hM p s13 τ) r
        cases q21 : g71 x1 x2 s13 with
        | none => rw [q21] at H; exact False.elim H
        | some q210 =>
          obtain ⟨v19 | v19, s20⟩ := q210
          · rw [q21] at H; dsimp only at H
            have hc := g71_run (Ω := Ω) htr d p τ x1 x2 s13 q21
            refine xp_ok htr 4 (d + 8) 2 12 [eN none (hM p s20 τ) 2 12] 69 58 [some (.ref 0), some (.int x1), some (.int x2), some (.int x3)] [] (hM p s13 τ) ⟨hc, ?_⟩
            show xv l Ω (d + 8) 0 0 69 64 [some (.ref 0), some (.int x1), some (.int x2), some (.int x3)] [] (hM p s20 τ) r
            exact xp_ok htr 2 (d + 8) 0 0 [] 69 64 [some (.ref 0), some (.int x1), some (.int x2), some (.int x3)] [] (hM p s20 τ) ⟨trivial, (Eq.symm H)⟩
          · rw [q21] at H; dsimp only at H
            have hc := g71_run (Ω := Ω) htr d p τ x1 x2 s13 q21
            exact xp_ok htr 4 (d + 8) 2 12 [eT v19 (hM p s20 τ) 2 12] 69 58 [some (.ref 0), some (.int x1), some (.int x2), some (.int x3)] [] (hM p s13 τ) ⟨hc, (Eq.symm H)⟩
    · rw [q14] at H; dsimp only at H
      have hc := g31_run (Ω := Ω) htr (d + 1) p τ k0 σ q14
      exact xp_ok htr 1 (d + 8) 3 18 [eT v12 (hM p s13 τ) 1 6] 69 51 [some (.ref 0), some (.int x1), some (.int x2), some (.int x3)] [.int k0] (hM p σ τ) ⟨hc, (Eq.symm H)⟩
theorem g69_50_ok {l : Launch} {Ω : xo_O} (htr : xH l) (d : Nat) (p : Nat) (τ : Nat → Nat → Int64) (x1 : Int32) (x2 : Int32) (x3 : Int32) (σ : xS) (r : xv_R) (H : xo (xB true p τ r) (g69_50 x1 x2 x3 σ)) : xv l Ω (d + 8) 3 18 69 50 [some (.ref 0), some (.int x1), some (.int x2), some (.int x3)] [] (hM p σ τ) r := by
  unfold g69_50 at H
  refine xp_ok htr 1 (d + 8) 3 18 [] 69 50 [some (.ref 0), some (.int x1), some (.int x2), some (.int x3)] [] (hM p σ τ) ?_
  show xv l Ω (d + 8) 3 18 69 51 [some (.ref 0), some (.int x1), some (.int x2), some (.int x3)] [.int 0] (hM p σ τ) r
  exact xv_sub (L' := [some (.ref 0), some (.int x1), some (.int x2), some (.int x3)]) ⟨rfl, ⟨rfl, ⟨rfl, ⟨rfl, trivial⟩⟩⟩⟩ (g69_51_ok htr d p τ x1 x2 x3 0 σ r H)
theorem g69_19_ok {l : Launch} {Ω : xo_O} (htr : xH l) (d : Nat) (p : Nat) (τ : Nat → Nat → Int64) (x1 : Int32) (x2 : Int32) (x3 : Int32) (k0 : Int32) (σ : xS) (r : xv_R) (H : xo (xB true p τ r) (g69_19 x1 x2 x3 k0 σ)) : xv l Ω (d + 8) 4 24 69 19 [some (.ref 0), some (.int x1), some (.int x2), some (.int x3)] [.int k0] (hM p σ τ) r := by
  unfold g69_19 at H
  cases q7 : g26 k0 σ with
  | none => rw [q7] at H; exact False.elim H
  | some q70 =>
    obtain ⟨v5 | v5, s6⟩ := q70
    · rw [q7] at H; dsimp only at H
      have hc := g26_run (Ω := Ω) htr (d + 1) p τ k0 σ q7
      refine xp_ok htr 1 (d + 8) 4 24 [eN none (hM p s6 τ) 1 6] 69 19 [some (.ref 0), some (.int x1), some (.int x2), some (.int x3)] [.int k0] (hM p σ τ) ⟨hc, ?_⟩
      show xv l Ω (d + 8) 3 18 69 22 [some (.ref 0), some (.int x1), some (.int x2), some (.int x3)] [] (hM p s6 τ) r
      cases q10 : g44 x1 s6 with
      | none => rw [q10] at H; exact False.elim H
      | some q100 =>
        obtain ⟨v8 | v8, s9⟩ := q100
        · rw [q10] at H; dsimp only at H
          have hc := g44_run (Ω := Ω) htr (d + 7) p τ x1 s6 q10
          refine xp_ok htr 4 (d + 8) 3 18 [eC (some (.int v8)) (hM p s9 τ)] 69 22 [some (.ref 0), some (.int x1), some (.int x2), some (.int x3)] [] (hM p s6 τ) ⟨hc, ?_⟩
          show xv l Ω (d + 8) 3 18 69 30 [some (.ref 0), some (.int x1), some (.int x2), some (.int x3)] [.int v8] (hM p s9 τ) r
          by_cases h11 : v8 = 0
          · rw [if_pos h11] at H
            refine xp_ok htr 1 (d + 8) 3 18 [eB true] 69 30 [some (.ref 0), some (.int x1), some (.int x2), some (.int x3)] [.int v8] (hM p s9 τ) ⟨h11, ?_⟩
            show xv l Ω (d + 8) 3 18 69 50 [some (.ref 0), some (.int x1), some (.int x2), some (.int x3)] [] (hM p s9 τ) r
            exact xv_sub (L' := [some (.ref 0), some (.int x1), some (.int x2), some (.int x3)]) ⟨rfl, ⟨rfl, ⟨rfl, ⟨rfl, trivial⟩⟩⟩⟩ (g69_50_ok htr d p τ x1 x2 x3 s9 r H)
          · rw [if_neg h11] at H
            refine xp_ok htr 1 (d + 8) 3 18 [eB false] 69 30 [some (.ref 0), some (.int x1), some (.int x2), some (.int x3)] [.int v8] (hM p s9 τ) ⟨h11, ?_⟩
            show xv l Ω (d + 8) 3 18 69 33 [some (.ref 0), some (.int x1), some (.int x2), some (.int x3)] [] (hM p s9 τ) r
            cases q24 : g70 x1 x2 s9 with
            | none => rw [q24] at H; exact False.elim H
            | some q240 =>
              obtain ⟨v22 | v22, s23⟩ := q240
              · rw [q24] at H; dsimp only at H
                have hc := g70_run (Ω := Ω) htr (d + 6) p τ x1 x2 s9 q24
                refine xp_ok htr 5 (d + 8) 3 18 [eC (some (.int v22)) (hM p s23 τ)] 69 33 [some (.ref 0), some (.int x1), some (.int x2), some (.int x3)] [] (hM p s9 τ) ⟨hc, ?_⟩
                show xv l Ω (d + 8) 3 18 69 42 [some (.ref 0), some (.int x1), some (.int x2), some (.int x3)] [.int v22] (hM p s23 τ) r
                by_cases h25 : v22 = x3
                · rw [if_pos h25] at H
                  refine xp_ok htr 2 (d + 8) 3 18 [eB true] 69 42 [some (.ref 0), some (.int x1), some (.int x2), some (.int x3)] [.int v22] (hM p s23 τ) ⟨h25, ?_⟩
                  show xv l Ω (d + 8) 3 18 69 50 [some (.ref 0), some (.int x1), some (.int x2), some (.int x3)] [] (hM p s23 τ) r
                  exact xv_sub (L' := [some (.ref 0), some (.int x1), some (.int x2), some (.int x3)]) ⟨rfl, ⟨rfl, ⟨rfl, ⟨rfl, trivial⟩⟩⟩⟩ (g69_50_ok htr d p τ x1 x2 x3 s23 r H)
                · rw [if_neg h25] at H
                  refine xp_ok htr 2 (d + 8) 3 18 [eB false] 69 42 [some (.ref 0), some (.int x1), some (.int x2), some (.int x3)] [.int v22] (hM p s23 τ) ⟨h25, ?_⟩
                  show xv l Ω (d + 8) 3 18 69 46 [some (.ref 0), some (.int x1), some (.int x2), some (.int x3)] [] (hM p s23 τ) r
                  refine xp_ok htr 2 (d + 8) 3 18 [] 69 46 [some (.ref 0), some (.int x1), some (.int x2), some (.int x3)] [] (hM p s23 τ) ?_
                  show xv l Ω (d + 8) 3 18 69 51 [some (.ref 0), some (.int x1), some (.int x2), some (.int x3)] [.int 1] (hM p s23 τ) r
                  exact xv_sub (L' := [some (.ref 0), some (.int x1), some (.int x2), some (.int x3)]) ⟨rfl, ⟨rfl, ⟨rfl, ⟨rfl, trivial⟩⟩⟩⟩ (g69_51_ok htr d p τ x1 x2 x3 1 s23 r H)
              · rw [q24] at H; exact False.elim H
        · rw [q10] at H; exact False.elim H
    · rw [q7] at H; dsimp only at H
      have hc := g26_run (Ω := Ω) htr (d + 1) p τ k0 σ q7
      exact xp_ok htr 1 (d + 8) 4 24 [eT v5 (hM p s6 τ) 1 6] 69 19 [some (.ref 0), some (.int x1), some (.int x2), some (.int x3)] [.int k0] (hM p σ τ) ⟨hc, (Eq.symm H)⟩
theorem g69_18_ok {l : Launch} {Ω : xo_O} (htr : xH l) (d : Nat) (p : Nat) (τ : Nat → Nat → Int64) (x1 : Int32) (x2 : Int32) (x3 : Int32) (σ : xS) (r : xv_R) (H : xo (xB true p τ r) (g69_18 x1 x2 x3 σ)) : xv l Ω (d + 8) 4 24 69 18 [some (.ref 0), some (.int x1), some (.int x2), some (.int x3)] [] (hM p σ τ) r := by
  unfold g69_18 at H
  refine xp_ok htr 1 (d + 8) 4 24 [] 69 18 [some (.ref 0), some (.int x1), some (.int x2), some (.int x3)] [] (hM p σ τ) ?_
  show xv l Ω (d + 8) 4 24 69 19 [some (.ref 0), some (.int x1), some (.int x2), some (.int x3)] [.int 0] (hM p σ τ) r
  exact xv_sub (L' := [some (.ref 0), some (.int x1), some (.int x2), some (.int x3)]) ⟨rfl, ⟨rfl, ⟨rfl, ⟨rfl, trivial⟩⟩⟩⟩ (g69_19_ok htr d p τ x1 x2 x3 0 σ r H)
theorem g69_run {l : Launch} {Ω : xo_O} (htr : xH l) (d : Nat) (p : Nat) (τ : Nat → Nat → Int64) (a1 : Int32) (a2 : Int32) (a3 : Int32) (σ : xS) {q : xQ} (hq : g69 a1 a2 a3 σ = some q) : xv l Ω (d + 8) 4 24 69 0 (xs_loc (xm_l 69) [.ref 0, .int a1, .int a2, .int a3]) [] (hM p σ τ) (xq_R true p τ q) := by
  have H : xo (xB true p τ (xq_R true p τ q)) (g69 a1 a2 a3 σ) := by rw [hq]; exact rfl
  generalize xq_R true p τ q = r at H ⊢
  show xv l Ω (d + 8) 4 24 69 0 [some (.ref 0), some (.int a1), some (.int a2), some (.int a3)] [] (hM p σ τ) r
  unfold g69 at H
  cases q3 : g63 a1 σ with
  | none => rw [q3] at H; exact False.elim H
  | some q30 =>
    obtain ⟨v1 | v1, s2⟩ := q30
    · rw [q3] at H; dsimp only at H
      have hc := g63_run (Ω := Ω) htr (d + 6) p τ a1 σ q3
      refine xp_ok htr 2 (d + 8) 4 24 [eC (some (.int v1)) (hM p s2 τ)] 69 0 [some (.ref 0), some (.int a1), some (.int a2), some (.int a3)] [] (hM p σ τ) ⟨hc, ?_⟩
      show xv l Ω (d + 8) 4 24 69 4 [some (.ref 0), some (.int a1), some (.int a2), some (.int a3)] [.int v1] (hM p s2 τ) r
      by_cases h4 : v1 = 0
      · rw [if_pos h4] at H
        refine xp_ok htr 1 (d + 8) 4 24 [eB true] 69 4 [some (.ref 0), some (.int a1), some (.int a2), some (.int a3)] [.int v1] (hM p s2 τ) ⟨h4, ?_⟩
        show xv l Ω (d + 8) 4 24 69 18 [some (.ref 0), some (.int a1), some (.int a2), some (.int a3)] [] (hM p s2 τ) r
        exact xv_sub (L' := [some (.ref 0), some (.int a1), some (.int a2), some (.int a3)]) ⟨rfl, ⟨rfl, ⟨rfl, ⟨rfl, trivial⟩⟩⟩⟩ (g69_18_ok htr d p τ a1 a2 a3 s2 r H)
      · rw [if_neg h4] at H
        refine xp_ok htr 1 (d + 8) 4 24 [eB false] 69 4 [some (.ref 0), some (.int a1), some (.int a2), some (.int a3)] [.int v1] (hM p s2 τ) ⟨h4, ?_⟩
        show xv l Ω (d + 8) 4 24 69 7 [some (.ref 0), some (.int a1), some (.int a2), some (.int a3)] [] (hM p s2 τ) r
        cases q28 : g24 a2 s2 with
        | none => rw [q28] at H; exact False.elim H
        | some q280 =>
          obtain ⟨v26 | v26, s27⟩ := q280
          · rw [q28] at H; dsimp only at H
            have hc := g24_run (Ω := Ω) htr (d + 6) p τ a2 s2 q28
            refine xp_ok htr 2 (d + 8) 4 24 [eC (some (.int v26)) (hM p s27 τ)] 69 7 [some (.ref 0), some (.int a1), some (.int a2), some (.int a3)] [] (hM p s2 τ) ⟨hc, ?_⟩
            show xv l Ω (d + 8) 4 24 69 11 [some (.ref 0), some (.int a1), some (.int a2), some (.int a3)] [.int v26] (hM p s27 τ) r
            by_cases h29 : v26 = 0
            · rw [if_pos h29] at H
              refine xp_ok htr 1 (d + 8) 4 24 [eB true] 69 11 [some (.ref 0), some (.int a1), some (.int a2), some (.int a3)] [.int v26] (hM p s27 τ) ⟨h29, ?_⟩
              show xv l Ω (d + 8) 4 24 69 18 [some (.ref 0), some (.int a1), some (.int a2), some (.int a3)] [] (hM p s27 τ) r
              exact xv_sub (L' := [some (.ref 0), some (.int a1), some (.int a2), some (.int a3)]) ⟨rfl, ⟨rfl, ⟨rfl, ⟨rfl, trivial⟩⟩⟩⟩ (g69_18_ok htr d p τ a1 a2 a3 s27 r H)
            · rw [if_neg h29] at H
              refine xp_ok htr 1 (d + 8) 4 24 [eB false] 69 11 [some (.ref 0), some (.int a1), some (.int a2), some (.int a3)] [.int v26] (hM p s27 τ) ⟨h29, ?_⟩
              show xv l Ω (d + 8) 4 24 69 14 [some (.ref 0), some (.int a1), some (.int a2), some (.int a3)] [] (hM p s27 τ) r
              refine xp_ok htr 2 (d + 8) 4 24 [] 69 14 [some (.ref 0), some (.int a1), some (.int a2), some (.int a3)] [] (hM p s27 τ) ?_
              show xv l Ω (d + 8) 4 24 69 19 [some (.ref 0), some (.int a1), some (.int a2), some (.int a3)] [.int 1] (hM p s27 τ) r
              exact xv_sub (L' := [some (.ref 0), some (.int a1), some (.int a2), some (.int a3)]) ⟨rfl, ⟨rfl, ⟨rfl, ⟨rfl, trivial⟩⟩⟩⟩ (g69_19_ok htr d p τ a1 a2 a3 1 s27 r H)
          · rw [q28] at H; exact False.elim H
    · rw [q3] at H; exact False.elim H
/- AccessDesk.holds -/
def g75 (a1 : Int32) (σ : xS) : xO := (match g63 a1 σ with | some (Sum.inl v1, s2) => (match g26 v1 s2 with | some (Sum.inl v4, s5) => (match g44 a1 s5 with | some (Sum.inl v7, s8) => (if v7 = 0 then some ((Sum.inl (-1), s8)) else (match g36 a1 s8 with | some (Sum.inl v11, s12) => some ((Sum.inl v11, s12)) | some (Sum.inr v11, s12) => none | none => none)) | some (Sum.inr v7, s8) => none | none => none) | some (Sum.inr v4, s5) => some ((Sum.inr v4, s5)) | none => none) | some (Sum.inr v1, s2) => none | none => none)
theorem g75_run {l : Launch} {Ω : xo_O} (htr : xH l) (d : Nat) (p : Nat) (τ : Nat → Nat → Int64) (a1 : Int32) (σ : xS) {q : xQ} (hq : g75 a1 σ = some q) : xv l Ω (d + 7) 1 6 75 0 (xs_loc (xm_l 75) [.ref 0, .int a1]) [] (hM p σ τ) (xq_R false p τ q) := by
  have H : xo (xB false p τ (xq_R false p τ q)) (g75 a1 σ) := by rw [hq]; exact rfl
  generalize xq_R false p τ q = r at H ⊢
  show xv l Ω (d + 7) 1 6 75 0 [some (.ref 0), some (.int a1)] [] (hM p σ τ) r
  unfold g75 at H
  cases q3 : g63 a1 σ with
  | none => rw [q3] at H; exact False.elim H
  | some q30 =>
    obtain ⟨v1 | v1, s2⟩ := q30
    · rw [q3] at H; dsimp only at H
      have hc := g63_run (Ω := Ω) htr (d + 5) p τ a1 σ q3
      refine xp_ok htr 2 (d + 7) 1 6 [eC (some (.int v1)) (hM p s2 τ)] 75 0 [some (.ref 0), some (.int a1)] [] (hM p σ τ) ⟨hc, ?_⟩
      show xv l Ω (d + 7) 1 6 75 4 [some (.ref 0), some (.int a1)] [.int v1] (hM p s2 τ) r
      cases q6 : g26 v1 s2 with
      | none => rw [q6] at H; exact False.elim H
      | some q60 =>
        obtain ⟨v4 | v4, s5⟩ := q60
        · rw [q6] at H; dsimp only at H
          have hc := g26_run (Ω := Ω) htr d p τ v1 s2 q6
          refine xp_ok htr 1 (d + 7) 1 6 [eN none (hM p s5 τ) 1 6] 75 4 [some (.ref 0), some (.int a1)] [.int v1] (hM p s2 τ) ⟨hc, ?_⟩
          show xv l Ω (d + 7) 0 0 75 7 [some (.ref 0), some (.int a1)] [] (hM p s5 τ) r
          cases q9 : g44 a1 s5 with
          | none => rw [q9] at H; exact False.elim H
          | some q90 =>
            obtain ⟨v7 | v7, s8⟩ := q90
            · rw [q9] at H; dsimp only at H
              have hc := g44_run (Ω := Ω) htr (d + 6) p τ a1 s5 q9
              refine xp_ok htr 4 (d + 7) 0 0 [eC (some (.int v7)) (hM p s8 τ)] 75 7 [some (.ref 0), some (.int a1)] [] (hM p s5 τ) ⟨hc, ?_⟩
              show xv l Ω (d + 7) 0 0 75 15 [some (.ref 0), some (.int a1)] [.int v7] (hM p s8 τ) r
              by_cases h10 : v7 = 0
              · rw [if_pos h10] at H
                refine xp_ok htr 1 (d + 7) 0 0 [eB true] 75 15 [some (.ref 0), some (.int a1)] [.int v7] (hM p s8 τ) ⟨h10, ?_⟩
                show xv l Ω (d + 7) 0 0 75 26 [some (.ref 0), some (.int a1)] [] (hM p s8 τ) r
                exact xp_ok htr 2 (d + 7) 0 0 [] 75 26 [some (.ref 0), some (.int a1)] [] (hM p s8 τ) ⟨trivial, (Eq.symm H)⟩
              · rw [if_neg h10] at H
                refine xp_ok htr 1 (d + 7) 0 0 [eB false] 75 15 [some (.ref 0), some (.int a1)] [.int v7] (hM p s8 τ) ⟨h10, ?_⟩
                show xv l Ω (d + 7) 0 0 75 18 [some (.ref 0), some (.int a1)] [] (hM p s8 τ) r
                cases q13 : g36 a1 s8 with
                | none => rw [q13] at H; exact False.elim H
                | some q130 =>
                  obtain ⟨v11 | v11, s12⟩ := q130
                  · rw [q13] at H; dsimp only at H
                    have hc := g36_run (Ω := Ω) htr (d + 4) p τ a1 s8 q13
                    refine xp_ok htr 3 (d + 7) 0 0 [eC (some (.int v11)) (hM p s12 τ)] 75 18 [some (.ref 0), some (.int a1)] [] (hM p s8 τ) ⟨hc, ?_⟩
                    show xv l Ω (d + 7) 0 0 75 23 [some (.ref 0), some (.int a1)] [.int v11] (hM p s12 τ) r
                    exact xp_ok htr 2 (d + 7) 0 0 [] 75 23 [some (.ref 0), some (.int a1)] [.int v11] (hM p s12 τ) ⟨trivial, (Eq.symm H)⟩
                  · rw [q13] at H; exact False.elim H
            · rw [q9] at H; exact False.elim H
        · rw [q6] at H; dsimp only at H
          have hc := g26_run (Ω := Ω) htr d p τ v1 s2 q6
          exact xp_ok htr 1 (d + 7) 1 6 [eT v4 (hM p s5 τ) 1 6] 75 4 [some (.ref 0), some (.int a1)] [.int v1] (hM p s2 τ) ⟨hc, (Eq.symm H)⟩
    · rw [q3] at H; exact False.elim H
/- AccessDesk.authorized -/
def g77 (a1 : Int32) (σ : xS) : xO := (match g47 a1 σ with | some (Sum.inl v1, s2) => (match g26 v1 s2 with | some (Sum.inl v4, s5) => (match g39 a1 s5 with | some (Sum.inl v7, s8) => some ((Sum.inl v7, s8)) | some (Sum.inr v7, s8) => none | none => none) | some (Sum.inr v4, s5) => some ((Sum.inr v4, s5)) | none => none) | some (Sum.inr v1, s2) => none | none => none)
theorem g77_run {l : Launch} {Ω : xo_O} (htr : xH l) (d : Nat) (p : Nat) (τ : Nat → Nat → Int64) (a1 : Int32) (σ : xS) {q : xQ} (hq : g77 a1 σ = some q) : xv l Ω (d + 7) 1 6 77 0 (xs_loc (xm_l 77) [.ref 0, .int a1]) [] (hM p σ τ) (xq_R false p τ q) := by
  have H : xo (xB false p τ (xq_R false p τ q)) (g77 a1 σ) := by rw [hq]; exact rfl
  generalize xq_R false p τ q = r at H ⊢
  show xv l Ω (d + 7) 1 6 77 0 [some (.ref 0), some (.int a1)] [] (hM p σ τ) r
  unfold g77 at H
  cases q3 : g47 a1 σ with
  | none => rw [q3] at H; exact False.elim H
  | some q30 =>
    obtain ⟨v1 | v1, s2⟩ := q30
    · rw [q3] at H; dsimp only at H
      have hc := g47_run (Ω := Ω) htr (d + 5) p τ a1 σ q3
      refine xp_ok htr 2 (d + 7) 1 6 [eC (some (.int v1)) (hM p s2 τ)] 77 0 [some (.ref 0), some (.int a1)] [] (hM p σ τ) ⟨hc, ?_⟩
      show xv l Ω (d + 7) 1 6 77 4 [some (.ref 0), some (.int a1)] [.int v1] (hM p s2 τ) r
      cases q6 : g26 v1 s2 with
      | none => rw [q6] at H; exact False.elim H
      | some q60 =>
        obtain ⟨v4 | v4, s5⟩ := q60
        · rw [q6] at H; dsimp only at H
          have hc := g26_run (Ω := Ω) htr d p τ v1 s2 q6
          refine xp_ok htr 1 (d + 7) 1 6 [eN none (hM p s5 τ) 1 6] 77 4 [some (.ref 0), some (.int a1)] [.int v1] (hM p s2 τ) ⟨hc, ?_⟩
          show xv l Ω (d + 7) 0 0 77 7 [some (.ref 0), some (.int a1)] [] (hM p s5 τ) r
          cases q9 : g39 a1 s5 with
          | none => rw [q9] at H; exact False.elim H
          | some q90 =>
            obtain ⟨v7 | v7, s8⟩ := q90
            · rw [q9] at H; dsimp only at H
              have hc := g39_run (Ω := Ω) htr (d + 4) p τ a1 s5 q9
              refine xp_ok htr 3 (d + 7) 0 0 [eC (some (.int v7)) (hM p s8 τ)] 77 7 [some (.ref 0), some (.int a1)] [] (hM p s5 τ) ⟨hc, ?_⟩
              show xv l Ω (d + 7) 0 0 77 12 [some (.ref 0), some (.int a1)] [.int v7] (hM p s8 τ) r
              exact xp_ok htr 1 (d + 7) 0 0 [] 77 12 [some (.ref 0), some (.int a1)] [.int v7] (hM p s8 τ) ⟨trivial, (Eq.symm H)⟩
            · rw [q9] at H; exact False.elim H
        · rw [q6] at H; dsimp only at H
          have hc := g26_run (Ω := Ω) htr d p τ v1 s2 q6
          exact xp_ok htr 1 (d + 7) 1 6 [eT v4 (hM p s5 τ) 1 6] 77 4 [some (.ref 0), some (.int a1)] [.int v1] (hM p s2 τ) ⟨hc, (Eq.symm H)⟩
    · rw [q3] at H; exact False.elim H
/- AccessDesk.isObject -/
def g80 (a0 : Int32) (σ : xS) : xO := (match g25 a0 16 σ with | some (Sum.inl v1, s2) => (bif decide (v1 = 0 ∨ v1 = 1) then some ((Sum.inl v1, s2)) else none) | some (Sum.inr v1, s2) => none | none => none)
theorem g80_run {l : Launch} {Ω : xo_O} (htr : xH l) (d : Nat) (p : Nat) (τ : Nat → Nat → Int64) (a0 : Int32) (σ : xS) {q : xQ} (hq : g80 a0 σ = some q) : xv l Ω (d + 1) 0 0 80 0 (xs_loc (xm_l 80) [.int a0]) [] (hM p σ τ) (xq_R false p τ q) := by
  have H : xo (xB false p τ (xq_R false p τ q)) (g80 a0 σ) := by rw [hq]; exact rfl
  generalize xq_R false p τ q = r at H ⊢
  show xv l Ω (d + 1) 0 0 80 0 [some (.int a0)] [] (hM p σ τ) r
  unfold g80 at H
  cases q3 : g25 a0 16 σ with
  | none => rw [q3] at H; exact False.elim H
  | some q30 =>
    obtain ⟨v1 | v1, s2⟩ := q30
    · rw [q3] at H; dsimp only at H
      have hc := g25_run (Ω := Ω) htr d p τ a0 16 σ q3
      refine xp_ok htr 3 (d + 1) 0 0 [eC (some (.int v1)) (hM p s2 τ)] 80 0 [some (.int a0)] [] (hM p σ τ) ⟨hc, ?_⟩
      show xv l Ω (d + 1) 0 0 80 6 [some (.int a0)] [.int v1] (hM p s2 τ) r
      cases g4 : decide (v1 = 0 ∨ v1 = 1) with
      | false => rw [g4, cond_false] at H; exact False.elim H
      | true =>
        rw [g4, cond_true] at H
        exact xp_ok htr 1 (d + 1) 0 0 [] 80 6 [some (.int a0)] [.int v1] (hM p s2 τ) ⟨(xb01 g4), (Eq.symm H)⟩
    · rw [q3] at H; exact False.elim H
/- AccessDesk$Things.describe -/
def g81 (a1 : Int32) (a2 : Int32) (a3 : Int32) (a4 : Int32) (σ : xS) : xO := (bif xn a1 16 then some ((Sum.inl 0, (xh_ui (xh_ui (xh_ui σ 16 (Int32.toNatClampNeg a1) a2) 17 (Int32.toNatClampNeg a1) a3) 18 (Int32.toNatClampNeg a1) (vp_nar .boolean a4)))) else none)
theorem g81_run {l : Launch} {Ω : xo_O} (htr : xH l) (d : Nat) (p : Nat) (τ : Nat → Nat → Int64) (a1 : Int32) (a2 : Int32) (a3 : Int32) (a4 : Int32) (σ : xS) {q : xQ} (hq : g81 a1 a2 a3 a4 σ = some q) : xv l Ω d 0 0 81 0 (xs_loc (xm_l 81) [.ref 15, .int a1, .int a2, .int a3, .int a4]) [] (hM p σ τ) (xq_R true p τ q) := by
  have H : xo (xB true p τ (xq_R true p τ q)) (g81 a1 a2 a3 a4 σ) := by rw [hq]; exact rfl
  generalize xq_R true p τ q = r at H ⊢
  show xv l Ω d 0 0 81 0 [some (.ref 15), some (.int a1), some (.int a2), some (.int a3), some (.int a4)] [] (hM p σ τ) r
  unfold g81 at H
  cases g1 : xn a1 16 with
  | false => rw [g1, cond_false] at H; exact False.elim H
  | true =>
    rw [g1, cond_true] at H
    refine xp_ok htr 8 d 0 0 [] 81 0 [some (.ref 15), some (.int a1), some (.int a2), some (.int a3), some (.int a4)] [] (hM p σ τ) ⟨(xn_in g1), ?_⟩
    show xv l Ω d 0 0 81 12 [some (.ref 15), some (.int a1), some (.int a2), some (.int a3), some (.int a4)] [.int a1, .ref 17] (hM p (xh_ui σ 16 (Int32.toNatClampNeg a1) a2) τ) r
    exact xp_ok htr 8 d 0 0 [] 81 12 [some (.ref 15), some (.int a1), some (.int a2), some (.int a3), some (.int a4)] [.int a1, .ref 17] (hM p (xh_ui σ 16 (Int32.toNatClampNeg a1) a2) τ) ⟨(xn_in g1), (xn_in g1), trivial, (Eq.symm H)⟩
/- AccessDesk.object -/
def g79_41 (k1 : Int32) (k2 : Int32) (k3 : Int32) (k4 : Int32) (σ : xS) : Option xQ := (match g81 k1 k2 k3 k4 σ with | some (Sum.inl v9, s10) => some ((Sum.inl 0, s10)) | some (Sum.inr v9, s10) => none | none => none)
def g79_21 (x1 : Int32) (x2 : Int32) (x3 : Int32) (x4 : Int32) (k0 : Int32) (σ : xS) : Option xQ := (match g26 k0 σ with | some (Sum.inl v5, s6) => (if x4 = 0 then g79_41 x1 x2 x3 1 s6 else g79_41 x1 x2 x3 0 s6) | some (Sum.inr v5, s6) => some ((Sum.inr v5, s6)) | none => none)
def g79_20 (x1 : Int32) (x2 : Int32) (x3 : Int32) (x4 : Int32) (σ : xS) : Option xQ := g79_21 x1 x2 x3 x4 0 σ
def g79 (a1 : Int32) (a2 : Int32) (a3 : Int32) (a4 : Int32) (σ : xS) : xO := (match g80 a1 σ with | some (Sum.inl v1, s2) => (if v1 = 0 then g79_20 a1 a2 a3 a4 s2 else (match g25 a2 10 s2 with | some (Sum.inl v12, s13) => (if v12 = 0 then g79_20 a1 a2 a3 a4 s13 else g79_21 a1 a2 a3 a4 1 s13) | some (Sum.inr v12, s13) => none | none => none)) | some (Sum.inr v1, s2) => none | none => none)
theorem g79_41_ok {l : Launch} {Ω : xo_O} (htr : xH l) (d : Nat) (p : Nat) (τ : Nat → Nat → Int64) (k1 : Int32) (k2 : Int32) (k3 : Int32) (k4 : Int32) (σ : xS) (r : xv_R) (H : xo (xB true p τ r) (g79_41 k1 k2 k3 k4 σ)) : xv l Ω (d + 7) 0 0 79 41 [none, none, none, none, none] [.int k4, .int k3, .int k2, .int k1, .ref 15] (hM p σ τ) r := by
  unfold g79_41 at H
  cases q11 : g81 k1 k2 k3 k4 σ with
  | none => rw [q11] at H; exact False.elim H
  | some q110 =>
    obtain ⟨v9 | v9, s10⟩ := q110
    · rw [q11] at H; dsimp only at H
      have hc := g81_run (Ω := Ω) htr (d + 6) p τ k1 k2 k3 k4 σ q11
      refine xp_ok htr 1 (d + 7) 0 0 [eC none (hM p s10 τ)] 79 41 [none, none, none, none, none] [.int k4, .int k3, .int k2, .int k1, .ref 15] (hM p σ τ) ⟨hc, ?_⟩
      show xv l Ω (d + 7) 0 0 79 44 [none, none, none, none, none] [] (hM p s10 τ) r
      exact xp_ok htr 1 (d + 7) 0 0 [] 79 44 [none, none, none, none, none] [] (hM p s10 τ) ⟨trivial, (Eq.symm H)⟩
    · rw [q11] at H; exact False.elim H
theorem g79_21_ok {l : Launch} {Ω : xo_O} (htr : xH l) (d : Nat) (p : Nat) (τ : Nat → Nat → Int64) (x1 : Int32) (x2 : Int32) (x3 : Int32) (x4 : Int32) (k0 : Int32) (σ : xS) (r : xv_R) (H : xo (xB true p τ r) (g79_21 x1 x2 x3 x4 k0 σ)) : xv l Ω (d + 7) 1 6 79 21 [some (.ref 0), some (.int x1), some (.int x2), some (.int x3), some (.int x4)] [.int k0] (hM p σ τ) r := by
  unfold g79_21 at H
  cases q7 : g26 k0 σ with
  | none => rw [q7] at H; exact False.elim H
  | some q70 =>
    obtain ⟨v5 | v5, s6⟩ := q70
    · rw [q7] at H; dsimp only at H
      have hc := g26_run (Ω := Ω) htr d p τ k0 σ q7
      refine xp_ok htr 1 (d + 7) 1 6 [eN none (hM p s6 τ) 1 6] 79 21 [some (.ref 0), some (.int x1), some (.int x2), some (.int x3), some (.int x4)] [.int k0] (hM p σ τ) ⟨hc, ?_⟩
      show xv l Ω (d + 7) 0 0 79 24 [some (.ref 0), some (.int x1), some (.int x2), some (.int x3), some (.int x4)] [] (hM p s6 τ) r
      by_cases h8 : x4 = 0
      · rw [if_pos h8] at H
        refine xp_ok htr 7 (d + 7) 0 0 [eB false] 79 24 [some (.ref 0), some (.int x1), some (.int x2), some (.int x3), some (.int x4)] [] (hM p s6 τ) ⟨h8, ?_⟩
        show xv l Ω (d + 7) 0 0 79 36 [some (.ref 0), some (.int x1), some (.int x2), some (.int x3), some (.int x4)] [.int x3, .int x2, .int x1, .ref 15] (hM p s6 τ) r
        refine xp_ok htr 2 (d + 7) 0 0 [] 79 36 [some (.ref 0), some (.int x1), some (.int x2), some (.int x3), some (.int x4)] [.int x3, .int x2, .int x1, .ref 15] (hM p s6 τ) ?_
        show xv l Ω (d + 7) 0 0 79 41 [some (.ref 0), some (.int x1), some (.int x2), some (.int x3), some (.int x4)] [.int 1, .int x3, .int x2, .int x1, .ref 15] (hM p s6 τ) r
        exact xv_sub (L' := [none, none, none, none, none]) trivial (g79_41_ok htr d p τ x1 x2 x3 1 s6 r H)
      · rw [if_neg h8] at H
        refine xp_ok htr 7 (d + 7) 0 0 [eB true] 79 24 [some (.ref 0), some (.int x1), some (.int x2), some (.int x3), some (.int x4)] [] (hM p s6 τ) ⟨h8, ?_⟩
        show xv l Ω (d + 7) 0 0 79 40 [some (.ref 0), some (.int x1), some (.int x2), some (.int x3), some (.int x4)] [.int x3, .int x2, .int x1, .ref 15] (hM p s6 τ) r
        refine xp_ok htr 1 (d + 7) 0 0 [] 79 40 [some (.ref 0), some (.int x1), some (.int x2), some (.int x3), some (.int x4)] [.int x3, .int x2, .int x1, .ref 15] (hM p s6 τ) ?_
        show xv l Ω (d + 7) 0 0 79 41 [some (.ref 0), some (.int x1), some (.int x2), some (.int x3), some (.int x4)] [.int 0, .int x3, .int x2, .int x1, .ref 15] (hM p s6 τ) r
        exact xv_sub (L' := [none, none, none, none, none]) trivial (g79_41_ok htr d p τ x1 x2 x3 0 s6 r H)
    · rw [q7] at H; dsimp only at H
      have hc := g26_run (Ω := Ω) htr d p τ k0 σ q7
      exact xp_ok htr 1 (d + 7) 1 6 [eT v5 (hM p s6 τ) 1 6] 79 21 [some (.ref 0), some (.int x1), some (.int x2), some (.int x3), some (.int x4)] [.int k0] (hM p σ τ) ⟨hc, (Eq.symm H)⟩
theorem g79_20_ok {l : Launch} {Ω : xo_O} (htr : xH l) (d : Nat) (p : Nat) (τ : Nat → Nat → Int64) (x1 : Int32) (x2 : Int32) (x3 : Int32) (x4 : Int32) (σ : xS) (r : xv_R) (H : xo (xB true p τ r) (g79_20 x1 x2 x3 x4 σ)) : xv l Ω (d + 7) 1 6 79 20 [some (.ref 0), some (.int x1), some (.int x2), some (.int x3), some (.int x4)] [] (hM p σ τ) r := by
  unfold g79_20 at H
  refine xp_ok htr 1 (d + 7) 1 6 [] 79 20 [some (.ref 0), some (.int x1), some (.int x2), some (.int x3), some (.int x4)] [] (hM p σ τ) ?_
  show xv l Ω (d + 7) 1 6 79 21 [some (.ref 0), some (.int x1), some (.int x2), some (.int x3), some (.int x4)] [.int 0] (hM p σ τ) r
  exact xv_sub (L' := [some (.ref 0), some (.int x1), some (.int x2), some (.int x3), some (.int x4)]) ⟨rfl, ⟨rfl, ⟨rfl, ⟨rfl, ⟨rfl, trivial⟩⟩⟩⟩⟩ (g79_21_ok htr d p τ x1 x2 x3 x4 0 σ r H)
theorem g79_run {l : Launch} {Ω : xo_O} (htr : xH l) (d : Nat) (p : Nat) (τ : Nat → Nat → Int64) (a1 : Int32) (a2 : Int32) (a3 : Int32) (a4 : Int32) (σ : xS) {q : xQ} (hq : g79 a1 a2 a3 a4 σ = some q) : xv l Ω (d + 7) 1 6 79 0 (xs_loc (xm_l 79) [.ref 0, .int a1, .int a2, .int a3, .int a4]) [] (hM p σ τ) (xq_R true p τ q) := by
  have H : xo (xB true p τ (xq_R true p τ q)) (g79 a1 a2 a3 a4 σ) := by rw [hq]; exact rfl
  generalize xq_R true p τ q = r at H ⊢
  show xv l Ω (d + 7) 1 6 79 0 [some (.ref 0), some (.int a1), some (.int a2), some (.int a3), some (.int a4)] [] (hM p σ τ) r
  unfold g79 at H
  cases q3 : g80 a1 σ with
  | none => rw [q3] at H; exact False.elim H
  | some q30 =>
    obtain ⟨v1 | v1, s2⟩ := q30
    · rw [q3] at H; dsimp only at H
      have hc := g80_run (Ω := Ω) htr (d + 5) p τ a1 σ q3
      refine xp_ok htr 2 (d + 7) 1 6 [eC (some (.int v1)) (hM p s2 τ)] 79 0 [some (.ref 0), some (.int a1), some (.int a2), some (.int a3), some (.int a4)] [] (hM p σ τ) ⟨hc, ?_⟩
      show xv l Ω (d + 7) 1 6 79 4 [some (.ref 0), some (.int a1), some (.int a2), some (.int a3), some (.int a4)] [.int v1] (hM p s2 τ) r
      by_cases h4 : v1 = 0
      · rw [if_pos h4] at H
        refine xp_ok htr 1 (d + 7) 1 6 [eB true] 79 4 [some (.ref 0), some (.int a1), some (.int a2), some (.int a3), some (.int a4)] [.int v1] (hM p s2 τ) ⟨h4, ?_⟩
        show xv l Ω (d + 7) 1 6 79 20 [some (.ref 0), some (.int a1), some (.int a2), some (.int a3), some (.int a4)] [] (hM p s2 τ) r
        exact xv_sub (L' := [some (.ref 0), some (.int a1), some (.int a2), some (.int a3), some (.int a4)]) ⟨rfl, ⟨rfl, ⟨rfl, ⟨rfl, ⟨rfl, trivial⟩⟩⟩⟩⟩ (g79_20_ok htr d p τ a1 a2 a3 a4 s2 r H)
      · rw [if_neg h4] at H
        refine xp_ok htr 1 (d + 7) 1 6 [eB false] 79 4 [some (.ref 0), some (.int a1), some (.int a2), some (.int a3), some (.int a4)] [.int v1] (hM p s2 τ) ⟨h4, ?_⟩
        show xv l Ω (d + 7) 1 6 79 7 [some (.ref 0), some (.int a1), some (.int a2), some (.int a3), some (.int a4)] [] (hM p s2 τ) r
        cases q14 : g25 a2 10 s2 with
        | none => rw [q14] at H; exact False.elim H
        | some q140 =>
          obtain ⟨v12 | v12, s13⟩ := q140
          · rw [q14] at H; dsimp only at H
            have hc := g25_run (Ω := Ω) htr (d + 6) p τ a2 10 s2 q14
            refine xp_ok htr 3 (d + 7) 1 6 [eC (some (.int v12)) (hM p s13 τ)] 79 7 [some (.ref 0), some (.int a1), some (.int a2), some (.int a3), some (.int a4)] [] (hM p s2 τ) ⟨hc, ?_⟩
            show xv l Ω (d + 7) 1 6 79 13 [some (.ref 0), some (.int a1), some (.int a2), some (.int a3), some (.int a4)] [.int v12] (hM p s13 τ) r
            by_cases h15 : v12 = 0
            · rw [if_pos h15] at H
              refine xp_ok htr 1 (d + 7) 1 6 [eB true] 79 13 [some (.ref 0), some (.int a1), some (.int a2), some (.int a3), some (.int a4)] [.int v12] (hM p s13 τ) ⟨h15, ?_⟩
              show xv l Ω (d + 7) 1 6 79 20 [some (.ref 0), some (.int a1), some (.int a2), some (.int a3), some (.int a4)] [] (hM p s13 τ) r
              exact xv_sub (L' := [some (.ref 0), some (.int a1), some (.int a2), some (.int a3), some (.int a4)]) ⟨rfl, ⟨rfl, ⟨rfl, ⟨rfl, ⟨rfl, trivial⟩⟩⟩⟩⟩ (g79_20_ok htr d p τ a1 a2 a3 a4 s13 r H)
            · rw [if_neg h15] at H
              refine xp_ok htr 1 (d + 7) 1 6 [eB false] 79 13 [some (.ref 0), some (.int a1), some (.int a2), some (.int a3), some (.int a4)] [.int v12] (hM p s13 τ) ⟨h15, ?_⟩
              show xv l Ω (d + 7) 1 6 79 16 [some (.ref 0), some (.int a1), some (.int a2), some (.int a3), some (.int a4)] [] (hM p s13 τ) r
              refine xp_ok htr 2 (d + 7) 1 6 [] 79 16 [some (.ref 0), some (.int a1), some (.int a2), some (.int a3), some (.int a4)] [] (hM p s13 τ) ?_
              show xv l Ω (d + 7) 1 6 79 21 [some (.ref 0), some (.int a1), some (.int a2), some (.int a3), some (.int a4)] [.int 1] (hM p s13 τ) r
              exact xv_sub (L' := [some (.ref 0), some (.int a1), some (.int a2), some (.int a3), some (.int a4)]) ⟨rfl, ⟨rfl, ⟨rfl, ⟨rfl, ⟨rfl, trivial⟩⟩⟩⟩⟩ (g79_21_ok htr d p τ a1 a2 a3 a4 1 s13 r H)
          · rw [q14] at H; exact False.elim H
    · rw [q3] at H; exact False.elim H
/- AccessDesk$Tape.hasRoomFor -/
def g84 (a1 : Int32) (σ : xS) : xO := (if 300 < ((σ 21 1) + a1) then some ((Sum.inl 0, σ)) else some ((Sum.inl 1, σ)))
theorem g84_run {l : Launch} {Ω : xo_O} (htr : xH l) (d : Nat) (p : Nat) (τ : Nat → Nat → Int64) (a1 : Int32) (σ : xS) {q : xQ} (hq : g84 a1 σ = some q) : xv l Ω d 0 0 84 0 (xs_loc (xm_l 84) [.ref 21, .int a1]) [] (hM p σ τ) (xq_R false p τ q) := by
  have H : xo (xB false p τ (xq_R false p τ q)) (g84 a1 σ) := by rw [hq]; exact rfl
  generalize xq_R false p τ q = r at H ⊢
  show xv l Ω d 0 0 84 0 [some (.ref 21), some (.int a1)] [] (hM p σ τ) r
  unfold g84 at H
  by_cases h1 : 300 < ((σ 21 1) + a1)
  · rw [if_pos h1] at H
    refine xp_ok htr 6 d 0 0 [eB true] 84 0 [some (.ref 21), some (.int a1)] [] (hM p σ τ) ⟨h1, ?_⟩
    show xv l Ω d 0 0 84 16 [some (.ref 21), some (.int a1)] [] (hM p σ τ) r
    exact xp_ok htr 2 d 0 0 [] 84 16 [some (.ref 21), some (.int a1)] [] (hM p σ τ) ⟨Or.inl rfl, (Eq.symm H)⟩
  · rw [if_neg h1] at H
    refine xp_ok htr 6 d 0 0 [eB false] 84 0 [some (.ref 21), some (.int a1)] [] (hM p σ τ) ⟨h1, ?_⟩
    show xv l Ω d 0 0 84 12 [some (.ref 21), some (.int a1)] [] (hM p σ τ) r
    exact xp_ok htr 3 d 0 0 [] 84 12 [some (.ref 21), some (.int a1)] [] (hM p σ τ) ⟨Or.inr rfl, (Eq.symm H)⟩
/- AccessDesk$Tape.append -/
def g85_5b (x1 : Int64) (x4 : Int32) (σ : xS) : Option ((Int64 × Int32 × xS) ⊕ xQ) := (if x4 < 0 then some (Sum.inr ((Sum.inl (σ 21 1), σ))) else (bif xn (σ 21 1) 300 then some (Sum.inl (x1, (x4 + (-1)), (xh_ui (xh_ui σ 22 (Int32.toNatClampNeg (σ 21 1)) (Int64.toInt32 ((Int64.toUInt64 x1 >>> (Int64.toUInt64 (Int32.toInt64 (8 * x4)) &&& Int64.toUInt64 63)).toInt64 &&& 255))) 21 1 (((xh_ui σ 22 (Int32.toNatClampNeg (σ 21 1)) (Int64.toInt32 ((Int64.toUInt64 x1 >>> (Int64.toUInt64 (Int32.toInt64 (8 * x4)) &&& Int64.toUInt64 63)).toInt64 &&& 255))) 21 1) + 1)))) else none))
def g85_5 (x1 : Int64) (x4 : Int32) (σ : xS) : Option xQ := xlo (fun a : Int64 × Int32 × xS => g85_5b a.1 a.2.1 a.2.2) 1000 (x1, x4, σ)
def g85 (a1 : Int64) (a3 : Int32) (σ : xS) : xO := g85_5 a1 (a3 - 1) σ
def a85_5 (l : Launch) (Ω : xo_O) (d p : Nat) (τ : Nat → Nat → Int64) (r : xv_R) : Int64 × Int32 × xS → Prop := fun a => xv l Ω d 0 0 85 5 [some (.ref 21), some (.long a.1), none, none, some (.int a.2.1)] [] (hM p a.2.2 τ) r
theorem g85_5b_ok {l : Launch} {Ω : xo_O} (htr : xH l) (d : Nat) (p : Nat) (τ : Nat → Nat → Int64) (x1 : Int64) (x4 : Int32) (σ : xS) (r : xv_R) (H : xo (xd (a85_5 l Ω d p τ r) (xB false p τ r)) (g85_5b x1 x4 σ)) : xv l Ω d 0 0 85 5 [some (.ref 21), some (.long x1), none, none, some (.int x4)] [] (hM p σ τ) r := by
  unfold g85_5b at H
  by_cases h1 : x4 < 0
  · rw [if_pos h1] at H
    refine xp_ok htr 2 d 0 0 [eB true] 85 5 [some (.ref 21), some (.long x1), none, none, some (.int x4)] [] (hM p σ τ) ⟨h1, ?_⟩
    show xv l Ω d 0 0 85 47 [some (.ref 21), some (.long x1), none, none, some (.int x4)] [] (hM p σ τ) r
    exact xp_ok htr 3 d 0 0 [] 85 47 [some (.ref 21), some (.long x1), none, none, some (.int x4)] [] (hM p σ τ) ⟨trivial, (Eq.symm H)⟩
  · rw [if_neg h1] at H
    refine xp_ok htr 2 d 0 0 [eB false] 85 5 [some (.ref 21), some (.long x1), none, none, some (.int x4)] [] (hM p σ τ) ⟨h1, ?_⟩
    show xv l Ω d 0 0 85 10 [some (.ref 21), some (.long x1), none, none, some (.int x4)] [] (hM p σ τ) r
    refine xp_ok htr 8 d 0 0 [] 85 10 [some (.ref 21), some (.long x1), none, none, some (.int x4)] [] (hM p σ τ) ?_
    show xv l Ω d 0 0 85 24 [some (.ref 21), some (.long x1), none, none, some (.int x4)] [.int (8 * x4), .long x1, .int (σ 21 1), .ref 22] (hM p σ τ) r
    cases g2 : xn (σ 21 1) 300 with
    | false => rw [g2, cond_false] at H; exact False.elim H
    | true =>
      rw [g2, cond_true] at H
      refine xp_ok htr 8 d 0 0 [] 85 24 [some (.ref 21), some (.long x1), none, none, some (.int x4)] [.int (8 * x4), .long x1, .int (σ 21 1), .ref 22] (hM p σ τ) ⟨(xn_in g2), ?_⟩
      show xv l Ω d 0 0 85 36 [some (.ref 21), some (.long x1), none, none, some (.int x4)] [.int ((xh_ui σ 22 (Int32.toNatClampNeg (σ 21 1)) (Int64.toInt32 ((Int64.toUInt64 x1 >>> (Int64.toUInt64 (Int32.toInt64 (8 * x4)) &&& Int64.toUInt64 63)).toInt64 &&& 255))) 21 1), .ref 21] (hM p (xh_ui σ 22 (Int32.toNatClampNeg (σ 21 1)) (Int64.toInt32 ((Int64.toUInt64 x1 >>> (Int64.toUInt64 (Int32.toInt64 (8 * x4)) &&& Int64.toUInt64 63)).toInt64 &&& 255))) τ) r
      refine xp_ok htr 5 d 0 0 [] 85 36 [some (.ref 21), some (.long x1), none, none, some (.int x4)] [.int ((xh_ui σ 22 (Int32.toNatClampNeg (σ 21 1)) (Int64.toInt32 ((Int64.toUInt64 x1 >>> (Int64.toUInt64 (Int32.toInt64 (8 * x4)) &&& Int64.toUInt64 63)).toInt64 &&& 255))) 21 1), .ref 21] (hM p (xh_ui σ 22 (Int32.toNatClampNeg (σ 21 1)) (Int64.toInt32 ((Int64.toUInt64 x1 >>> (Int64.toUInt64 (Int32.toInt64 (8 * x4)) &&& Int64.toUInt64 63)).toInt64 &&& 255))) τ) ?_
      show xv l Ω d 0 0 85 5 [some (.ref 21), some (.long x1), none, none, some (.int (x4 + (-1)))] [] (hM p (xh_ui (xh_ui σ 22 (Int32.toNatClampNeg (σ 21 1)) (Int64.toInt32 ((Int64.toUInt64 x1 >>> (Int64.toUInt64 (Int32.toInt64 (8 * x4)) &&& Int64.toUInt64 63)).toInt64 &&& 255))) 21 1 (((xh_ui σ 22 (Int32.toNatClampNeg (σ 21 1)) (Int64.toInt32 ((Int64.toUInt64 x1 >>> (Int64.toUInt64 (Int32.toInt64 (8 * x4)) &&& Int64.toUInt64 63)).toInt64 &&& 255))) 21 1) + 1)) τ) r
      exact xv_sub (L' := [some (.ref 21), some (.long x1), none, none, some (.int (x4 + (-1)))]) ⟨rfl, ⟨rfl, ⟨rfl, trivial⟩⟩⟩ H
theorem g85_5_ok {l : Launch} {Ω : xo_O} (htr : xH l) (d : Nat) (p : Nat) (τ : Nat → Nat → Int64) (x1 : Int64) (x4 : Int32) (σ : xS) (r : xv_R) (H : xo (xB false p τ r) (g85_5 x1 x4 σ)) : xv l Ω d 0 0 85 5 [some (.ref 21), some (.long x1), none, none, some (.int x4)] [] (hM p σ τ) r :=
  xlo_ok (A := a85_5 l Ω d p τ r) (fun a H => g85_5b_ok htr d p τ a.1 a.2.1 a.2.2 r H) 1000 (x1, x4, σ) H
theorem g85_run {l : Launch} {Ω : xo_O} (htr : xH l) (d : Nat) (p : Nat) (τ : Nat → Nat → Int64) (a1 : Int64) (a3 : Int32) (σ : xS) {q : xQ} (hq : g85 a1 a3 σ = some q) : xv l Ω d 0 0 85 0 (xs_loc (xm_l 85) [.ref 21, .long a1, .int a3]) [] (hM p σ τ) (xq_R false p τ q) := by
  have H : xo (xB false p τ (xq_R false p τ q)) (g85 a1 a3 σ) := by rw [hq]; exact rfl
  generalize xq_R false p τ q = r at H ⊢
  show xv l Ω d 0 0 85 0 [some (.ref 21), some (.long a1), none, some (.int a3), none] [] (hM p σ τ) r
  unfold g85 at H
  refine xp_ok htr 4 d 0 0 [] 85 0 [some (.ref 21), some (.long a1), none, some (.int a3), none] [] (hM p σ τ) ?_
  show xv l Ω d 0 0 85 5 [some (.ref 21), some (.long a1), none, some (.int a3), some (.int (a3 - 1))] [] (hM p σ τ) r
  exact xv_sub (L' := [some (.ref 21), some (.long a1), none, none, some (.int (a3 - 1))]) ⟨rfl, ⟨rfl, ⟨rfl, trivial⟩⟩⟩ (g85_5_ok htr d p τ a1 (a3 - 1) σ r H)
/- AccessDesk.feed -/
def g83_16 (x1 : Int64) (x3 : Int32) (k0 : Int32) (σ : xS) : Option xQ := (match g26 k0 σ with | some (Sum.inl v2, s3) => (match g84 x3 s3 with | some (Sum.inl v5, s6) => (match g31 v5 s6 with | some (Sum.inl v8, s9) => (match g85 x1 x3 s9 with | some (Sum.inl v11, s12) => some ((Sum.inl v11, s12)) | some (Sum.inr v11, s12) => none | none => none) | some (Sum.inr v8, s9) => some ((Sum.inr v8, s9)) | none => none) | some (Sum.inr v5, s6) => none | none => none) | some (Sum.inr v2, s3) => some ((Sum.inr v2, s3)) | none => none)
def g83_15 (x1 : Int64) (x3 : Int32) (σ : xS) : Option xQ := g83_16 x1 x3 0 σ
def g83 (a1 : Int64) (a3 : Int32) (σ : xS) : xO := (if a3 < 1 then g83_15 a1 a3 σ else (if 8 < a3 then g83_15 a1 a3 σ else g83_16 a1 a3 1 σ))
theorem g83_16_ok {l : Launch} {Ω : xo_O} (htr : xH l) (d : Nat) (p : Nat) (τ : Nat → Nat → Int64) (x1 : Int64) (x3 : Int32) (k0 : Int32) (σ : xS) (r : xv_R) (H : xo (xB false p τ r) (g83_16 x1 x3 k0 σ)) : xv l Ω (d + 7) 2 12 83 16 [some (.ref 0), some (.long x1), none, some (.int x3)] [.int k0] (hM p σ τ) r := by
  unfold g83_16 at H
  cases q4 : g26 k0 σ with
  | none => rw [q4] at H; exact False.elim H
  | some q40 =>
    obtain ⟨v2 | v2, s3⟩ := q40
    · rw [q4] at H; dsimp only at H
      have hc := g26_run (Ω := Ω) htr d p τ k0 σ q4
      refine xp_ok htr 1 (d + 7) 2 12 [eN none (hM p s3 τ) 1 6] 83 16 [some (.ref 0), some (.long x1), none, some (.int x3)] [.int k0] (hM p σ τ) ⟨hc, ?_⟩
      show xv l Ω (d + 7) 1 6 83 19 [some (.ref 0), some (.long x1), none, some (.int x3)] [] (hM p s3 τ) r
      cases q7 : g84 x3 s3 with
      | none => rw [q7] at H; exact False.elim H
      | some q70 =>
        obtain ⟨v5 | v5, s6⟩ := q70
        · rw [q7] at H; dsimp only at H
          have hc := g84_run (Ω := Ω) htr (d + 6) p τ x3 s3 q7
          refine xp_ok htr 5 (d + 7) 1 6 [eC (some (.int v5)) (hM p s6 τ)] 83 19 [some (.ref 0), some (.long x1), none, some (.int x3)] [] (hM p s3 τ) ⟨hc, ?_⟩
          show xv l Ω (d + 7) 1 6 83 30 [some (.ref 0), some (.long x1), none, some (.int x3)] [.int v5] (hM p s6 τ) r
          cases q10 : g31 v5 s6 with
          | none => rw [q10] at H; exact False.elim H
          | some q100 =>
            obtain ⟨v8 | v8, s9⟩ := q100
            · rw [q10] at H; dsimp only at H
              have hc := g31_run (Ω := Ω) htr d p τ v5 s6 q10
              refine xp_ok htr 1 (d + 7) 1 6 [eN none (hM p s9 τ) 1 6] 83 30 [some (.ref 0), some (.long x1), none, some (.int x3)] [.int v5] (hM p s6 τ) ⟨hc, ?_⟩
              show xv l Ω (d + 7) 0 0 83 33 [some (.ref 0), some (.long x1), none, some (.int x3)] [] (hM p s9 τ) r
              cases q13 : g85 x1 x3 s9 with
              | none => rw [q13] at H; exact False.elim H
              | some q130 =>
                obtain ⟨v11 | v11, s12⟩ := q130
                · rw [q13] at H; dsimp only at H
                  have hc := g85_run (Ω := Ω) htr (d + 6) p τ x1 x3 s9 q13
                  refine xp_ok htr 6 (d + 7) 0 0 [eC (some (.int v11)) (hM p s12 τ)] 83 33 [some (.ref 0), some (.long x1), none, some (.int x3)] [] (hM p s9 τ) ⟨hc, ?_⟩
                  show xv l Ω (d + 7) 0 0 83 45 [some (.ref 0), some (.long x1), none, some (.int x3)] [.int v11] (hM p s12 τ) r
                  exact xp_ok htr 1 (d + 7) 0 0 [] 83 45 [some (.ref 0), some (.long x1), none, some (.int x3)] [.int v11] (hM p s12 τ) ⟨trivial, (Eq.symm H)⟩
                · rw [q13] at H; exact False.elim H
            · rw [q10] at H; dsimp only at H
              have hc := g31_run (Ω := Ω) htr d p τ v5 s6 q10
              exact xp_ok htr 1 (d + 7) 1 6 [eT v8 (hM p s9 τ) 1 6] 83 30 [some (.ref 0), some (.long x1), none, some (.int x3)] [.int v5] (hM p s6 τ) ⟨hc, (Eq.symm H)⟩
        · rw [q7] at H; exact False.elim H
    · rw [q4] at H; dsimp only at H
      have hc := g26_run (Ω := Ω) htr d p τ k0 σ q4
      exact xp_ok htr 1 (d + 7) 2 12 [eT v2 (hM p s3 τ) 1 6] 83 16 [some (.ref 0), some (.long x1), none, some (.int x3)] [.int k0] (hM p σ τ) ⟨hc, (Eq.symm H)⟩
theorem g83_15_ok {l : Launch} {Ω : xo_O} (htr : xH l) (d : Nat) (p : Nat) (τ : Nat → Nat → Int64) (x1 : Int64) (x3 : Int32) (σ : xS) (r : xv_R) (H : xo (xB false p τ r) (g83_15 x1 x3 σ)) : xv l Ω (d + 7) 2 12 83 15 [some (.ref 0), some (.long x1), none, some (.int x3)] [] (hM p σ τ) r := by
  unfold g83_15 at H
  refine xp_ok htr 1 (d + 7) 2 12 [] 83 15 [some (.ref 0), some (.long x1), none, some (.int x3)] [] (hM p σ τ) ?_
  show xv l Ω (d + 7) 2 12 83 16 [some (.ref 0), some (.long x1), none, some (.int x3)] [.int 0] (hM p σ τ) r
  exact xv_sub (L' := [some (.ref 0), some (.long x1), none, some (.int x3)]) ⟨rfl, ⟨rfl, ⟨rfl, trivial⟩⟩⟩ (g83_16_ok htr d p τ x1 x3 0 σ r H)
theorem g83_run {l : Launch} {Ω : xo_O} (htr : xH l) (d : Nat) (p : Nat) (τ : Nat → Nat → Int64) (a1 : Int64) (a3 : Int32) (σ : xS) {q : xQ} (hq : g83 a1 a3 σ = some q) : xv l Ω (d + 7) 2 12 83 0 (xs_loc (xm_l 83) [.ref 0, .long a1, .int a3]) [] (hM p σ τ) (xq_R false p τ q) := by
  have H : xo (xB false p τ (xq_R false p τ q)) (g83 a1 a3 σ) := by rw [hq]; exact rfl
  generalize xq_R false p τ q = r at H ⊢
  show xv l Ω (d + 7) 2 12 83 0 [some (.ref 0), some (.long a1), none, some (.int a3)] [] (hM p σ τ) r
  unfold g83 at H
  by_cases h1 : a3 < 1
  · rw [if_pos h1] at H
    refine xp_ok htr 3 (d + 7) 2 12 [eB true] 83 0 [some (.ref 0), some (.long a1), none, some (.int a3)] [] (hM p σ τ) ⟨h1, ?_⟩
    show xv l Ω (d + 7) 2 12 83 15 [some (.ref 0), some (.long a1), none, some (.int a3)] [] (hM p σ τ) r
    exact xv_sub (L' := [some (.ref 0), some (.long a1), none, some (.int a3)]) ⟨rfl, ⟨rfl, ⟨rfl, trivial⟩⟩⟩ (g83_15_ok htr d p τ a1 a3 σ r H)
  · rw [if_neg h1] at H
    refine xp_ok htr 3 (d + 7) 2 12 [eB false] 83 0 [some (.ref 0), some (.long a1), none, some (.int a3)] [] (hM p σ τ) ⟨h1, ?_⟩
    show xv l Ω (d + 7) 2 12 83 5 [some (.ref 0), some (.long a1), none, some (.int a3)] [] (hM p σ τ) r
    by_cases h14 : 8 < a3
    · rw [if_pos h14] at H
      refine xp_ok htr 3 (d + 7) 2 12 [eB true] 83 5 [some (.ref 0), some (.long a1), none, some (.int a3)] [] (hM p σ τ) ⟨h14, ?_⟩
      show xv l Ω (d + 7) 2 12 83 15 [some (.ref 0), some (.long a1), none, some (.int a3)] [] (hM p σ τ) r
      exact xv_sub (L' := [some (.ref 0), some (.long a1), none, some (.int a3)]) ⟨rfl, ⟨rfl, ⟨rfl, trivial⟩⟩⟩ (g83_15_ok htr d p τ a1 a3 σ r H)
    · rw [if_neg h14] at H
      refine xp_ok htr 3 (d + 7) 2 12 [eB false] 83 5 [some (.ref 0), some (.long a1), none, some (.int a3)] [] (hM p σ τ) ⟨h14, ?_⟩
      show xv l Ω (d + 7) 2 12 83 11 [some (.ref 0), some (.long a1), none, some (.int a3)] [] (hM p σ τ) r
      refine xp_ok htr 2 (d + 7) 2 12 [] 83 11 [some (.ref 0), some (.long a1), none, some (.int a3)] [] (hM p σ τ) ?_
      show xv l Ω (d + 7) 2 12 83 16 [some (.ref 0), some (.long a1), none, some (.int a3)] [.int 1] (hM p σ τ) r
      exact xv_sub (L' := [some (.ref 0), some (.long a1), none, some (.int a3)]) ⟨rfl, ⟨rfl, ⟨rfl, trivial⟩⟩⟩ (g83_16_ok htr d p τ a1 a3 1 σ r H)
/- AccessDesk$Plan.clear -/
def g89 (c : Nat)  (σ : xS) : xO := some ((Sum.inl 0, (xh_ui (xh_ui σ c 7 0) c 11 0)))
theorem g89_run_23 {l : Launch} {Ω : xo_O} (htr : xH l) (d : Nat) (p : Nat) (τ : Nat → Nat → Int64)  (σ : xS) {q : xQ} (hq : g89 23  σ = some q) : xv l Ω d 0 0 89 0 (xs_loc (xm_l 89) [.ref 23]) [] (hM p σ τ) (xq_R true p τ q) := by
  have H : xo (xB true p τ (xq_R true p τ q)) (g89 23  σ) := by rw [hq]; exact rfl
  generalize xq_R true p τ q = r at H ⊢
  show xv l Ω d 0 0 89 0 [some (.ref 23)] [] (hM p σ τ) r
  unfold g89 at H
  exact xp_ok htr 7 d 0 0 [] 89 0 [some (.ref 23)] [] (hM p σ τ) ⟨trivial, (Eq.symm H)⟩
theorem g89_run_36 {l : Launch} {Ω : xo_O} (htr : xH l) (d : Nat) (p : Nat) (τ : Nat → Nat → Int64)  (σ : xS) {q : xQ} (hq : g89 36  σ = some q) : xv l Ω d 0 0 89 0 (xs_loc (xm_l 89) [.ref 36]) [] (hM p σ τ) (xq_R true p τ q) := by
  have H : xo (xB true p τ (xq_R true p τ q)) (g89 36  σ) := by rw [hq]; exact rfl
  generalize xq_R true p τ q = r at H ⊢
  show xv l Ω d 0 0 89 0 [some (.ref 36)] [] (hM p σ τ) r
  unfold g89 at H
  exact xp_ok htr 7 d 0 0 [] 89 0 [some (.ref 36)] [] (hM p σ τ) ⟨trivial, (Eq.symm H)⟩
/- AccessDesk$Reader.moveTo -/
def g90 (a1 : Int32) (σ : xS) : xO := (if ((xh_ui σ 20 2 a1) 21 1) ≤ a1 then some ((Sum.inl 0, (xh_ui (xh_ui σ 20 2 a1) 20 3 (-1)))) else (bif xn a1 300 then some ((Sum.inl 0, (xh_ui (xh_ui σ 20 2 a1) 20 3 ((xh_ui σ 20 2 a1) 22 (Int32.toNatClampNeg a1))))) else none))
theorem g90_run {l : Launch} {Ω : xo_O} (htr : xH l) (d : Nat) (p : Nat) (τ : Nat → Nat → Int64) (a1 : Int32) (σ : xS) {q : xQ} (hq : g90 a1 σ = some q) : xv l Ω d 0 0 90 0 (xs_loc (xm_l 90) [.ref 20, .int a1]) [] (hM p σ τ) (xq_R true p τ q) := by
  have H : xo (xB true p τ (xq_R true p τ q)) (g90 a1 σ) := by rw [hq]; exact rfl
  generalize xq_R true p τ q = r at H ⊢
  show xv l Ω d 0 0 90 0 [some (.ref 20), some (.int a1)] [] (hM p σ τ) r
  unfold g90 at H
  refine xp_ok htr 8 d 0 0 [] 90 0 [some (.ref 20), some (.int a1)] [] (hM p σ τ) ?_
  show xv l Ω d 0 0 90 14 [some (.ref 20), some (.int a1)] [.int ((xh_ui σ 20 2 a1) 21 1), .int a1, .ref 20] (hM p (xh_ui σ 20 2 a1) τ) r
  by_cases h1 : ((xh_ui σ 20 2 a1) 21 1) ≤ a1
  · rw [if_pos h1] at H
    refine xp_ok htr 1 d 0 0 [eB true] 90 14 [some (.ref 20), some (.int a1)] [.int ((xh_ui σ 20 2 a1) 21 1), .int a1, .ref 20] (hM p (xh_ui σ 20 2 a1) τ) ⟨h1, ?_⟩
    show xv l Ω d 0 0 90 29 [some (.ref 20), some (.int a1)] [.ref 20] (hM p (xh_ui σ 20 2 a1) τ) r
    exact xp_ok htr 3 d 0 0 [] 90 29 [some (.ref 20), some (.int a1)] [.ref 20] (hM p (xh_ui σ 20 2 a1) τ) ⟨trivial, (Eq.symm H)⟩
  · rw [if_neg h1] at H
    refine xp_ok htr 1 d 0 0 [eB false] 90 14 [some (.ref 20), some (.int a1)] [.int ((xh_ui σ 20 2 a1) 21 1), .int a1, .ref 20] (hM p (xh_ui σ 20 2 a1) τ) ⟨h1, ?_⟩
    show xv l Ω d 0 0 90 17 [some (.ref 20), some (.int a1)] [.ref 20] (hM p (xh_ui σ 20 2 a1) τ) r
    cases g2 : xn a1 300 with
    | false => rw [g2, cond_false] at H; exact False.elim H
    | true =>
      rw [g2, cond_true] at H
      exact xp_ok htr 8 d 0 0 [] 90 17 [some (.ref 20), some (.int a1)] [.ref 20] (hM p (xh_ui σ 20 2 a1) τ) ⟨(xn_in g2), trivial, (Eq.symm H)⟩
/- AccessDesk$Plan.isFull -/
def g92 (c : Nat)  (σ : xS) : xO := (if (σ c 7) < 40 then some ((Sum.inl 0, σ)) else some ((Sum.inl 1, σ)))
theorem g92_run_23 {l : Launch} {Ω : xo_O} (htr : xH l) (d : Nat) (p : Nat) (τ : Nat → Nat → Int64)  (σ : xS) {q : xQ} (hq : g92 23  σ = some q) : xv l Ω d 0 0 92 0 (xs_loc (xm_l 92) [.ref 23]) [] (hM p σ τ) (xq_R false p τ q) := by
  have H : xo (xB false p τ (xq_R false p τ q)) (g92 23  σ) := by rw [hq]; exact rfl
  generalize xq_R false p τ q = r at H ⊢
  show xv l Ω d 0 0 92 0 [some (.ref 23)] [] (hM p σ τ) r
  unfold g92 at H
  by_cases h1 : (σ 23 7) < 40
  · rw [if_pos h1] at H
    refine xp_ok htr 4 d 0 0 [eB true] 92 0 [some (.ref 23)] [] (hM p σ τ) ⟨h1, ?_⟩
    show xv l Ω d 0 0 92 13 [some (.ref 23)] [] (hM p σ τ) r
    exact xp_ok htr 2 d 0 0 [] 92 13 [some (.ref 23)] [] (hM p σ τ) ⟨Or.inl rfl, (Eq.symm H)⟩
  · rw [if_neg h1] at H
    refine xp_ok htr 4 d 0 0 [eB false] 92 0 [some (.ref 23)] [] (hM p σ τ) ⟨h1, ?_⟩
    show xv l Ω d 0 0 92 9 [some (.ref 23)] [] (hM p σ τ) r
    exact xp_ok htr 3 d 0 0 [] 92 9 [some (.ref 23)] [] (hM p σ τ) ⟨Or.inr rfl, (Eq.symm H)⟩
theorem g92_run_36 {l : Launch} {Ω : xo_O} (htr : xH l) (d : Nat) (p : Nat) (τ : Nat → Nat → Int64)  (σ : xS) {q : xQ} (hq : g92 36  σ = some q) : xv l Ω d 0 0 92 0 (xs_loc (xm_l 92) [.ref 36]) [] (hM p σ τ) (xq_R false p τ q) := by
  have H : xo (xB false p τ (xq_R false p τ q)) (g92 36  σ) := by rw [hq]; exact rfl
  generalize xq_R false p τ q = r at H ⊢
  show xv l Ω d 0 0 92 0 [some (.ref 36)] [] (hM p σ τ) r
  unfold g92 at H
  by_cases h1 : (σ 36 7) < 40
  · rw [if_pos h1] at H
    refine xp_ok htr 4 d 0 0 [eB true] 92 0 [some (.ref 36)] [] (hM p σ τ) ⟨h1, ?_⟩
    show xv l Ω d 0 0 92 13 [some (.ref 36)] [] (hM p σ τ) r
    exact xp_ok htr 2 d 0 0 [] 92 13 [some (.ref 36)] [] (hM p σ τ) ⟨Or.inl rfl, (Eq.symm H)⟩
  · rw [if_neg h1] at H
    refine xp_ok htr 4 d 0 0 [eB false] 92 0 [some (.ref 36)] [] (hM p σ τ) ⟨h1, ?_⟩
    show xv l Ω d 0 0 92 9 [some (.ref 36)] [] (hM p σ τ) r
    exact xp_ok htr 3 d 0 0 [] 92 9 [some (.ref 36)] [] (hM p σ τ) ⟨Or.inr rfl, (Eq.symm H)⟩
/- AccessDesk$Plan.addNode -/
def g94 (c : Nat) (a1 : Int32) (a2 : Int32) (σ : xS) : xO := (bif xn (σ c 7) 40 then some ((Sum.inl (σ c 7), (xh_ui (xh_ui (xh_ui (xh_ui σ (c + 1) (Int32.toNatClampNeg (σ c 7)) a1) (c + 2) (Int32.toNatClampNeg (σ c 7)) a2) (c + 5) (Int32.toNatClampNeg (σ c 7)) ((xh_ui (xh_ui σ (c + 1) (Int32.toNatClampNeg (σ c 7)) a1) (c + 2) (Int32.toNatClampNeg (σ c 7)) a2) c 11)) c 7 (((xh_ui (xh_ui (xh_ui σ (c + 1) (Int32.toNatClampNeg (σ c 7)) a1) (c + 2) (Int32.toNatClampNeg (σ c 7)) a2) (c + 5) (Int32.toNatClampNeg (σ c 7)) ((xh_ui (xh_ui σ (c + 1) (Int32.toNatClampNeg (σ c 7)) a1) (c + 2) (Int32.toNatClampNeg (σ c 7)) a2) c 11)) c 7) + 1)))) else none)
theorem g94_run_23 {l : Launch} {Ω : xo_O} (htr : xH l) (d : Nat) (p : Nat) (τ : Nat → Nat → Int64) (a1 : Int32) (a2 : Int32) (σ : xS) {q : xQ} (hq : g94 23 a1 a2 σ = some q) : xv l Ω d 0 0 94 0 (xs_loc (xm_l 94) [.ref 23, .int a1, .int a2]) [] (hM p σ τ) (xq_R false p τ q) := by
  have H : xo (xB false p τ (xq_R false p τ q)) (g94 23 a1 a2 σ) := by rw [hq]; exact rfl
  generalize xq_R false p τ q = r at H ⊢
  show xv l Ω d 0 0 94 0 [some (.ref 23), some (.int a1), some (.int a2), none] [] (hM p σ τ) r
  unfold g94 at H
  cases g1 : xn (σ 23 7) 40 with
  | false => rw [g1, cond_false] at H; exact False.elim H
  | true =>
    rw [g1, cond_true] at H
    refine xp_ok htr 8 d 0 0 [] 94 0 [some (.ref 23), some (.int a1), some (.int a2), none] [] (hM p σ τ) ⟨(xn_in g1), ?_⟩
    show xv l Ω d 0 0 94 12 [some (.ref 23), some (.int a1), some (.int a2), some (.int (σ 23 7))] [] (hM p (xh_ui σ (23 + 1) (Int32.toNatClampNeg (σ 23 7)) a1) τ) r
    refine xp_ok htr 8 d 0 0 [] 94 12 [some (.ref 23), some (.int a1), some (.int a2), some (.int (σ 23 7))] [] (hM p (xh_ui σ (23 + 1) (Int32.toNatClampNeg (σ 23 7)) a1) τ) ⟨(xn_in g1), ?_⟩
    show xv l Ω d 0 0 94 24 [some (.ref 23), some (.int a1), some (.int a2), some (.int (σ 23 7))] [.int (σ 23 7), .ref (23 + 5)] (hM p (xh_ui (xh_ui σ (23 + 1) (Int32.toNatClampNeg (σ 23 7)) a1) (23 + 2) (Int32.toNatClampNeg (σ 23 7)) a2) τ) r
    refine xp_ok htr 8 d 0 0 [] 94 24 [some (.ref 23), some (.int a1), some (.int a2), some (.int (σ 23 7))] [.int (σ 23 7), .ref (23 + 5)] (hM p (xh_ui (xh_ui σ (23 + 1) (Int32.toNatClampNeg (σ 23 7)) a1) (23 + 2) (Int32.toNatClampNeg (σ 23 7)) a2) τ) ⟨(xn_in g1), ?_⟩
    show xv l Ω d 0 0 94 36 [some (.ref 23), some (.int a1), some (.int a2), some (.int (σ 23 7))] [.int (((xh_ui (xh_ui (xh_ui σ (23 + 1) (Int32.toNatClampNeg (σ 23 7)) a1) (23 + 2) (Int32.toNatClampNeg (σ 23 7)) a2) (23 + 5) (Int32.toNatClampNeg (σ 23 7)) ((xh_ui (xh_ui σ (23 + 1) (Int32.toNatClampNeg (σ 23 7)) a1) (23 + 2) (Int32.toNatClampNeg (σ 23 7)) a2) 23 11)) 23 7) + 1), .ref 23] (hM p (xh_ui (xh_ui (xh_ui σ (23 + 1) (Int32.toNatClampNeg (σ 23 7)) a1) (23 + 2) (Int32.toNatClampNeg (σ 23 7)) a2) (23 + 5) (Int32.toNatClampNeg (σ 23 7)) ((xh_ui (xh_ui σ (23 + 1) (Int32.toNatClampNeg (σ 23 7)) a1) (23 + 2) (Int32.toNatClampNeg (σ 23 7)) a2) 23 11)) τ) r
    exact xp_ok htr 3 d 0 0 [] 94 36 [some (.ref 23), some (.int a1), some (.int a2), some (.int (σ 23 7))] [.int (((xh_ui (xh_ui (xh_ui σ (23 + 1) (Int32.toNatClampNeg (σ 23 7)) a1) (23 + 2) (Int32.toNatClampNeg (σ 23 7)) a2) (23 + 5) (Int32.toNatClampNeg (σ 23 7)) ((xh_ui (xh_ui σ (23 + 1) (Int32.toNatClampNeg (σ 23 7)) a1) (23 + 2) (Int32.toNatClampNeg (σ 23 7)) a2) 23 11)) 23 7) + 1), .ref 23] (hM p (xh_ui (xh_ui (xh_ui σ (23 + 1) (Int32.toNatClampNeg (σ 23 7)) a1) (23 + 2) (Int32.toNatClampNeg (σ 23 7)) a2) (23 + 5) (Int32.toNatClampNeg (σ 23 7)) ((xh_ui (xh_ui σ (23 + 1) (Int32.toNatClampNeg (σ 23 7)) a1) (23 + 2) (Int32.toNatClampNeg (σ 23 7)) a2) 23 11)) τ) ⟨trivial, (Eq.symm H)⟩
theorem g94_run_36 {l : Launch} {Ω : xo_O} (htr : xH l) (d : Nat) (p : Nat) (τ : Nat → Nat → Int64) (a1 : Int32) (a2 : Int32) (σ : xS) {q : xQ} (hq : g94 36 a1 a2 σ = some q) : xv l Ω d 0 0 94 0 (xs_loc (xm_l 94) [.ref 36, .int a1, .int a2]) [] (hM p σ τ) (xq_R false p τ q) := by
  have H : xo (xB false p τ (xq_R false p τ q)) (g94 36 a1 a2 σ) := by rw [hq]; exact rfl
  generalize xq_R false p τ q = r at H ⊢
  show xv l Ω d 0 0 94 0 [some (.ref 36), some (.int a1), some (.int a2), none] [] (hM p σ τ) r
  unfold g94 at H
  cases g1 : xn (σ 36 7) 40 with
  | false => rw [g1, cond_false] at H; exact False.elim H
  | true =>
    rw [g1, cond_true] at H
    refine xp_ok htr 8 d 0 0 [] 94 0 [some (.ref 36), some (.int a1), some (.int a2), none] [] (hM p σ τ) ⟨(xn_in g1), ?_⟩
    show xv l Ω d 0 0 94 12 [some (.ref 36), some (.int a1), some (.int a2), some (.int (σ 36 7))] [] (hM p (xh_ui σ (36 + 1) (Int32.toNatClampNeg (σ 36 7)) a1) τ) r
    refine xp_ok htr 8 d 0 0 [] 94 12 [some (.ref 36), some (.int a1), some (.int a2), some (.int (σ 36 7))] [] (hM p (xh_ui σ (36 + 1) (Int32.toNatClampNeg (σ 36 7)) a1) τ) ⟨(xn_in g1), ?_⟩
    show xv l Ω d 0 0 94 24 [some (.ref 36), some (.int a1), some (.int a2), some (.int (σ 36 7))] [.int (σ 36 7), .ref (36 + 5)] (hM p (xh_ui (xh_ui σ (36 + 1) (Int32.toNatClampNeg (σ 36 7)) a1) (36 + 2) (Int32.toNatClampNeg (σ 36 7)) a2) τ) r
    refine xp_ok htr 8 d 0 0 [] 94 24 [some (.ref 36), some (.int a1), some (.int a2), some (.int (σ 36 7))] [.int (σ 36 7), .ref (36 + 5)] (hM p (xh_ui (xh_ui σ (36 + 1) (Int32.toNatClampNeg (σ 36 7)) a1) (36 + 2) (Int32.toNatClampNeg (σ 36 7)) a2) τ) ⟨(xn_in g1), ?_⟩
    show xv l Ω d 0 0 94 36 [some (.ref 36), some (.int a1), some (.int a2), some (.int (σ 36 7))] [.int (((xh_ui (xh_ui (xh_ui σ (36 + 1) (Int32.toNatClampNeg (σ 36 7)) a1) (36 + 2) (Int32.toNatClampNeg (σ 36 7)) a2) (36 + 5) (Int32.toNatClampNeg (σ 36 7)) ((xh_ui (xh_ui σ (36 + 1) (Int32.toNatClampNeg (σ 36 7)) a1) (36 + 2) (Int32.toNatClampNeg (σ 36 7)) a2) 36 11)) 36 7) + 1), .ref 36] (hM p (xh_ui (xh_ui (xh_ui σ (36 + 1) (Int32.toNatClampNeg (σ 36 7)) a1) (36 + 2) (Int32.toNatClampNeg (σ 36 7)) a2) (36 + 5) (Int32.toNatClampNeg (σ 36 7)) ((xh_ui (xh_ui σ (36 + 1) (Int32.toNatClampNeg (σ 36 7)) a1) (36 + 2) (Int32.toNatClampNeg (σ 36 7)) a2) 36 11)) τ) r
    exact xp_ok htr 3 d 0 0 [] 94 36 [some (.ref 36), some (.int a1), some (.int a2), some (.int (σ 36 7))] [.int (((xh_ui (xh_ui (xh_ui σ (36 + 1) (Int32.toNatClampNeg (σ 36 7)) a1) (36 + 2) (Int32.toNatClampNeg (σ 36 7)) a2) (36 + 5) (Int32.toNatClampNeg (σ 36 7)) ((xh_ui (xh_ui σ (36 + 1) (Int32.toNatClampNeg (σ 36 7)) a1) (36 + 2) (Int32.toNatClampNeg (σ 36 7)) a2) 36 11)) 36 7) + 1), .ref 36] (hM p (xh_ui (xh_ui (xh_ui σ (36 + 1) (Int32.toNatClampNeg (σ 36 7)) a1) (36 + 2) (Int32.toNatClampNeg (σ 36 7)) a2) (36 + 5) (Int32.toNatClampNeg (σ 36 7)) ((xh_ui (xh_ui σ (36 + 1) (Int32.toNatClampNeg (σ 36 7)) a1) (36 + 2) (Int32.toNatClampNeg (σ 36 7)) a2) 36 11)) τ) ⟨trivial, (Eq.symm H)⟩
/- AccessDesk$Reader.isAttribute -/
def g97 (a0 : Int32) (σ : xS) : xO := (if a0 = 76 then some ((Sum.inl 1, σ)) else (if a0 = 83 then some ((Sum.inl 1, σ)) else (if a0 = 97 then some ((Sum.inl 1, σ)) else (if a0 = 99 then some ((Sum.inl 1, σ)) else (if a0 = 104 then some ((Sum.inl 1, σ)) else (if a0 = 108 then some ((Sum.inl 1, σ)) else (if a0 = 114 then some ((Sum.inl 1, σ)) else (if a0 = 115 then some ((Sum.inl 1, σ)) else (if a0 = 117 then some ((Sum.inl 1, σ)) else some ((Sum.inl 0, σ)))))))))))
theorem g97_run {l : Launch} {Ω : xo_O} (htr : xH l) (d : Nat) (p : Nat) (τ : Nat → Nat → Int64) (a0 : Int32) (σ : xS) {q : xQ} (hq : g97 a0 σ = some q) : xv l Ω d 0 0 97 0 (xs_loc (xm_l 97) [.int a0]) [] (hM p σ τ) (xq_R false p τ q) := by
  have H : xo (xB false p τ (xq_R false p τ q)) (g97 a0 σ) := by rw [hq]; exact rfl
  generalize xq_R false p τ q = r at H ⊢
  show xv l Ω d 0 0 97 0 [some (.int a0)] [] (hM p σ τ) r
  unfold g97 at H
  by_cases h1_0 : a0 = 76
  · rw [if_pos h1_0] at H
    refine xp_ok htr 2 d 0 0 [eS (some 76)] 97 0 [some (.int a0)] [] (hM p σ τ) ⟨h1_0, ?_⟩
    show xv l Ω d 0 0 97 84 [some (.int a0)] [] (hM p σ τ) r
    exact xp_ok htr 2 d 0 0 [] 97 84 [some (.int a0)] [] (hM p σ τ) ⟨Or.inr rfl, (Eq.symm H)⟩
  rw [if_neg h1_0] at H
  by_cases h1_1 : a0 = 83
  · rw [if_pos h1_1] at H
    refine xp_ok htr 2 d 0 0 [eS (some 83)] 97 0 [some (.int a0)] [] (hM p σ τ) ⟨h1_1, ?_⟩
    show xv l Ω d 0 0 97 84 [some (.int a0)] [] (hM p σ τ) r
    exact xp_ok htr 2 d 0 0 [] 97 84 [some (.int a0)] [] (hM p σ τ) ⟨Or.inr rfl, (Eq.symm H)⟩
  rw [if_neg h1_1] at H
  by_cases h1_2 : a0 = 97
  · rw [if_pos h1_2] at H
    refine xp_ok htr 2 d 0 0 [eS (some 97)] 97 0 [some (.int a0)] [] (hM p σ τ) ⟨h1_2, ?_⟩
    show xv l Ω d 0 0 97 84 [some (.int a0)] [] (hM p σ τ) r
    exact xp_ok htr 2 d 0 0 [] 97 84 [some (.int a0)] [] (hM p σ τ) ⟨Or.inr rfl, (Eq.symm H)⟩
  rw [if_neg h1_2] at H
  by_cases h1_3 : a0 = 99
  · rw [if_pos h1_3] at H
    refine xp_ok htr 2 d 0 0 [eS (some 99)] 97 0 [some (.int a0)] [] (hM p σ τ) ⟨h1_3, ?_⟩
    show xv l Ω d 0 0 97 84 [some (.int a0)] [] (hM p σ τ) r
    exact xp_ok htr 2 d 0 0 [] 97 84 [some (.int a0)] [] (hM p σ τ) ⟨Or.inr rfl, (Eq.symm H)⟩
  rw [if_neg h1_3] at H
  by_cases h1_4 : a0 = 104
  · rw [if_pos h1_4] at H
    refine xp_ok htr 2 d 0 0 [eS (some 104)] 97 0 [some (.int a0)] [] (hM p σ τ) ⟨h1_4, ?_⟩
    show xv l Ω d 0 0 97 84 [some (.int a0)] [] (hM p σ τ) r
    exact xp_ok htr 2 d 0 0 [] 97 84 [some (.int a0)] [] (hM p σ τ) ⟨Or.inr rfl, (Eq.symm H)⟩
  rw [if_neg h1_4] at H
  by_cases h1_5 : a0 = 108
  · rw [if_pos h1_5] at H
    refine xp_ok htr 2 d 0 0 [eS (some 108)] 97 0 [some (.int a0)] [] (hM p σ τ) ⟨h1_5, ?_⟩
    show xv l Ω d 0 0 97 84 [some (.int a0)] [] (hM p σ τ) r
    exact xp_ok htr 2 d 0 0 [] 97 84 [some (.int a0)] [] (hM p σ τ) ⟨Or.inr rfl, (Eq.symm H)⟩
  rw [if_neg h1_5] at H
  by_cases h1_6 : a0 = 114
  · rw [if_pos h1_6] at H
    refine xp_ok htr 2 d 0 0 [eS (some 114)] 97 0 [some (.int a0)] [] (hM p σ τ) ⟨h1_6, ?_⟩
    show xv l Ω d 0 0 97 84 [some (.int a0)] [] (hM p σ τ) r
    exact xp_ok htr 2 d 0 0 [] 97 84 [some (.int a0)] [] (hM p σ τ) ⟨Or.inr rfl, (Eq.symm H)⟩
  rw [if_neg h1_6] at H
  by_cases h1_7 : a0 = 115
  · rw [if_pos h1_7] at H
    refine xp_ok htr 2 d 0 0 [eS (some 115)] 97 0 [some (.int a0)] [] (hM p σ τ) ⟨h1_7, ?_⟩
    show xv l Ω d 0 0 97 84 [some (.int a0)] [] (hM p σ τ) r
    exact xp_ok htr 2 d 0 0 [] 97 84 [some (.int a0)] [] (hM p σ τ) ⟨Or.inr rfl, (Eq.symm H)⟩
  rw [if_neg h1_7] at H
  by_cases h1_8 : a0 = 117
  · rw [if_pos h1_8] at H
    refine xp_ok htr 2 d 0 0 [eS (some 117)] 97 0 [some (.int a0)] [] (hM p σ τ) ⟨h1_8, ?_⟩
    show xv l Ω d 0 0 97 84 [some (.int a0)] [] (hM p σ τ) r
    exact xp_ok htr 2 d 0 0 [] 97 84 [some (.int a0)] [] (hM p σ τ) ⟨Or.inr rfl, (Eq.symm H)⟩
  rw [if_neg h1_8] at H
  refine xp_ok htr 2 d 0 0 [eS none] 97 0 [some (.int a0)] [] (hM p σ τ) ⟨⟨h1_0, h1_1, h1_2, h1_3, h1_4, h1_5, h1_6, h1_7, h1_8, trivial⟩, ?_⟩
  show xv l Ω d 0 0 97 86 [some (.int a0)] [] (hM p σ τ) r
  exact xp_ok htr 2 d 0 0 [] 97 86 [some (.int a0)] [] (hM p σ τ) ⟨Or.inl rfl, (Eq.symm H)⟩
/- AccessDesk$Reader.isDigit -/
def g98 (a0 : Int32) (σ : xS) : xO := (if a0 < 48 then some ((Sum.inl 0, σ)) else (if 57 < a0 then some ((Sum.inl 0, σ)) else some ((Sum.inl 1, σ))))
theorem g98_run {l : Launch} {Ω : xo_O} (htr : xH l) (d : Nat) (p : Nat) (τ : Nat → Nat → Int64) (a0 : Int32) (σ : xS) {q : xQ} (hq : g98 a0 σ = some q) : xv l Ω d 0 0 98 0 (xs_loc (xm_l 98) [.int a0]) [] (hM p σ τ) (xq_R false p τ q) := by
  have H : xo (xB false p τ (xq_R false p τ q)) (g98 a0 σ) := by rw [hq]; exact rfl
  generalize xq_R false p τ q = r at H ⊢
  show xv l Ω d 0 0 98 0 [some (.int a0)] [] (hM p σ τ) r
  unfold g98 at H
  by_cases h1 : a0 < 48
  · rw [if_pos h1] at H
    refine xp_ok htr 3 d 0 0 [eB true] 98 0 [some (.int a0)] [] (hM p σ τ) ⟨h1, ?_⟩
    show xv l Ω d 0 0 98 16 [some (.int a0)] [] (hM p σ τ) r
    exact xp_ok htr 2 d 0 0 [] 98 16 [some (.int a0)] [] (hM p σ τ) ⟨Or.inl rfl, (Eq.symm H)⟩
  · rw [if_neg h1] at H
    refine xp_ok htr 3 d 0 0 [eB false] 98 0 [some (.int a0)] [] (hM p σ τ) ⟨h1, ?_⟩
    show xv l Ω d 0 0 98 6 [some (.int a0)] [] (hM p σ τ) r
    by_cases h2 : 57 < a0
    · rw [if_pos h2] at H
      refine xp_ok htr 3 d 0 0 [eB true] 98 6 [some (.int a0)] [] (hM p σ τ) ⟨h2, ?_⟩
      show xv l Ω d 0 0 98 16 [some (.int a0)] [] (hM p σ τ) r
      exact xp_ok htr 2 d 0 0 [] 98 16 [some (.int a0)] [] (hM p σ τ) ⟨Or.inl rfl, (Eq.symm H)⟩
    · rw [if_neg h2] at H
      refine xp_ok htr 3 d 0 0 [eB false] 98 6 [some (.int a0)] [] (hM p σ τ) ⟨h2, ?_⟩
      show xv l Ω d 0 0 98 12 [some (.int a0)] [] (hM p σ τ) r
      exact xp_ok htr 3 d 0 0 [] 98 12 [some (.int a0)] [] (hM p σ τ) ⟨Or.inr rfl, (Eq.symm H)⟩
/- AccessDesk$Reader.readNumber -/
def g99_19b (x1 : Int32) (x2 : Int32) (x3 : Int32) (σ : xS) : Option ((Int32 × Int32 × Int32 × xS) ⊕ xQ) := (if x1 ≤ x3 then some (Sum.inr ((Sum.inl x2, σ))) else (match g98 (σ 20 3) σ with | some (Sum.inl v3, s4) => (if v3 = 0 then some (Sum.inr ((Sum.inl x2, s4))) else (match g90 ((s4 20 2) + 1) s4 with | some (Sum.inl v7, s8) => some (Sum.inl (x1, (((10 * x2) + (s4 20 3)) - 48), (x3 + 1), s8)) | some (Sum.inr v7, s8) => none | none => none)) | some (Sum.inr v3, s4) => none | none => none))
def g99_19 (x1 : Int32) (x2 : Int32) (x3 : Int32) (σ : xS) : Option xQ := xlo (fun a : Int32 × Int32 × Int32 × xS => g99_19b a.1 a.2.1 a.2.2.1 a.2.2.2) 1000 (x1, x2, x3, σ)
def g99_14 (k0 : Int32) (σ : xS) : Option xQ := g99_19 k0 0 0 σ
def g99  (σ : xS) : xO := (if (σ 20 3) = 48 then g99_14 1 σ else g99_14 3 σ)
def a99_19 (l : Launch) (Ω : xo_O) (d p : Nat) (τ : Nat → Nat → Int64) (r : xv_R) : Int32 × Int32 × Int32 × xS → Prop := fun a => xv l Ω (d + 1) 0 0 99 19 [some (.ref 20), some (.int a.1), some (.int a.2.1), some (.int a.2.2.1)] [] (hM p a.2.2.2 τ) r
theorem g99_19b_ok {l : Launch} {Ω : xo_O} (htr : xH l) (d : Nat) (p : Nat) (τ : Nat → Nat → Int64) (x1 : Int32) (x2 : Int32) (x3 : Int32) (σ : xS) (r : xv_R) (H : xo (xd (a99_19 l Ω d p τ r) (xB false p τ r)) (g99_19b x1 x2 x3 σ)) : xv l Ω (d + 1) 0 0 99 19 [some (.ref 20), some (.int x1), some (.int x2), some (.int x3)] [] (hM p σ τ) r := by
  unfold g99_19b at H
  by_cases h2 : x1 ≤ x3
  · rw [if_pos h2] at H
    refine xp_ok htr 3 (d + 1) 0 0 [eB true] 99 19 [some (.ref 20), some (.int x1), some (.int x2), some (.int x3)] [] (hM p σ τ) ⟨h2, ?_⟩
    show xv l Ω (d + 1) 0 0 99 63 [some (.ref 20), some (.int x1), some (.int x2), some (.int x3)] [] (hM p σ τ) r
    exact xp_ok htr 2 (d + 1) 0 0 [] 99 63 [some (.ref 20), some (.int x1), some (.int x2), some (.int x3)] [] (hM p σ τ) ⟨trivial, (Eq.symm H)⟩
  · rw [if_neg h2] at H
    refine xp_ok htr 3 (d + 1) 0 0 [eB false] 99 19 [some (.ref 20), some (.int x1), some (.int x2), some (.int x3)] [] (hM p σ τ) ⟨h2, ?_⟩
    show xv l Ω (d + 1) 0 0 99 24 [some (.ref 20), some (.int x1), some (.int x2), some (.int x3)] [] (hM p σ τ) r
    cases q5 : g98 (σ 20 3) σ with
    | none => rw [q5] at H; exact False.elim H
    | some q50 =>
      obtain ⟨v3 | v3, s4⟩ := q50
      · rw [q5] at H; dsimp only at H
        have hc := g98_run (Ω := Ω) htr d p τ (σ 20 3) σ q5
        refine xp_ok htr 3 (d + 1) 0 0 [eC (some (.int v3)) (hM p s4 τ)] 99 24 [some (.ref 20), some (.int x1), some (.int x2), some (.int x3)] [] (hM p σ τ) ⟨hc, ?_⟩
        show xv l Ω (d + 1) 0 0 99 31 [some (.ref 20), some (.int x1), some (.int x2), some (.int x3)] [.int v3] (hM p s4 τ) r
        by_cases h6 : v3 = 0
        · rw [if_pos h6] at H
          refine xp_ok htr 1 (d + 1) 0 0 [eB true] 99 31 [some (.ref 20), some (.int x1), some (.int x2), some (.int x3)] [.int v3] (hM p s4 τ) ⟨h6, ?_⟩
          show xv l Ω (d + 1) 0 0 99 63 [some (.ref 20), some (.int x1), some (.int x2), some (.int x3)] [] (hM p s4 τ) r
          exact xp_ok htr 2 (d + 1) 0 0 [] 99 63 [some (.ref 20), some (.int x1), some (.int x2), some (.int x3)] [] (hM p s4 τ) ⟨trivial, (Eq.symm H)⟩
        · rw [if_neg h6] at H
          refine xp_ok htr 1 (d + 1) 0 0 [eB false] 99 31 [some (.ref 20), some (.int x1), some (.int x2), some (.int x3)] [.int v3] (hM p s4 τ) ⟨h6, ?_⟩
          show xv l Ω (d + 1) 0 0 99 34 [some (.ref 20), some (.int x1), some (.int x2), some (.int x3)] [] (hM p s4 τ) r
          refine xp_ok htr 8 (d + 1) 0 0 [] 99 34 [some (.ref 20), some (.int x1), some (.int x2), some (.int x3)] [] (hM p s4 τ) ?_
          show xv l Ω (d + 1) 0 0 99 46 [some (.ref 20), some (.int x1), some (.int x2), some (.int x3)] [.int (((10 * x2) + (s4 20 3)) - 48)] (hM p s4 τ) r
          cases q9 : g90 ((s4 20 2) + 1) s4 with
          | none => rw [q9] at H; exact False.elim H
          | some q90 =>
            obtain ⟨v7 | v7, s8⟩ := q90
            · rw [q9] at H; dsimp only at H
              have hc := g90_run (Ω := Ω) htr d p τ ((s4 20 2) + 1) s4 q9
              refine xp_ok htr 7 (d + 1) 0 0 [eC none (hM p s8 τ)] 99 46 [some (.ref 20), some (.int x1), some (.int x2), some (.int x3)] [.int (((10 * x2) + (s4 20 3)) - 48)] (hM p s4 τ) ⟨hc, ?_⟩
              show xv l Ω (d + 1) 0 0 99 57 [some (.ref 20), some (.int x1), some (.int (((10 * x2) + (s4 20 3)) - 48)), some (.int x3)] [] (hM p s8 τ) r
              refine xp_ok htr 2 (d + 1) 0 0 [] 99 57 [some (.ref 20), some (.int x1), some (.int (((10 * x2) + (s4 20 3)) - 48)), some (.int x3)] [] (hM p s8 τ) ?_
              show xv l Ω (d + 1) 0 0 99 19 [some (.ref 20), some (.int x1), some (.int (((10 * x2) + (s4 20 3)) - 48)), some (.int (x3 + 1))] [] (hM p s8 τ) r
              exact xv_sub (L' := [some (.ref 20), some (.int x1), some (.int (((10 * x2) + (s4 20 3)) - 48)), some (.int (x3 + 1))]) ⟨rfl, ⟨rfl, ⟨rfl, ⟨rfl, trivial⟩⟩⟩⟩ H
            · rw [q9] at H; exact False.elim H
      · rw [q5] at H; exact False.elim H
theorem g99_19_ok {l : Launch} {Ω : xo_O} (htr : xH l) (d : Nat) (p : Nat) (τ : Nat → Nat → Int64) (x1 : Int32) (x2 : Int32) (x3 : Int32) (σ : xS) (r : xv_R) (H : xo (xB false p τ r) (g99_19 x1 x2 x3 σ)) : xv l Ω (d + 1) 0 0 99 19 [some (.ref 20), some (.int x1), some (.int x2), some (.int x3)] [] (hM p σ τ) r :=
  xlo_ok (A := a99_19 l Ω d p τ r) (fun a H => g99_19b_ok htr d p τ a.1 a.2.1 a.2.2.1 a.2.2.2 r H) 1000 (x1, x2, x3, σ) H
theorem g99_14_ok {l : Launch} {Ω : xo_O} (htr : xH l) (d : Nat) (p : Nat) (τ : Nat → Nat → Int64) (k0 : Int32) (σ : xS) (r : xv_R) (H : xo (xB false p τ r) (g99_14 k0 σ)) : xv l Ω (d + 1) 0 0 99 14 [some (.ref 20), none, none, none] [.int k0] (hM p σ τ) r := by
  unfold g99_14 at H
  refine xp_ok htr 5 (d + 1) 0 0 [] 99 14 [some (.ref 20), none, none, none] [.int k0] (hM p σ τ) ?_
  show xv l Ω (d + 1) 0 0 99 19 [some (.ref 20), some (.int k0), some (.int 0), some (.int 0)] [] (hM p σ τ) r
  exact xv_sub (L' := [some (.ref 20), some (.int k0), some (.int 0), some (.int 0)]) ⟨rfl, ⟨rfl, ⟨rfl, ⟨rfl, trivial⟩⟩⟩⟩ (g99_19_ok htr d p τ k0 0 0 σ r H)
theorem g99_run {l : Launch} {Ω : xo_O} (htr : xH l) (d : Nat) (p : Nat) (τ : Nat → Nat → Int64)  (σ : xS) {q : xQ} (hq : g99  σ = some q) : xv l Ω (d + 1) 0 0 99 0 (xs_loc (xm_l 99) [.ref 20]) [] (hM p σ τ) (xq_R false p τ q) := by
  have H : xo (xB false p τ (xq_R false p τ q)) (g99  σ) := by rw [hq]; exact rfl
  generalize xq_R false p τ q = r at H ⊢
  show xv l Ω (d + 1) 0 0 99 0 [some (.ref 20), none, none, none] [] (hM p σ τ) r
  unfold g99 at H
  by_cases h1 : (σ 20 3) = 48
  · rw [if_pos h1] at H
    refine xp_ok htr 4 (d + 1) 0 0 [eB false] 99 0 [some (.ref 20), none, none, none] [] (hM p σ τ) ⟨h1, ?_⟩
    show xv l Ω (d + 1) 0 0 99 9 [some (.ref 20), none, none, none] [] (hM p σ τ) r
    refine xp_ok htr 2 (d + 1) 0 0 [] 99 9 [some (.ref 20), none, none, none] [] (hM p σ τ) ?_
    show xv l Ω (d + 1) 0 0 99 14 [some (.ref 20), none, none, none] [.int 1] (hM p σ τ) r
    exact xv_sub (L' := [some (.ref 20), none, none, none]) ⟨rfl, trivial⟩ (g99_14_ok htr d p τ 1 σ r H)
  · rw [if_neg h1] at H
    refine xp_ok htr 4 (d + 1) 0 0 [eB true] 99 0 [some (.ref 20), none, none, none] [] (hM p σ τ) ⟨h1, ?_⟩
    show xv l Ω (d + 1) 0 0 99 13 [some (.ref 20), none, none, none] [] (hM p σ τ) r
    refine xp_ok htr 1 (d + 1) 0 0 [] 99 13 [some (.ref 20), none, none, none] [] (hM p σ τ) ?_
    show xv l Ω (d + 1) 0 0 99 14 [some (.ref 20), none, none, none] [.int 3] (hM p σ τ) r
    exact xv_sub (L' := [some (.ref 20), none, none, none]) ⟨rfl, trivial⟩ (g99_14_ok htr d p τ 3 σ r H)
/- AccessDesk$Plan.addStep -/
def g100 (c : Nat) (a1 : Int32) (a2 : Int32) (a3 : Int32) (σ : xS) : xO := (if 300 ≤ (σ c 11) then some ((Sum.inl 0, σ)) else (bif xn (σ c 11) 300 then (bif xn ((xh_ui σ (c + 8) (Int32.toNatClampNeg (σ c 11)) a1) c 11) 300 then (bif xn ((xh_ui (xh_ui σ (c + 8) (Int32.toNatClampNeg (σ c 11)) a1) (c + 9) (Int32.toNatClampNeg ((xh_ui σ (c + 8) (Int32.toNatClampNeg (σ c 11)) a1) c 11)) a2) c 11) 300 then some ((Sum.inl 0, (xh_ui (xh_ui (xh_ui (xh_ui σ (c + 8) (Int32.toNatClampNeg (σ c 11)) a1) (c + 9) (Int32.toNatClampNeg ((xh_ui σ (c + 8) (Int32.toNatClampNeg (σ c 11)) a1) c 11)) a2) (c + 10) (Int32.toNatClampNeg ((xh_ui (xh_ui σ (c + 8) (Int32.toNatClampNeg (σ c 11)) a1) (c + 9) (Int32.toNatClampNeg ((xh_ui σ (c + 8) (Int32.toNatClampNeg (σ c 11)) a1) c 11)) a2) c 11)) a3) c 11 (((xh_ui (xh_ui (xh_ui σ (c + 8) (Int32.toNatClampNeg (σ c 11)) a1) (c + 9) (Int32.toNatClampNeg ((xh_ui σ (c + 8) (Int32.toNatClampNeg (σ c 11)) a1) c 11)) a2) (c + 10) (Int32.toNatClampNeg ((xh_ui (xh_ui σ (c + 8) (Int32.toNatClampNeg (σ c 11)) a1) (c + 9) (Int32.toNatClampNeg ((xh_ui σ (c + 8) (Int32.toNatClampNeg (σ c 11)) a1) c 11)) a2) c 11)) a3) c 11) + 1)))) else none) else none) else none))
theorem g100_run_23 {l : Launch} {Ω : xo_O} (htr : xH l) (d : Nat) (p : Nat) (τ : Nat → Nat → Int64) (a1 : Int32) (a2 : Int32) (a3 : Int32) (σ : xS) {q : xQ} (hq : g100 23 a1 a2 a3 σ = some q) : xv l Ω d 0 0 100 0 (xs_loc (xm_l 100) [.ref 23, .int a1, .int a2, .int a3]) [] (hM p σ τ) (xq_R true p τ q) := by
  have H : xo (xB true p τ (xq_R true p τ q)) (g100 23 a1 a2 a3 σ) := by rw [hq]; exact rfl
  generalize xq_R true p τ q = r at H ⊢
  show xv l Ω d 0 0 100 0 [some (.ref 23), some (.int a1), some (.int a2), some (.int a3)] [] (hM p σ τ) r
  unfold g100 at H
  by_cases h1 : 300 ≤ (σ 23 11)
  · rw [if_pos h1] at H
    refine xp_ok htr 4 d 0 0 [eB true] 100 0 [some (.ref 23), some (.int a1), some (.int a2), some (.int a3)] [] (hM p σ τ) ⟨h1, ?_⟩
    show xv l Ω d 0 0 100 50 [some (.ref 23), some (.int a1), some (.int a2), some (.int a3)] [] (hM p σ τ) r
    exact xp_ok htr 1 d 0 0 [] 100 50 [some (.ref 23), some (.int a1), some (.int a2), some (.int a3)] [] (hM p σ τ) ⟨trivial, (Eq.symm H)⟩
  · rw [if_neg h1] at H
    refine xp_ok htr 4 d 0 0 [eB false] 100 0 [some (.ref 23), some (.int a1), some (.int a2), some (.int a3)] [] (hM p σ τ) ⟨h1, ?_⟩
    show xv l Ω d 0 0 100 10 [some (.ref 23), some (.int a1), some (.int a2), some (.int a3)] [] (hM p σ τ) r
    cases g2 : xn (σ 23 11) 300 with
    | false => rw [g2, cond_false] at H; exact False.elim H
    | true =>
      rw [g2, cond_true] at H
      refine xp_ok htr 8 d 0 0 [] 100 10 [some (.ref 23), some (.int a1), some (.int a2), some (.int a3)] [] (hM p σ τ) ⟨(xn_in g2), ?_⟩
      show xv l Ω d 0 0 100 24 [some (.ref 23), some (.int a1), some (.int a2), some (.int a3)] [.ref (23 + 9)] (hM p (xh_ui σ (23 + 8) (Int32.toNatClampNeg (σ 23 11)) a1) τ) r
      cases g3 : xn ((xh_ui σ (23 + 8) (Int32.toNatClampNeg (σ 23 11)) a1) 23 11) 300 with
      | false => rw [g3, cond_false] at H; exact False.elim H
      | true =>
        rw [g3, cond_true] at H
        refine xp_ok htr 8 d 0 0 [] 100 24 [some (.ref 23), some (.int a1), some (.int a2), some (.int a3)] [.ref (23 + 9)] (hM p (xh_ui σ (23 + 8) (Int32.toNatClampNeg (σ 23 11)) a1) τ) ⟨(xn_in g3), ?_⟩
        show xv l Ω d 0 0 100 38 [some (.ref 23), some (.int a1), some (.int a2), some (.int a3)] [.int ((xh_ui (xh_ui σ (23 + 8) (Int32.toNatClampNeg (σ 23 11)) a1) (23 + 9) (Int32.toNatClampNeg ((xh_ui σ (23 + 8) (Int32.toNatClampNeg (σ 23 11)) a1) 23 11)) a2) 23 11), .ref (23 + 10)] (hM p (xh_ui (xh_ui σ (23 + 8) (Int32.toNatClampNeg (σ 23 11)) a1) (23 + 9) (Int32.toNatClampNeg ((xh_ui σ (23 + 8) (Int32.toNatClampNeg (σ 23 11)) a1) 23 11)) a2) τ) r
        cases g4 : xn ((xh_ui (xh_ui σ (23 + 8) (Int32.toNatClampNeg (σ 23 11)) a1) (23 + 9) (Int32.toNatClampNeg ((xh_ui σ (23 + 8) (Int32.toNatClampNeg (σ 23 11)) a1) 23 11)) a2) 23 11) 300 with
        | false => rw [g4, cond_false] at H; exact False.elim H
        | true =>
          rw [g4, cond_true] at H
          refine xp_ok htr 8 d 0 0 [] 100 38 [some (.ref 23), some (.int a1), some (.int a2), some (.int a3)] [.int ((xh_ui (xh_ui σ (23 + 8) (Int32.toNatClampNeg (σ 23 11)) a1) (23 + 9) (Int32.toNatClampNeg ((xh_ui σ (23 + 8) (Int32.toNatClampNeg (σ 23 11)) a1) 23 11)) a2) 23 11), .ref (23 + 10)] (hM p (xh_ui (xh_ui σ (23 + 8) (Int32.toNatClampNeg (σ 23 11)) a1) (23 + 9) (Int32.toNatClampNeg ((xh_ui σ (23 + 8) (Int32.toNatClampNeg (σ 23 11)) a1) 23 11)) a2) τ) ⟨(xn_in g4), ?_⟩
          show xv l Ω d 0 0 100 50 [some (.ref 23), some (.int a1), some (.int a2), some (.int a3)] [] (hM p (xh_ui (xh_ui (xh_ui (xh_ui σ (23 + 8) (Int32.toNatClampNeg (σ 23 11)) a1) (23 + 9) (Int32.toNatClampNeg ((xh_ui σ (23 + 8) (Int32.toNatClampNeg (σ 23 11)) a1) 23 11)) a2) (23 + 10) (Int32.toNatClampNeg ((xh_ui (xh_ui σ (23 + 8) (Int32.toNatClampNeg (σ 23 11)) a1) (23 + 9) (Int32.toNatClampNeg ((xh_ui σ (23 + 8) (Int32.toNatClampNeg (σ 23 11)) a1) 23 11)) a2) 23 11)) a3) 23 11 (((xh_ui (xh_ui (xh_ui σ (23 + 8) (Int32.toNatClampNeg (σ 23 11)) a1) (23 + 9) (Int32.toNatClampNeg ((xh_ui σ (23 + 8) (Int32.toNatClampNeg (σ 23 11)) a1) 23 11)) a2) (23 + 10) (Int32.toNatClampNeg ((xh_ui (xh_ui σ (23 + 8) (Int32.toNatClampNeg (σ 23 11)) a1) (23 + 9) (Int32.toNatClampNeg ((xh_ui σ (23 + 8) (Int32.toNatClampNeg (σ 23 11)) a1) 23 11)) a2) 23 11)) a3) 23 11) + 1)) τ) r
          exact xp_ok htr 1 d 0 0 [] 100 50 [some (.ref 23), some (.int a1), some (.int a2), some (.int a3)] [] (hM p (xh_ui (xh_ui (xh_ui (xh_ui σ (23 + 8) (Int32.toNatClampNeg (σ 23 11)) a1) (23 + 9) (Int32.toNatClampNeg ((xh_ui σ (23 + 8) (Int32.toNatClampNeg (σ 23 11)) a1) 23 11)) a2) (23 + 10) (Int32.toNatClampNeg ((xh_ui (xh_ui σ (23 + 8) (Int32.toNatClampNeg (σ 23 11)) a1) (23 + 9) (Int32.toNatClampNeg ((xh_ui σ (23 + 8) (Int32.toNatClampNeg (σ 23 11)) a1) 23 11)) a2) 23 11)) a3) 23 11 (((xh_ui (xh_ui (xh_ui σ (23 + 8) (Int32.toNatClampNeg (σ 23 11)) a1) (23 + 9) (Int32.toNatClampNeg ((xh_ui σ (23 + 8) (Int32.toNatClampNeg (σ 23 11)) a1) 23 11)) a2) (23 + 10) (Int32.toNatClampNeg ((xh_ui (xh_ui σ (23 + 8) (Int32.toNatClampNeg (σ 23 11)) a1) (23 + 9) (Int32.toNatClampNeg ((xh_ui σ (23 + 8) (Int32.toNatClampNeg (σ 23 11)) a1) 23 11)) a2) 23 11)) a3) 23 11) + 1)) τ) ⟨trivial, (Eq.symm H)⟩
theorem g100_run_36 {l : Launch} {Ω : xo_O} (htr : xH l) (d : Nat) (p : Nat) (τ : Nat → Nat → Int64) (a1 : Int32) (a2 : Int32) (a3 : Int32) (σ : xS) {q : xQ} (hq : g100 36 a1 a2 a3 σ = some q) : xv l Ω d 0 0 100 0 (xs_loc (xm_l 100) [.ref 36, .int a1, .int a2, .int a3]) [] (hM p σ τ) (xq_R true p τ q) := by
  have H : xo (xB true p τ (xq_R true p τ q)) (g100 36 a1 a2 a3 σ) := by rw [hq]; exact rfl
  generalize xq_R true p τ q = r at H ⊢
  show xv l Ω d 0 0 100 0 [some (.ref 36), some (.int a1), some (.int a2), some (.int a3)] [] (hM p σ τ) r
  unfold g100 at H
  by_cases h1 : 300 ≤ (σ 36 11)
  · rw [if_pos h1] at H
    refine xp_ok htr 4 d 0 0 [eB true] 100 0 [some (.ref 36), some (.int a1), some (.int a2), some (.int a3)] [] (hM p σ τ) ⟨h1, ?_⟩
    show xv l Ω d 0 0 100 50 [some (.ref 36), some (.int a1), some (.int a2), some (.int a3)] [] (hM p σ τ) r
    exact xp_ok htr 1 d 0 0 [] 100 50 [some (.ref 36), some (.int a1), some (.int a2), some (.int a3)] [] (hM p σ τ) ⟨trivial, (Eq.symm H)⟩
  · rw [if_neg h1] at H
    refine xp_ok htr 4 d 0 0 [eB false] 100 0 [some (.ref 36), some (.int a1), some (.int a2), some (.int a3)] [] (hM p σ τ) ⟨h1, ?_⟩
    show xv l Ω d 0 0 100 10 [some (.ref 36), some (.int a1), some (.int a2), some (.int a3)] [] (hM p σ τ) r
    cases g2 : xn (σ 36 11) 300 with
    | false => rw [g2, cond_false] at H; exact False.elim H
    | true =>
      rw [g2, cond_true] at H
      refine xp_ok htr 8 d 0 0 [] 100 10 [some (.ref 36), some (.int a1), some (.int a2), some (.int a3)] [] (hM p σ τ) ⟨(xn_in g2), ?_⟩
      show xv l Ω d 0 0 100 24 [some (.ref 36), some (.int a1), some (.int a2), some (.int a3)] [.ref (36 + 9)] (hM p (xh_ui σ (36 + 8) (Int32.toNatClampNeg (σ 36 11)) a1) τ) r
      cases g3 : xn ((xh_ui σ (36 + 8) (Int32.toNatClampNeg (σ 36 11)) a1) 36 11) 300 with
      | false => rw [g3, cond_false] at H; exact False.elim H
      | true =>
        rw [g3, cond_true] at H
        refine xp_ok htr 8 d 0 0 [] 100 24 [some (.ref 36), some (.int a1), some (.int a2), some (.int a3)] [.ref (36 + 9)] (hM p (xh_ui σ (36 + 8) (Int32.toNatClampNeg (σ 36 11)) a1) τ) ⟨(xn_in g3), ?_⟩
        show xv l Ω d 0 0 100 38 [some (.ref 36), some (.int a1), some (.int a2), some (.int a3)] [.int ((xh_ui (xh_ui σ (36 + 8) (Int32.toNatClampNeg (σ 36 11)) a1) (36 + 9) (Int32.toNatClampNeg ((xh_ui σ (36 + 8) (Int32.toNatClampNeg (σ 36 11)) a1) 36 11)) a2) 36 11), .ref (36 + 10)] (hM p (xh_ui (xh_ui σ (36 + 8) (Int32.toNatClampNeg (σ 36 11)) a1) (36 + 9) (Int32.toNatClampNeg ((xh_ui σ (36 + 8) (Int32.toNatClampNeg (σ 36 11)) a1) 36 11)) a2) τ) r
        cases g4 : xn ((xh_ui (xh_ui σ (36 + 8) (Int32.toNatClampNeg (σ 36 11)) a1) (36 + 9) (Int32.toNatClampNeg ((xh_ui σ (36 + 8) (Int32.toNatClampNeg (σ 36 11)) a1) 36 11)) a2) 36 11) 300 with
        | false => rw [g4, cond_false] at H; exact False.elim H
        | true =>
          rw [g4, cond_true] at H
          refine xp_ok htr 8 d 0 0 [] 100 38 [some (.ref 36), some (.int a1), some (.int a2), some (.int a3)] [.int ((xh_ui (xh_ui σ (36 + 8) (Int32.toNatClampNeg (σ 36 11)) a1) (36 + 9) (Int32.toNatClampNeg ((xh_ui σ (36 + 8) (Int32.toNatClampNeg (σ 36 11)) a1) 36 11)) a2) 36 11), .ref (36 + 10)] (hM p (xh_ui (xh_ui σ (36 + 8) (Int32.toNatClampNeg (σ 36 11)) a1) (36 + 9) (Int32.toNatClampNeg ((xh_ui σ (36 + 8) (Int32.toNatClampNeg (σ 36 11)) a1) 36 11)) a2) τ) ⟨(xn_in g4), ?_⟩
          show xv l Ω d 0 0 100 50 [some (.ref 36), some (.int a1), some (.int a2), some (.int a3)] [] (hM p (xh_ui (xh_ui (xh_ui (xh_ui σ (36 + 8) (Int32.toNatClampNeg (σ 36 11)) a1) (36 + 9) (Int32.toNatClampNeg ((xh_ui σ (36 + 8) (Int32.toNatClampNeg (σ 36 11)) a1) 36 11)) a2) (36 + 10) (Int32.toNatClampNeg ((xh_ui (xh_ui σ (36 + 8) (Int32.toNatClampNeg (σ 36 11)) a1) (36 + 9) (Int32.toNatClampNeg ((xh_ui σ (36 + 8) (Int32.toNatClampNeg (σ 36 11)) a1) 36 11)) a2) 36 11)) a3) 36 11 (((xh_ui (xh_ui (xh_ui σ (36 + 8) (Int32.toNatClampNeg (σ 36 11)) a1) (36 + 9) (Int32.toNatClampNeg ((xh_ui σ (36 + 8) (Int32.toNatClampNeg (σ 36 11)) a1) 36 11)) a2) (36 + 10) (Int32.toNatClampNeg ((xh_ui (xh_ui σ (36 + 8) (Int32.toNatClampNeg (σ 36 11)) a1) (36 + 9) (Int32.toNatClampNeg ((xh_ui σ (36 + 8) (Int32.toNatClampNeg (σ 36 11)) a1) 36 11)) a2) 36 11)) a3) 36 11) + 1)) τ) r
          exact xp_ok htr 1 d 0 0 [] 100 50 [some (.ref 36), some (.int a1), some (.int a2), some (.int a3)] [] (hM p (xh_ui (xh_ui (xh_ui (xh_ui σ (36 + 8) (Int32.toNatClampNeg (σ 36 11)) a1) (36 + 9) (Int32.toNatClampNeg ((xh_ui σ (36 + 8) (Int32.toNatClampNeg (σ 36 11)) a1) 36 11)) a2) (36 + 10) (Int32.toNatClampNeg ((xh_ui (xh_ui σ (36 + 8) (Int32.toNatClampNeg (σ 36 11)) a1) (36 + 9) (Int32.toNatClampNeg ((xh_ui σ (36 + 8) (Int32.toNatClampNeg (σ 36 11)) a1) 36 11)) a2) 36 11)) a3) 36 11 (((xh_ui (xh_ui (xh_ui σ (36 + 8) (Int32.toNatClampNeg (σ 36 11)) a1) (36 + 9) (Int32.toNatClampNeg ((xh_ui σ (36 + 8) (Int32.toNatClampNeg (σ 36 11)) a1) 36 11)) a2) (36 + 10) (Int32.toNatClampNeg ((xh_ui (xh_ui σ (36 + 8) (Int32.toNatClampNeg (σ 36 11)) a1) (36 + 9) (Int32.toNatClampNeg ((xh_ui σ (36 + 8) (Int32.toNatClampNeg (σ 36 11)) a1) 36 11)) a2) 36 11)) a3) 36 11) + 1)) τ) ⟨trivial, (Eq.symm H)⟩
