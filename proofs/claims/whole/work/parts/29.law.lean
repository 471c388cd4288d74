/-! the law's turn: laid by program (wip/whole/law.py) -/
abbrev xT : Type := Nat → Nat → Int64
def gL_0 (n : Nat) (xs : Nat → Int32) (p : Nat) (i : Int32) (σ : xS) (τ : xT) : Option (xS × xT × Nat) := (bif xn (i + 1) n then (bif xn (i + 2) n then (match g22 (xs (Int32.toNatClampNeg (i + 1))) (xs (Int32.toNatClampNeg (i + 2))) σ τ with | some (v3, s4, t6) => (match g150 (xs (Int32.toNatClampNeg (i + 1))) (xs (Int32.toNatClampNeg (i + 2))) s4 with | some (Sum.inl v7, s8) => (match g149  s8 with | some (Sum.inl v10, s11) => (if v10 = v3 then some (s11, t6, p) else none) | some (Sum.inr _, _) => none | none => none) | some (Sum.inr _, _) => none | none => none) | none => none) else none) else none)
theorem gL_0_ok {l : Launch} {Ω : xo_O} (htr : xH l) (d kc ks : Nat) (p : Nat) (i : Int32) (σ : xS) (τ : xT) (r : xv_R) {q : xS × xT × Nat} (H : gL_0 (xo_n Ω) (xo_x Ω) p i σ τ = some q) (hk : xv l Ω (d + 220) kc ks 0 23 (xx_L0 (i + 5)) [] (hM q.2.2 q.1 q.2.1) r) : xv l Ω (d + 220) (kc + 3) (ks + 18) 0 132 (xx_L0 i) [] (hM p σ τ) r := by
  unfold gL_0 at H
  cases gu1 : xn (i + 1) (xo_n Ω) with
  | false => rw [gu1, cond_false] at H; cases H
  | true =>
    rw [gu1, cond_true] at H
    refine xp_ok htr 8 (d + 220) (kc + 3) (ks + 18) [] 0 132 [some (.retAddr 0), some (.ref 0), some (.ref 53), some (.ref 92), some (.int i), none, none] [] (hM p σ τ) ⟨(xn_in gu1), ?_⟩
    show xv l Ω (d + 220) (kc + 3) (ks + 18) 0 142 [some (.retAddr 0), some (.ref 0), some (.ref 53), some (.ref 92), some (.int i), none, none] [.int i, .retAddr 0, .int (xo_x Ω (Int32.toNatClampNeg (i + 1))), .ref 0] (hM p σ τ) r
    cases gu2 : xn (i + 2) (xo_n Ω) with
    | false => rw [gu2, cond_false] at H; cases H
    | true =>
      rw [gu2, cond_true] at H
      cases q5 : g22 (xo_x Ω (Int32.toNatClampNeg (i + 1))) (xo_x Ω (Int32.toNatClampNeg (i + 2))) σ τ with
      | none => rw [q5] at H; cases H
      | some q50 =>
        obtain ⟨v3, s4, t6⟩ := q50
        rw [q5] at H; dsimp only at H
        have hc := g22_run (Ω := Ω) htr (d + 211) p τ (xo_x Ω (Int32.toNatClampNeg (i + 1))) (xo_x Ω (Int32.toNatClampNeg (i + 2))) σ q5
        refine xp_ok htr 4 (d + 220) (kc + 3) (ks + 18) [eN (some (.int v3)) (hM p s4 t6) 3 18] 0 142 [some (.retAddr 0), some (.ref 0), some (.ref 53), some (.ref 92), some (.int i), none, none] [.int i, .retAddr 0, .int (xo_x Ω (Int32.toNatClampNeg (i + 1))), .ref 0] (hM p σ τ) ⟨(xn_in gu2), hc, ?_⟩
        show xv l Ω (d + 220) kc ks 0 148 [some (.retAddr 0), some (.ref 0), some (.ref 53), some (.ref 92), some (.int i), none, none] [.int v3] (hM p s4 t6) r
        refine xp_ok htr 8 (d + 220) kc ks [] 0 148 [some (.retAddr 0), some (.ref 0), some (.ref 53), some (.ref 92), some (.int i), none, none] [.int v3] (hM p s4 t6) ⟨(xn_in gu1), ?_⟩
        show xv l Ω (d + 220) kc ks 0 158 [some (.retAddr 0), some (.ref 0), some (.ref 53), some (.ref 92), some (.int i), some (.int v3), none] [.retAddr 0, .int (xo_x Ω (Int32.toNatClampNeg (i + 1))), .ref 53] (hM p s4 t6) r
        cases q9 : g150 (xo_x Ω (Int32.toNatClampNeg (i + 1))) (xo_x Ω (Int32.toNatClampNeg (i + 2))) s4 with
        | none => rw [q9] at H; cases H
        | some q90 =>
          obtain ⟨v7 | v7, s8⟩ := q90
          · rw [q9] at H; dsimp only at H
            have hc := g150_run (Ω := Ω) htr (d + 216) p t6 (xo_x Ω (Int32.toNatClampNeg (i + 1))) (xo_x Ω (Int32.toNatClampNeg (i + 2))) s4 q9
            refine xp_ok htr 5 (d + 220) kc ks [eC none (hM p s8 t6)] 0 158 [some (.retAddr 0), some (.ref 0), some (.ref 53), some (.ref 92), some (.int i), some (.int v3), none] [.retAddr 0, .int (xo_x Ω (Int32.toNatClampNeg (i + 1))), .ref 53] (hM p s4 t6) ⟨(xn_in gu2), hc, ?_⟩
            show xv l Ω (d + 220) kc ks 0 166 [some (.retAddr 0), some (.ref 0), some (.ref 53), some (.ref 92), some (.int i), some (.int v3), none] [] (hM p s8 t6) r
            cases q12 : g149  s8 with
            | none => rw [q12] at H; cases H
            | some q120 =>
              obtain ⟨v10 | v10, s11⟩ := q120
              · rw [q12] at H; dsimp only at H
                have hc := g149_run (Ω := Ω) htr (d + 219) p t6  s8 q12
                refine xp_ok htr 2 (d + 220) kc ks [eC (some (.int v10)) (hM p s11 t6)] 0 166 [some (.retAddr 0), some (.ref 0), some (.ref 53), some (.ref 92), some (.int i), some (.int v3), none] [] (hM p s8 t6) ⟨hc, ?_⟩
                show xv l Ω (d + 220) kc ks 0 170 [some (.retAddr 0), some (.ref 0), some (.ref 53), some (.ref 92), some (.int i), some (.int v3), none] [.int v10] (hM p s11 t6) r
                by_cases h13 : v10 = v3
                · rw [if_pos h13] at H
                  refine xp_ok htr 2 (d + 220) kc ks [eB true] 0 170 [some (.retAddr 0), some (.ref 0), some (.ref 53), some (.ref 92), some (.int i), some (.int v3), none] [.int v10] (hM p s11 t6) ⟨h13, ?_⟩
                  show xv l Ω (d + 220) kc ks 0 177 [some (.retAddr 0), some (.ref 0), some (.ref 53), some (.ref 92), some (.int i), some (.int v3), none] [] (hM p s11 t6) r
                  cases H
                  refine xp_ok htr 3 (d + 220) kc ks [] 0 177 [some (.retAddr 0), some (.ref 0), some (.ref 53), some (.ref 92), some (.int i), some (.int v3), none] [] (hM p s11 t6) ?_
                  show xv l Ω (d + 220) kc ks 0 23 [some (.retAddr 0), some (.ref 0), some (.ref 53), some (.ref 92), some (.int (i + 5)), some (.int v3), none] [] (hM p s11 t6) r
                  exact xv_sub (L' := xx_L0 (i + 5)) ⟨rfl, rfl, rfl, rfl, rfl, trivial⟩ hk
                · rw [if_neg h13] at H
                  cases H
              · rw [q12] at H; cases H
          · rw [q9] at H; cases H
def gL_1 (n : Nat) (xs : Nat → Int32) (p : Nat) (i : Int32) (σ : xS) (τ : xT) : Option (xS × xT × Nat) := (bif xn (i + 1) n then (bif xn (i + 2) n then (match g41 (xs (Int32.toNatClampNeg (i + 1))) (xs (Int32.toNatClampNeg (i + 2))) σ τ with | some (v16, s17, t19) => (match g157 (xs (Int32.toNatClampNeg (i + 1))) (xs (Int32.toNatClampNeg (i + 2))) s17 with | some (Sum.inl v20, s21) => (match g149  s21 with | some (Sum.inl v23, s24) => (if v23 = v16 then some (s24, t19, p) else none) | some (Sum.inr _, _) => none | none => none) | some (Sum.inr _, _) => none | none => none) | none => none) else none) else none)
theorem gL_1_ok {l : Launch} {Ω : xo_O} (htr : xH l) (d kc ks : Nat) (p : Nat) (i : Int32) (σ : xS) (τ : xT) (r : xv_R) {q : xS × xT × Nat} (H : gL_1 (xo_n Ω) (xo_x Ω) p i σ τ = some q) (hk : xv l Ω (d + 220) kc ks 0 23 (xx_L0 (i + 5)) [] (hM q.2.2 q.1 q.2.1) r) : xv l Ω (d + 220) (kc + 2) (ks + 12) 0 180 (xx_L0 i) [] (hM p σ τ) r := by
  unfold gL_1 at H
  cases gu14 : xn (i + 1) (xo_n Ω) with
  | false => rw [gu14, cond_false] at H; cases H
  | true =>
    rw [gu14, cond_true] at H
    refine xp_ok htr 8 (d + 220) (kc + 2) (ks + 12) [] 0 180 [some (.retAddr 0), some (.ref 0), some (.ref 53), some (.ref 92), some (.int i), none, none] [] (hM p σ τ) ⟨(xn_in gu14), ?_⟩
    show xv l Ω (d + 220) (kc + 2) (ks + 12) 0 190 [some (.retAddr 0), some (.ref 0), some (.ref 53), some (.ref 92), some (.int i), none, none] [.int i, .retAddr 0, .int (xo_x Ω (Int32.toNatClampNeg (i + 1))), .ref 0] (hM p σ τ) r
    cases gu15 : xn (i + 2) (xo_n Ω) with
    | false => rw [gu15, cond_false] at H; cases H
    | true =>
      rw [gu15, cond_true] at H
      cases q18 : g41 (xo_x Ω (Int32.toNatClampNeg (i + 1))) (xo_x Ω (Int32.toNatClampNeg (i + 2))) σ τ with
      | none => rw [q18] at H; cases H
      | some q180 =>
        obtain ⟨v16, s17, t19⟩ := q180
        rw [q18] at H; dsimp only at H
        have hc := g41_run (Ω := Ω) htr (d + 211) p τ (xo_x Ω (Int32.toNatClampNeg (i + 1))) (xo_x Ω (Int32.toNatClampNeg (i + 2))) σ q18
        refine xp_ok htr 4 (d + 220) (kc + 2) (ks + 12) [eN (some (.int v16)) (hM p s17 t19) 2 12] 0 190 [some (.retAddr 0), some (.ref 0), some (.ref 53), some (.ref 92), some (.int i), none, none] [.int i, .retAddr 0, .int (xo_x Ω (Int32.toNatClampNeg (i + 1))), .ref 0] (hM p σ τ) ⟨(xn_in gu15), hc, ?_⟩
        show xv l Ω (d + 220) kc ks 0 196 [some (.retAddr 0), some (.ref 0), some (.ref 53), some (.ref 92), some (.int i), none, none] [.int v16] (hM p s17 t19) r
        refine xp_ok htr 8 (d + 220) kc ks [] 0 196 [some (.retAddr 0), some (.ref 0), some (.ref 53), some (.ref 92), some (.int i), none, none] [.int v16] (hM p s17 t19) ⟨(xn_in gu14), ?_⟩
        show xv l Ω (d + 220) kc ks 0 206 [some (.retAddr 0), some (.ref 0), some (.ref 53), some (.ref 92), some (.int i), some (.int v16), none] [.retAddr 0, .int (xo_x Ω (Int32.toNatClampNeg (i + 1))), .ref 53] (hM p s17 t19) r
        cases q22 : g157 (xo_x Ω (Int32.toNatClampNeg (i + 1))) (xo_x Ω (Int32.toNatClampNeg (i + 2))) s17 with
        | none => rw [q22] at H; cases H
        | some q220 =>
          obtain ⟨v20 | v20, s21⟩ := q220
          · rw [q22] at H; dsimp only at H
            have hc := g157_run (Ω := Ω) htr (d + 217) p t19 (xo_x Ω (Int32.toNatClampNeg (i + 1))) (xo_x Ω (Int32.toNatClampNeg (i + 2))) s17 q22
            refine xp_ok htr 5 (d + 220) kc ks [eC none (hM p s21 t19)] 0 206 [some (.retAddr 0), some (.ref 0), some (.ref 53), some (.ref 92), some (.int i), some (.int v16), none] [.retAddr 0, .int (xo_x Ω (Int32.toNatClampNeg (i + 1))), .ref 53] (hM p s17 t19) ⟨(xn_in gu15), hc, ?_⟩
            show xv l Ω (d + 220) kc ks 0 214 [some (.retAddr 0), some (.ref 0), some (.ref 53), some (.ref 92), some (.int i), some (.int v16), none] [] (hM p s21 t19) r
            cases q25 : g149  s21 with
            | none => rw [q25] at H; cases H
            | some q250 =>
              obtain ⟨v23 | v23, s24⟩ := q250
              · rw [q25] at H; dsimp only at H
                have hc := g149_run (Ω := Ω) htr (d + 219) p t19  s21 q25
                refine xp_ok htr 2 (d + 220) kc ks [eC (some (.int v23)) (hM p s24 t19)] 0 214 [some (.retAddr 0), some (.ref 0), some (.ref 53), some (.ref 92), some (.int i), some (.int v16), none] [] (hM p s21 t19) ⟨hc, ?_⟩
                show xv l Ω (d + 220) kc ks 0 218 [some (.retAddr 0), some (.ref 0), some (.ref 53), some (.ref 92), some (.int i), some (.int v16), none] [.int v23] (hM p s24 t19) r
                by_cases h26 : v23 = v16
                · rw [if_pos h26] at H
                  refine xp_ok htr 2 (d + 220) kc ks [eB true] 0 218 [some (.retAddr 0), some (.ref 0), some (.ref 53), some (.ref 92), some (.int i), some (.int v16), none] [.int v23] (hM p s24 t19) ⟨h26, ?_⟩
                  show xv l Ω (d + 220) kc ks 0 225 [some (.retAddr 0), some (.ref 0), some (.ref 53), some (.ref 92), some (.int i), some (.int v16), none] [] (hM p s24 t19) r
                  cases H
                  refine xp_ok htr 3 (d + 220) kc ks [] 0 225 [some (.retAddr 0), some (.ref 0), some (.ref 53), some (.ref 92), some (.int i), some (.int v16), none] [] (hM p s24 t19) ?_
                  show xv l Ω (d + 220) kc ks 0 23 [some (.retAddr 0), some (.ref 0), some (.ref 53), some (.ref 92), some (.int (i + 5)), some (.int v16), none] [] (hM p s24 t19) r
                  exact xv_sub (L' := xx_L0 (i + 5)) ⟨rfl, rfl, rfl, rfl, rfl, trivial⟩ hk
                · rw [if_neg h26] at H
                  cases H
              · rw [q25] at H; cases H
          · rw [q22] at H; cases H
def gL_2 (n : Nat) (xs : Nat → Int32) (p : Nat) (i : Int32) (σ : xS) (τ : xT) : Option (xS × xT × Nat) := (bif xn (i + 1) n then (bif xn (i + 2) n then (match g45 (xs (Int32.toNatClampNeg (i + 1))) (xs (Int32.toNatClampNeg (i + 2))) σ τ with | some (v29, s30, t32) => (match g159 (xs (Int32.toNatClampNeg (i + 1))) (xs (Int32.toNatClampNeg (i + 2))) s30 with | some (Sum.inl v33, s34) => (match g149  s34 with | some (Sum.inl v36, s37) => (if v36 = v29 then some (s37, t32, p) else none) | some (Sum.inr _, _) => none | none => none) | some (Sum.inr _, _) => none | none => none) | none => none) else none) else none)
theorem gL_2_ok {l : Launch} {Ω : xo_O} (htr : xH l) (d kc ks : Nat) (p : Nat) (i : Int32) (σ : xS) (τ : xT) (r : xv_R) {q : xS × xT × Nat} (H : gL_2 (xo_n Ω) (xo_x Ω) p i σ τ = some q) (hk : xv l Ω (d + 220) kc ks 0 23 (xx_L0 (i + 5)) [] (hM q.2.2 q.1 q.2.1) r) : xv l Ω (d + 220) (kc + 3) (ks + 18) 0 228 (xx_L0 i) [] (hM p σ τ) r := by
  unfold gL_2 at H
  cases gu27 : xn (i + 1) (xo_n Ω) with
  | false => rw [gu27, cond_false] at H; cases H
  | true =>
    rw [gu27, cond_true] at H
    refine xp_ok htr 8 (d + 220) (kc + 3) (ks + 18) [] 0 228 [some (.retAddr 0), some (.ref 0), some (.ref 53), some (.ref 92), some (.int i), none, none] [] (hM p σ τ) ⟨(xn_in gu27), ?_⟩
    show xv l Ω (d + 220) (kc + 3) (ks + 18) 0 238 [some (.retAddr 0), some (.ref 0), some (.ref 53), some (.ref 92), some (.int i), none, none] [.int i, .retAddr 0, .int (xo_x Ω (Int32.toNatClampNeg (i + 1))), .ref 0] (hM p σ τ) r
    cases gu28 : xn (i + 2) (xo_n Ω) with
    | false => rw [gu28, cond_false] at H; cases H
    | true =>
      rw [gu28, cond_true] at H
      cases q31 : g45 (xo_x Ω (Int32.toNatClampNeg (i + 1))) (xo_x Ω (Int32.toNatClampNeg (i + 2))) σ τ with
      | none => rw [q31] at H; cases H
      | some q310 =>
        obtain ⟨v29, s30, t32⟩ := q310
        rw [q31] at H; dsimp only at H
        have hc := g45_run (Ω := Ω) htr (d + 211) p τ (xo_x Ω (Int32.toNatClampNeg (i + 1))) (xo_x Ω (Int32.toNatClampNeg (i + 2))) σ q31
        refine xp_ok htr 4 (d + 220) (kc + 3) (ks + 18) [eN (some (.int v29)) (hM p s30 t32) 3 18] 0 238 [some (.retAddr 0), some (.ref 0), some (.ref 53), some (.ref 92), some (.int i), none, none] [.int i, .retAddr 0, .int (xo_x Ω (Int32.toNatClampNeg (i + 1))), .ref 0] (hM p σ τ) ⟨(xn_in gu28), hc, ?_⟩
        show xv l Ω (d + 220) kc ks 0 244 [some (.retAddr 0), some (.ref 0), some (.ref 53), some (.ref 92), some (.int i), none, none] [.int v29] (hM p s30 t32) r
        refine xp_ok htr 8 (d + 220) kc ks [] 0 244 [some (.retAddr 0), some (.ref 0), some (.ref 53), some (.ref 92), some (.int i), none, none] [.int v29] (hM p s30 t32) ⟨(xn_in gu27), ?_⟩
        show xv l Ω (d + 220) kc ks 0 254 [some (.retAddr 0), some (.ref 0), some (.ref 53), some (.ref 92), some (.int i), some (.int v29), none] [.retAddr 0, .int (xo_x Ω (Int32.toNatClampNeg (i + 1))), .ref 53] (hM p s30 t32) r
        cases q35 : g159 (xo_x Ω (Int32.toNatClampNeg (i + 1))) (xo_x Ω (Int32.toNatClampNeg (i + 2))) s30 with
        | none => rw [q35] at H; cases H
        | some q350 =>
          obtain ⟨v33 | v33, s34⟩ := q350
          · rw [q35] at H; dsimp only at H
            have hc := g159_run (Ω := Ω) htr (d + 216) p t32 (xo_x Ω (Int32.toNatClampNeg (i + 1))) (xo_x Ω (Int32.toNatClampNeg (i + 2))) s30 q35
            refine xp_ok htr 5 (d + 220) kc ks [eC none (hM p s34 t32)] 0 254 [some (.retAddr 0), some (.ref 0), some (.ref 53), some (.ref 92), some (.int i), some (.int v29), none] [.retAddr 0, .int (xo_x Ω (Int32.toNatClampNeg (i + 1))), .ref 53] (hM p s30 t32) ⟨(xn_in gu28), hc, ?_⟩
            show xv l Ω (d + 220) kc ks 0 262 [some (.retAddr 0), some (.ref 0), some (.ref 53), some (.ref 92), some (.int i), some (.int v29), none] [] (hM p s34 t32) r
            cases q38 : g149  s34 with
            | none => rw [q38] at H; cases H
            | some q380 =>
              obtain ⟨v36 | v36, s37⟩ := q380
              · rw [q38] at H; dsimp only at H
                have hc := g149_run (Ω := Ω) htr (d + 219) p t32  s34 q38
                refine xp_ok htr 2 (d + 220) kc ks [eC (some (.int v36)) (hM p s37 t32)] 0 262 [some (.retAddr 0), some (.ref 0), some (.ref 53), some (.ref 92), some (.int i), some (.int v29), none] [] (hM p s34 t32) ⟨hc, ?_⟩
                show xv l Ω (d + 220) kc ks 0 266 [some (.retAddr 0), some (.ref 0), some (.ref 53), some (.ref 92), some (.int i), some (.int v29), none] [.int v36] (hM p s37 t32) r
                by_cases h39 : v36 = v29
                · rw [if_pos h39] at H
                  refine xp_ok htr 2 (d + 220) kc ks [eB true] 0 266 [some (.retAddr 0), some (.ref 0), some (.ref 53), some (.ref 92), some (.int i), some (.int v29), none] [.int v36] (hM p s37 t32) ⟨h39, ?_⟩
                  show xv l Ω (d + 220) kc ks 0 273 [some (.retAddr 0), some (.ref 0), some (.ref 53), some (.ref 92), some (.int i), some (.int v29), none] [] (hM p s37 t32) r
                  cases H
                  refine xp_ok htr 3 (d + 220) kc ks [] 0 273 [some (.retAddr 0), some (.ref 0), some (.ref 53), some (.ref 92), some (.int i), some (.int v29), none] [] (hM p s37 t32) ?_
                  show xv l Ω (d + 220) kc ks 0 23 [some (.retAddr 0), some (.ref 0), some (.ref 53), some (.ref 92), some (.int (i + 5)), some (.int v29), none] [] (hM p s37 t32) r
                  exact xv_sub (L' := xx_L0 (i + 5)) ⟨rfl, rfl, rfl, rfl, rfl, trivial⟩ hk
                · rw [if_neg h39] at H
                  cases H
              · rw [q38] at H; cases H
          · rw [q35] at H; cases H
def gL_3 (n : Nat) (xs : Nat → Int32) (p : Nat) (i : Int32) (σ : xS) (τ : xT) : Option (xS × xT × Nat) := (bif xn (i + 1) n then (bif xn (i + 2) n then (match g51 (xs (Int32.toNatClampNeg (i + 1))) (xs (Int32.toNatClampNeg (i + 2))) σ τ with | some (v42, s43, t45) => (match g160 (xs (Int32.toNatClampNeg (i + 1))) (xs (Int32.toNatClampNeg (i + 2))) s43 with | some (Sum.inl v46, s47) => (match g149  s47 with | some (Sum.inl v49, s50) => (if v49 = v42 then some (s50, t45, p) else none) | some (Sum.inr _, _) => none | none => none) | some (Sum.inr _, _) => none | none => none) | none => none) else none) else none)
theorem gL_3_ok {l : Launch} {Ω : xo_O} (htr : xH l) (d kc ks : Nat) (p : Nat) (i : Int32) (σ : xS) (τ : xT) (r : xv_R) {q : xS × xT × Nat} (H : gL_3 (xo_n Ω) (xo_x Ω) p i σ τ = some q) (hk : xv l Ω (d + 220) kc ks 0 23 (xx_L0 (i + 5)) [] (hM q.2.2 q.1 q.2.1) r) : xv l Ω (d + 220) (kc + 2) (ks + 12) 0 276 (xx_L0 i) [] (hM p σ τ) r := by
  unfold gL_3 at H
  cases gu40 : xn (i + 1) (xo_n Ω) with
  | false => rw [gu40, cond_false] at H; cases H
  | true =>
    rw [gu40, cond_true] at H
    refine xp_ok htr 8 (d + 220) (kc + 2) (ks + 12) [] 0 276 [some (.retAddr 0), some (.ref 0), some (.ref 53), some (.ref 92), some (.int i), none, none] [] (hM p σ τ) ⟨(xn_in gu40), ?_⟩
    show xv l Ω (d + 220) (kc + 2) (ks + 12) 0 286 [some (.retAddr 0), some (.ref 0), some (.ref 53), some (.ref 92), some (.int i), none, none] [.int i, .retAddr 0, .int (xo_x Ω (Int32.toNatClampNeg (i + 1))), .ref 0] (hM p σ τ) r
    cases gu41 : xn (i + 2) (xo_n Ω) with
    | false => rw [gu41, cond_false] at H; cases H
    | true =>
      rw [gu41, cond_true] at H
      cases q44 : g51 (xo_x Ω (Int32.toNatClampNeg (i + 1))) (xo_x Ω (Int32.toNatClampNeg (i + 2))) σ τ with
      | none => rw [q44] at H; cases H
      | some q440 =>
        obtain ⟨v42, s43, t45⟩ := q440
        rw [q44] at H; dsimp only at H
        have hc := g51_run (Ω := Ω) htr (d + 211) p τ (xo_x Ω (Int32.toNatClampNeg (i + 1))) (xo_x Ω (Int32.toNatClampNeg (i + 2))) σ q44
        refine xp_ok htr 4 (d + 220) (kc + 2) (ks + 12) [eN (some (.int v42)) (hM p s43 t45) 2 12] 0 286 [some (.retAddr 0), some (.ref 0), some (.ref 53), some (.ref 92), some (.int i), none, none] [.int i, .retAddr 0, .int (xo_x Ω (Int32.toNatClampNeg (i + 1))), .ref 0] (hM p σ τ) ⟨(xn_in gu41), hc, ?_⟩
        show xv l Ω (d + 220) kc ks 0 292 [some (.retAddr 0), some (.ref 0), some (.ref 53), some (.ref 92), some (.int i), none, none] [.int v42] (hM p s43 t45) r
        refine xp_ok htr 8 (d + 220) kc ks [] 0 292 [some (.retAddr 0), some (.ref 0), some (.ref 53), some (.ref 92), some (.int i), none, none] [.int v42] (hM p s43 t45) ⟨(xn_in gu40), ?_⟩
        show xv l Ω (d + 220) kc ks 0 302 [some (.retAddr 0), some (.ref 0), some (.ref 53), some (.ref 92), some (.int i), some (.int v42), none] [.retAddr 0, .int (xo_x Ω (Int32.toNatClampNeg (i + 1))), .ref 53] (hM p s43 t45) r
        cases q48 : g160 (xo_x Ω (Int32.toNatClampNeg (i + 1))) (xo_x Ω (Int32.toNatClampNeg (i + 2))) s43 with
        | none => rw [q48] at H; cases H
        | some q480 =>
          obtain ⟨v46 | v46, s47⟩ := q480
          · rw [q48] at H; dsimp only at H
            have hc := g160_run (Ω := Ω) htr (d + 217) p t45 (xo_x Ω (Int32.toNatClampNeg (i + 1))) (xo_x Ω (Int32.toNatClampNeg (i + 2))) s43 q48
            refine xp_ok htr 5 (d + 220) kc ks [eC none (hM p s47 t45)] 0 302 [some (.retAddr 0), some (.ref 0), some (.ref 53), some (.ref 92), some (.int i), some (.int v42), none] [.retAddr 0, .int (xo_x Ω (Int32.toNatClampNeg (i + 1))), .ref 53] (hM p s43 t45) ⟨(xn_in gu41), hc, ?_⟩
            show xv l Ω (d + 220) kc ks 0 310 [some (.retAddr 0), some (.ref 0), some (.ref 53), some (.ref 92), some (.int i), some (.int v42), none] [] (hM p s47 t45) r
            cases q51 : g149  s47 with
            | none => rw [q51] at H; cases H
            | some q510 =>
              obtain ⟨v49 | v49, s50⟩ := q510
              · rw [q51] at H; dsimp only at H
                have hc := g149_run (Ω := Ω) htr (d + 219) p t45  s47 q51
                refine xp_ok htr 2 (d + 220) kc ks [eC (some (.int v49)) (hM p s50 t45)] 0 310 [some (.retAddr 0), some (.ref 0), some (.ref 53), some (.ref 92), some (.int i), some (.int v42), none] [] (hM p s47 t45) ⟨hc, ?_⟩
                show xv l Ω (d + 220) kc ks 0 314 [some (.retAddr 0), some (.ref 0), some (.ref 53), some (.ref 92), some (.int i), some (.int v42), none] [.int v49] (hM p s50 t45) r
                by_cases h52 : v49 = v42
                · rw [if_pos h52] at H
                  refine xp_ok htr 2 (d + 220) kc ks [eB true] 0 314 [some (.retAddr 0), some (.ref 0), some (.ref 53), some (.ref 92), some (.int i), some (.int v42), none] [.int v49] (hM p s50 t45) ⟨h52, ?_⟩
                  show xv l Ω (d + 220) kc ks 0 321 [some (.retAddr 0), some (.ref 0), some (.ref 53), some (.ref 92), some (.int i), some (.int v42), none] [] (hM p s50 t45) r
                  cases H
                  refine xp_ok htr 3 (d + 220) kc ks [] 0 321 [some (.retAddr 0), some (.ref 0), some (.ref 53), some (.ref 92), some (.int i), some (.int v42), none] [] (hM p s50 t45) ?_
                  show xv l Ω (d + 220) kc ks 0 23 [some (.retAddr 0), some (.ref 0), some (.ref 53), some (.ref 92), some (.int (i + 5)), some (.int v42), none] [] (hM p s50 t45) r
                  exact xv_sub (L' := xx_L0 (i + 5)) ⟨rfl, rfl, rfl, rfl, rfl, trivial⟩ hk
                · rw [if_neg h52] at H
                  cases H
              · rw [q51] at H; cases H
          · rw [q48] at H; cases H
def gL_4 (n : Nat) (xs : Nat → Int32) (p : Nat) (i : Int32) (σ : xS) (τ : xT) : Option (xS × xT × Nat) := (bif xn (i + 1) n then (if (xs (Int32.toNatClampNeg (i + 1))) = 0 then (bif xn (i + 2) n then (bif xn (i + 3) n then (match g53 0 (xs (Int32.toNatClampNeg (i + 2))) (xs (Int32.toNatClampNeg (i + 3))) σ τ with | some (v57, s58, t60) => (match g161 0 (xs (Int32.toNatClampNeg (i + 2))) (xs (Int32.toNatClampNeg (i + 3))) s58 with | some (Sum.inl v61, s62) => (match g149  s62 with | some (Sum.inl v64, s65) => (if v64 = v57 then (if v57 = 0 then (if (lg_cmp (t60 92 0) (Int32.toInt64 v61)) = 0 then some (s65, t60, p) else none) else some (s65, t60, p)) else none) | some (Sum.inr _, _) => none | none => none) | some (Sum.inr _, _) => none | none => none) | none => none) else none) else none) else (bif xn (i + 2) n then (bif xn (i + 3) n then (match g53 1 (xs (Int32.toNatClampNeg (i + 2))) (xs (Int32.toNatClampNeg (i + 3))) σ τ with | some (v72, s73, t75) => (match g161 1 (xs (Int32.toNatClampNeg (i + 2))) (xs (Int32.toNatClampNeg (i + 3))) s73 with | some (Sum.inl v76, s77) => (match g149  s77 with | some (Sum.inl v79, s80) => (if v79 = v72 then (if v72 = 0 then (if (lg_cmp (t75 92 0) (Int32.toInt64 v76)) = 0 then some (s80, t75, p) else none) else some (s80, t75, p)) else none) | some (Sum.inr _, _) => none | none => none) | some (Sum.inr _, _) => none | none => none) | none => none) else none) else none)) else none)
theorem gL_4_ok {l : Launch} {Ω : xo_O} (htr : xH l) (d kc ks : Nat) (p : Nat) (i : Int32) (σ : xS) (τ : xT) (r : xv_R) {q : xS × xT × Nat} (H : gL_4 (xo_n Ω) (xo_x Ω) p i σ τ = some q) (hk : xv l Ω (d + 220) kc ks 0 23 (xx_L0 (i + 5)) [] (hM q.2.2 q.1 q.2.1) r) : xv l Ω (d + 220) (kc + 2) (ks + 12) 0 324 (xx_L0 i) [] (hM p σ τ) r := by
  unfold gL_4 at H
  cases gu53 : xn (i + 1) (xo_n Ω) with
  | false => rw [gu53, cond_false] at H; cases H
  | true =>
    rw [gu53, cond_true] at H
    by_cases h54 : (xo_x Ω (Int32.toNatClampNeg (i + 1))) = 0
    · rw [if_pos h54] at H
      refine xp_ok htr 7 (d + 220) (kc + 2) (ks + 12) [eB true] 0 324 [some (.retAddr 0), some (.ref 0), some (.ref 53), some (.ref 92), some (.int i), none, none] [] (hM p σ τ) ⟨(xn_in gu53), h54, ?_⟩
      show xv l Ω (d + 220) (kc + 2) (ks + 12) 0 338 [some (.retAddr 0), some (.ref 0), some (.ref 53), some (.ref 92), some (.int i), none, none] [.ref 0] (hM p σ τ) r
      cases gu55 : xn (i + 2) (xo_n Ω) with
      | false => rw [gu55, cond_false] at H; cases H
      | true =>
        rw [gu55, cond_true] at H
        refine xp_ok htr 8 (d + 220) (kc + 2) (ks + 12) [] 0 338 [some (.retAddr 0), some (.ref 0), some (.ref 53), some (.ref 92), some (.int i), none, none] [.ref 0] (hM p σ τ) ⟨(xn_in gu55), ?_⟩
        show xv l Ω (d + 220) (kc + 2) (ks + 12) 0 348 [some (.retAddr 0), some (.ref 0), some (.ref 53), some (.ref 92), some (.int i), none, none] [.int i, .retAddr 0, .int (xo_x Ω (Int32.toNatClampNeg (i + 2))), .int 0, .ref 0] (hM p σ τ) r
        cases gu56 : xn (i + 3) (xo_n Ω) with
        | false => rw [gu56, cond_false] at H; cases H
        | true =>
          rw [gu56, cond_true] at H
          cases q59 : g53 0 (xo_x Ω (Int32.toNatClampNeg (i + 2))) (xo_x Ω (Int32.toNatClampNeg (i + 3))) σ τ with
          | none => rw [q59] at H; cases H
          | some q590 =>
            obtain ⟨v57, s58, t60⟩ := q590
            rw [q59] at H; dsimp only at H
            have hc := g53_run (Ω := Ω) htr (d + 211) p τ 0 (xo_x Ω (Int32.toNatClampNeg (i + 2))) (xo_x Ω (Int32.toNatClampNeg (i + 3))) σ q59
            refine xp_ok htr 5 (d + 220) (kc + 2) (ks + 12) [eN (some (.int v57)) (hM p s58 t60) 2 12] 0 348 [some (.retAddr 0), some (.ref 0), some (.ref 53), some (.ref 92), some (.int i), none, none] [.int i, .retAddr 0, .int (xo_x Ω (Int32.toNatClampNeg (i + 2))), .int 0, .ref 0] (hM p σ τ) ⟨(xn_in gu56), hc, ?_⟩
            show xv l Ω (d + 220) kc ks 0 355 [some (.retAddr 0), some (.ref 0), some (.ref 53), some (.ref 92), some (.int i), none, none] [.int v57] (hM p s58 t60) r
            refine xp_ok htr 8 (d + 220) kc ks [eB true] 0 355 [some (.retAddr 0), some (.ref 0), some (.ref 53), some (.ref 92), some (.int i), none, none] [.int v57] (hM p s58 t60) ⟨(xn_in gu53), h54, ?_⟩
            show xv l Ω (d + 220) kc ks 0 371 [some (.retAddr 0), some (.ref 0), some (.ref 53), some (.ref 92), some (.int i), some (.int v57), none] [.ref 53] (hM p s58 t60) r
            refine xp_ok htr 8 (d + 220) kc ks [] 0 371 [some (.retAddr 0), some (.ref 0), some (.ref 53), some (.ref 92), some (.int i), some (.int v57), none] [.ref 53] (hM p s58 t60) ⟨(xn_in gu55), ?_⟩
            show xv l Ω (d + 220) kc ks 0 381 [some (.retAddr 0), some (.ref 0), some (.ref 53), some (.ref 92), some (.int i), some (.int v57), none] [.int i, .retAddr 0, .int (xo_x Ω (Int32.toNatClampNeg (i + 2))), .int 0, .ref 53] (hM p s58 t60) r
            cases q63 : g161 0 (xo_x Ω (Int32.toNatClampNeg (i + 2))) (xo_x Ω (Int32.toNatClampNeg (i + 3))) s58 with
            | none => rw [q63] at H; cases H
            | some q630 =>
              obtain ⟨v61 | v61, s62⟩ := q630
              · rw [q63] at H; dsimp only at H
                have hc := g161_run (Ω := Ω) htr (d + 217) p t60 0 (xo_x Ω (Int32.toNatClampNeg (i + 2))) (xo_x Ω (Int32.toNatClampNeg (i + 3))) s58 q63
                refine xp_ok htr 4 (d + 220) kc ks [eC (some (.int v61)) (hM p s62 t60)] 0 381 [some (.retAddr 0), some (.ref 0), some (.ref 53), some (.ref 92), some (.int i), some (.int v57), none] [.int i, .retAddr 0, .int (xo_x Ω (Int32.toNatClampNeg (i + 2))), .int 0, .ref 53] (hM p s58 t60) ⟨(xn_in gu56), hc, ?_⟩
                show xv l Ω (d + 220) kc ks 0 387 [some (.retAddr 0), some (.ref 0), some (.ref 53), some (.ref 92), some (.int i), some (.int v57), none] [.int v61] (hM p s62 t60) r
                cases q66 : g149  s62 with
                | none => rw [q66] at H; cases H
                | some q660 =>
                  obtain ⟨v64 | v64, s65⟩ := q660
                  · rw [q66] at H; dsimp only at H
                    have hc := g149_run (Ω := Ω) htr (d + 219) p t60  s62 q66
                    refine xp_ok htr 3 (d + 220) kc ks [eC (some (.int v64)) (hM p s65 t60)] 0 387 [some (.retAddr 0), some (.ref 0), some (.ref 53), some (.ref 92), some (.int i), some (.int v57), none] [.int v61] (hM p s62 t60) ⟨hc, ?_⟩
                    show xv l Ω (d + 220) kc ks 0 393 [some (.retAddr 0), some (.ref 0), some (.ref 53), some (.ref 92), some (.int i), some (.int v57), some (.int v61)] [.int v64] (hM p s65 t60) r
                    by_cases h67 : v64 = v57
                    · rw [if_pos h67] at H
                      refine xp_ok htr 2 (d + 220) kc ks [eB true] 0 393 [some (.retAddr 0), some (.ref 0), some (.ref 53), some (.ref 92), some (.int i), some (.int v57), some (.int v61)] [.int v64] (hM p s65 t60) ⟨h67, ?_⟩
                      show xv l Ω (d + 220) kc ks 0 400 [some (.retAddr 0), some (.ref 0), some (.ref 53), some (.ref 92), some (.int i), some (.int v57), some (.int v61)] [] (hM p s65 t60) r
                      by_cases h68 : v57 = 0
                      · rw [if_pos h68] at H
                        refine xp_ok htr 2 (d + 220) kc ks [eB false] 0 400 [some (.retAddr 0), some (.ref 0), some (.ref 53), some (.ref 92), some (.int i), some (.int v57), some (.int v61)] [] (hM p s65 t60) ⟨h68, ?_⟩
                        show xv l Ω (d + 220) kc ks 0 405 [some (.retAddr 0), some (.ref 0), some (.ref 53), some (.ref 92), some (.int i), some (.int v57), some (.int v61)] [] (hM p s65 t60) r
                        by_cases h69 : (lg_cmp (t60 92 0) (Int32.toInt64 v61)) = 0
                        · rw [if_pos h69] at H
                          refine xp_ok htr 7 (d + 220) kc ks [eB true] 0 405 [some (.retAddr 0), some (.ref 0), some (.ref 53), some (.ref 92), some (.int i), some (.int v57), some (.int v61)] [] (hM p s65 t60) ⟨(by unfold vp_in; decide), h69, ?_⟩
                          show xv l Ω (d + 220) kc ks 0 417 [some (.retAddr 0), some (.ref 0), some (.ref 53), some (.ref 92), some (.int i), some (.int v57), some (.int v61)] [] (hM p s65 t60) r
                          cases H
                          refine xp_ok htr 3 (d + 220) kc ks [] 0 417 [some (.retAddr 0), some (.ref 0), some (.ref 53), some (.ref 92), some (.int i), some (.int v57), some (.int v61)] [] (hM p s65 t60) ?_
                          show xv l Ω (d + 220) kc ks 0 23 [some (.retAddr 0), some (.ref 0), some (.ref 53), some (.ref 92), some (.int (i + 5)), some (.int v57), some (.int v61)] [] (hM p s65 t60) r
                          exact xv_sub (L' := xx_L0 (i + 5)) ⟨rfl, rfl, rfl, rfl, rfl, trivial⟩ hk
                        · rw [if_neg h69] at H
                          cases H
                      · rw [if_neg h68] at H
                        refine xp_ok htr 2 (d + 220) kc ks [eB true] 0 400 [some (.retAddr 0), some (.ref 0), some (.ref 53), some (.ref 92), some (.int i), some (.int v57), some (.int v61)] [] (hM p s65 t60) ⟨h68, ?_⟩
                        show xv l Ω (d + 220) kc ks 0 417 [some (.retAddr 0), some (.ref 0), some (.ref 53), some (.ref 92), some (.int i), some (.int v57), some (.int v61)] [] (hM p s65 t60) r
                        cases H
                        refine xp_ok htr 3 (d + 220) kc ks [] 0 417 [some (.retAddr 0), some (.ref 0), some (.ref 53), some (.ref 92), some (.int i), some (.int v57), some (.int v61)] [] (hM p s65 t60) ?_
                        show xv l Ω (d + 220) kc ks 0 23 [some (.retAddr 0), some (.ref 0), some (.ref 53), some (.ref 92), some (.int (i + 5)), some (.int v57), some (.int v61)] [] (hM p s65 t60) r
                        exact xv_sub (L' := xx_L0 (i + 5)) ⟨rfl, rfl, rfl, rfl, rfl, trivial⟩ hk
                    · rw [if_neg h67] at H
                      cases H
                  · rw [q66] at H; cases H
              · rw [q63] at H; cases H
    · rw [if_neg h54] at H
      refine xp_ok htr 7 (d + 220) (kc + 2) (ks + 12) [eB false] 0 324 [some (.retAddr 0), some (.ref 0), some (.ref 53), some (.ref 92), some (.int i), none, none] [] (hM p σ τ) ⟨(xn_in gu53), h54, ?_⟩
      show xv l Ω (d + 220) (kc + 2) (ks + 12) 0 334 [some (.retAddr 0), some (.ref 0), some (.ref 53), some (.ref 92), some (.int i), none, none] [.ref 0] (hM p σ τ) r
      cases gu70 : xn (i + 2) (xo_n Ω) with
      | false => rw [gu70, cond_false] at H; cases H
      | true =>
        rw [gu70, cond_true] at H
        refine xp_ok htr 8 (d + 220) (kc + 2) (ks + 12) [] 0 334 [some (.retAddr 0), some (.ref 0), some (.ref 53), some (.ref 92), some (.int i), none, none] [.ref 0] (hM p σ τ) ⟨(xn_in gu70), ?_⟩
        show xv l Ω (d + 220) (kc + 2) (ks + 12) 0 346 [some (.retAddr 0), some (.ref 0), some (.ref 53), some (.ref 92), some (.int i), none, none] [.retAddr 0, .int (xo_x Ω (Int32.toNatClampNeg (i + 2))), .int 1, .ref 0] (hM p σ τ) r
        cases gu71 : xn (i + 3) (xo_n Ω) with
        | false => rw [gu71, cond_false] at H; cases H
        | true =>
          rw [gu71, cond_true] at H
          cases q74 : g53 1 (xo_x Ω (Int32.toNatClampNeg (i + 2))) (xo_x Ω (Int32.toNatClampNeg (i + 3))) σ τ with
          | none => rw [q74] at H; cases H
          | some q740 =>
            obtain ⟨v72, s73, t75⟩ := q740
            rw [q74] at H; dsimp only at H
            have hc := g53_run (Ω := Ω) htr (d + 211) p τ 1 (xo_x Ω (Int32.toNatClampNeg (i + 2))) (xo_x Ω (Int32.toNatClampNeg (i + 3))) σ q74
            refine xp_ok htr 6 (d + 220) (kc + 2) (ks + 12) [eN (some (.int v72)) (hM p s73 t75) 2 12] 0 346 [some (.retAddr 0), some (.ref 0), some (.ref 53), some (.ref 92), some (.int i), none, none] [.retAddr 0, .int (xo_x Ω (Int32.toNatClampNeg (i + 2))), .int 1, .ref 0] (hM p σ τ) ⟨(xn_in gu71), hc, ?_⟩
            show xv l Ω (d + 220) kc ks 0 355 [some (.retAddr 0), some (.ref 0), some (.ref 53), some (.ref 92), some (.int i), none, none] [.int v72] (hM p s73 t75) r
            refine xp_ok htr 8 (d + 220) kc ks [eB false] 0 355 [some (.retAddr 0), some (.ref 0), some (.ref 53), some (.ref 92), some (.int i), none, none] [.int v72] (hM p s73 t75) ⟨(xn_in gu53), h54, ?_⟩
            show xv l Ω (d + 220) kc ks 0 367 [some (.retAddr 0), some (.ref 0), some (.ref 53), some (.ref 92), some (.int i), some (.int v72), none] [.ref 53] (hM p s73 t75) r
            refine xp_ok htr 8 (d + 220) kc ks [] 0 367 [some (.retAddr 0), some (.ref 0), some (.ref 53), some (.ref 92), some (.int i), some (.int v72), none] [.ref 53] (hM p s73 t75) ⟨(xn_in gu70), ?_⟩
            show xv l Ω (d + 220) kc ks 0 379 [some (.retAddr 0), some (.ref 0), some (.ref 53), some (.ref 92), some (.int i), some (.int v72), none] [.retAddr 0, .int (xo_x Ω (Int32.toNatClampNeg (i + 2))), .int 1, .ref 53] (hM p s73 t75) r
            cases q78 : g161 1 (xo_x Ω (Int32.toNatClampNeg (i + 2))) (xo_x Ω (Int32.toNatClampNeg (i + 3))) s73 with
            | none => rw [q78] at H; cases H
            | some q780 =>
              obtain ⟨v76 | v76, s77⟩ := q780
              · rw [q78] at H; dsimp only at H
                have hc := g161_run (Ω := Ω) htr (d + 217) p t75 1 (xo_x Ω (Int32.toNatClampNeg (i + 2))) (xo_x Ω (Int32.toNatClampNeg (i + 3))) s73 q78
                refine xp_ok htr 5 (d + 220) kc ks [eC (some (.int v76)) (hM p s77 t75)] 0 379 [some (.retAddr 0), some (.ref 0), some (.ref 53), some (.ref 92), some (.int i), some (.int v72), none] [.retAddr 0, .int (xo_x Ω (Int32.toNatClampNeg (i + 2))), .int 1, .ref 53] (hM p s73 t75) ⟨(xn_in gu71), hc, ?_⟩
                show xv l Ω (d + 220) kc ks 0 387 [some (.retAddr 0), some (.ref 0), some (.ref 53), some (.ref 92), some (.int i), some (.int v72), none] [.int v76] (hM p s77 t75) r
                cases q81 : g149  s77 with
                | none => rw [q81] at H; cases H
                | some q810 =>
                  obtain ⟨v79 | v79, s80⟩ := q810
                  · rw [q81] at H; dsimp only at H
                    have hc := g149_run (Ω := Ω) htr (d + 219) p t75  s77 q81
                    refine xp_ok htr 3 (d + 220) kc ks [eC (some (.int v79)) (hM p s80 t75)] 0 387 [some (.retAddr 0), some (.ref 0), some (.ref 53), some (.ref 92), some (.int i), some (.int v72), none] [.int v76] (hM p s77 t75) ⟨hc, ?_⟩
                    show xv l Ω (d + 220) kc ks 0 393 [some (.retAddr 0), some (.ref 0), some (.ref 53), some (.ref 92), some (.int i), some (.int v72), some (.int v76)] [.int v79] (hM p s80 t75) r
                    by_cases h82 : v79 = v72
                    · rw [if_pos h82] at H
                      refine xp_ok htr 2 (d + 220) kc ks [eB true] 0 393 [some (.retAddr 0), some (.ref 0), some (.ref 53), some (.ref 92), some (.int i), some (.int v72), some (.int v76)] [.int v79] (hM p s80 t75) ⟨h82, ?_⟩
                      show xv l Ω (d + 220) kc ks 0 400 [some (.retAddr 0), some (.ref 0), some (.ref 53), some (.ref 92), some (.int i), some (.int v72), some (.int v76)] [] (hM p s80 t75) r
                      by_cases h83 : v72 = 0
                      · rw [if_pos h83] at H
                        refine xp_ok htr 2 (d + 220) kc ks [eB false] 0 400 [some (.retAddr 0), some (.ref 0), some (.ref 53), some (.ref 92), some (.int i), some (.int v72), some (.int v76)] [] (hM p s80 t75) ⟨h83, ?_⟩
                        show xv l Ω (d + 220) kc ks 0 405 [some (.retAddr 0), some (.ref 0), some (.ref 53), some (.ref 92), some (.int i), some (.int v72), some (.int v76)] [] (hM p s80 t75) r
                        by_cases h84 : (lg_cmp (t75 92 0) (Int32.toInt64 v76)) = 0
                        · rw [if_pos h84] at H
                          refine xp_ok htr 7 (d + 220) kc ks [eB true] 0 405 [some (.retAddr 0), some (.ref 0), some (.ref 53), some (.ref 92), some (.int i), some (.int v72), some (.int v76)] [] (hM p s80 t75) ⟨(by unfold vp_in; decide), h84, ?_⟩
                          show xv l Ω (d + 220) kc ks 0 417 [some (.retAddr 0), some (.ref 0), some (.ref 53), some (.ref 92), some (.int i), some (.int v72), some (.int v76)] [] (hM p s80 t75) r
                          cases H
                          refine xp_ok htr 3 (d + 220) kc ks [] 0 417 [some (.retAddr 0), some (.ref 0), some (.ref 53), some (.ref 92), some (.int i), some (.int v72), some (.int v76)] [] (hM p s80 t75) ?_
                          show xv l Ω (d + 220) kc ks 0 23 [some (.retAddr 0), some (.ref 0), some (.ref 53), some (.ref 92), some (.int (i + 5)), some (.int v72), some (.int v76)] [] (hM p s80 t75) r
                          exact xv_sub (L' := xx_L0 (i + 5)) ⟨rfl, rfl, rfl, rfl, rfl, trivial⟩ hk
                        · rw [if_neg h84] at H
                          cases H
                      · rw [if_neg h83] at H
                        refine xp_ok htr 2 (d + 220) kc ks [eB true] 0 400 [some (.retAddr 0), some (.ref 0), some (.ref 53), some (.ref 92), some (.int i), some (.int v72), some (.int v76)] [] (hM p s80 t75) ⟨h83, ?_⟩
                        show xv l Ω (d + 220) kc ks 0 417 [some (.retAddr 0), some (.ref 0), some (.ref 53), some (.ref 92), some (.int i), some (.int v72), some (.int v76)] [] (hM p s80 t75) r
                        cases H
                        refine xp_ok htr 3 (d + 220) kc ks [] 0 417 [some (.retAddr 0), some (.ref 0), some (.ref 53), some (.ref 92), some (.int i), some (.int v72), some (.int v76)] [] (hM p s80 t75) ?_
                        show xv l Ω (d + 220) kc ks 0 23 [some (.retAddr 0), some (.ref 0), some (.ref 53), some (.ref 92), some (.int (i + 5)), some (.int v72), some (.int v76)] [] (hM p s80 t75) r
                        exact xv_sub (L' := xx_L0 (i + 5)) ⟨rfl, rfl, rfl, rfl, rfl, trivial⟩ hk
                    · rw [if_neg h82] at H
                      cases H
                  · rw [q81] at H; cases H
              · rw [q78] at H; cases H
def gL_5 (n : Nat) (xs : Nat → Int32) (p : Nat) (i : Int32) (σ : xS) (τ : xT) : Option (xS × xT × Nat) := (bif xn (i + 1) n then (bif xn (i + 2) n then (bif xn (i + 3) n then (if (xs (Int32.toNatClampNeg (i + 3))) = 0 then (match g58 (xs (Int32.toNatClampNeg (i + 1))) (xs (Int32.toNatClampNeg (i + 2))) 0 σ τ with | some (v89, s90, t92) => (match g162 (xs (Int32.toNatClampNeg (i + 1))) (xs (Int32.toNatClampNeg (i + 2))) 0 s90 with | some (Sum.inl v93, s94) => (match g149  s94 with | some (Sum.inl v96, s97) => (if v96 = v89 then some (s97, t92, p) else none) | some (Sum.inr _, _) => none | none => none) | some (Sum.inr _, _) => none | none => none) | none => none) else (match g58 (xs (Int32.toNatClampNeg (i + 1))) (xs (Int32.toNatClampNeg (i + 2))) 1 σ τ with | some (v100, s101, t103) => (match g162 (xs (Int32.toNatClampNeg (i + 1))) (xs (Int32.toNatClampNeg (i + 2))) 1 s101 with | some (Sum.inl v104, s105) => (match g149  s105 with | some (Sum.inl v107, s108) => (if v107 = v100 then some (s108, t103, p) else none) | some (Sum.inr _, _) => none | none => none) | some (Sum.inr _, _) => none | none => none) | none => none)) else none) else none) else none)
theorem gL_5_ok {l : Launch} {Ω : xo_O} (htr : xH l) (d kc ks : Nat) (p : Nat) (i : Int32) (σ : xS) (τ : xT) (r : xv_R) {q : xS × xT × Nat} (H : gL_5 (xo_n Ω) (xo_x Ω) p i σ τ = some q) (hk : xv l Ω (d + 220) kc ks 0 23 (xx_L0 (i + 5)) [] (hM q.2.2 q.1 q.2.1) r) : xv l Ω (d + 220) (kc + 1) (ks + 6) 0 420 (xx_L0 i) [] (hM p σ τ) r := by
  unfold gL_5 at H
  cases gu85 : xn (i + 1) (xo_n Ω) with
  | false => rw [gu85, cond_false] at H; cases H
  | true =>
    rw [gu85, cond_true] at H
    refine xp_ok htr 8 (d + 220) (kc + 1) (ks + 6) [] 0 420 [some (.retAddr 0), some (.ref 0), some (.ref 53), some (.ref 92), some (.int i), none, none] [] (hM p σ τ) ⟨(xn_in gu85), ?_⟩
    show xv l Ω (d + 220) (kc + 1) (ks + 6) 0 430 [some (.retAddr 0), some (.ref 0), some (.ref 53), some (.ref 92), some (.int i), none, none] [.int i, .retAddr 0, .int (xo_x Ω (Int32.toNatClampNeg (i + 1))), .ref 0] (hM p σ τ) r
    cases gu86 : xn (i + 2) (xo_n Ω) with
    | false => rw [gu86, cond_false] at H; cases H
    | true =>
      rw [gu86, cond_true] at H
      cases gu87 : xn (i + 3) (xo_n Ω) with
      | false => rw [gu87, cond_false] at H; cases H
      | true =>
        rw [gu87, cond_true] at H
        refine xp_ok htr 8 (d + 220) (kc + 1) (ks + 6) [] 0 430 [some (.retAddr 0), some (.ref 0), some (.ref 53), some (.ref 92), some (.int i), none, none] [.int i, .retAddr 0, .int (xo_x Ω (Int32.toNatClampNeg (i + 1))), .ref 0] (hM p σ τ) ⟨(xn_in gu86), (xn_in gu87), ?_⟩
        show xv l Ω (d + 220) (kc + 1) (ks + 6) 0 439 [some (.retAddr 0), some (.ref 0), some (.ref 53), some (.ref 92), some (.int i), none, none] [.int (xo_x Ω (Int32.toNatClampNeg (i + 3))), .int (xo_x Ω (Int32.toNatClampNeg (i + 2))), .int (xo_x Ω (Int32.toNatClampNeg (i + 1))), .ref 0] (hM p σ τ) r
        by_cases h88 : (xo_x Ω (Int32.toNatClampNeg (i + 3))) = 0
        · rw [if_pos h88] at H
          refine xp_ok htr 1 (d + 220) (kc + 1) (ks + 6) [eB true] 0 439 [some (.retAddr 0), some (.ref 0), some (.ref 53), some (.ref 92), some (.int i), none, none] [.int (xo_x Ω (Int32.toNatClampNeg (i + 3))), .int (xo_x Ω (Int32.toNatClampNeg (i + 2))), .int (xo_x Ω (Int32.toNatClampNeg (i + 1))), .ref 0] (hM p σ τ) ⟨h88, ?_⟩
          show xv l Ω (d + 220) (kc + 1) (ks + 6) 0 446 [some (.retAddr 0), some (.ref 0), some (.ref 53), some (.ref 92), some (.int i), none, none] [.int (xo_x Ω (Int32.toNatClampNeg (i + 2))), .int (xo_x Ω (Int32.toNatClampNeg (i + 1))), .ref 0] (hM p σ τ) r
          cases q91 : g58 (xo_x Ω (Int32.toNatClampNeg (i + 1))) (xo_x Ω (Int32.toNatClampNeg (i + 2))) 0 σ τ with
          | none => rw [q91] at H; cases H
          | some q910 =>
            obtain ⟨v89, s90, t92⟩ := q910
            rw [q91] at H; dsimp only at H
            have hc := g58_run (Ω := Ω) htr (d + 211) p τ (xo_x Ω (Int32.toNatClampNeg (i + 1))) (xo_x Ω (Int32.toNatClampNeg (i + 2))) 0 σ q91
            refine xp_ok htr 2 (d + 220) (kc + 1) (ks + 6) [eN (some (.int v89)) (hM p s90 t92) 1 6] 0 446 [some (.retAddr 0), some (.ref 0), some (.ref 53), some (.ref 92), some (.int i), none, none] [.int (xo_x Ω (Int32.toNatClampNeg (i + 2))), .int (xo_x Ω (Int32.toNatClampNeg (i + 1))), .ref 0] (hM p σ τ) ⟨hc, ?_⟩
            show xv l Ω (d + 220) kc ks 0 450 [some (.retAddr 0), some (.ref 0), some (.ref 53), some (.ref 92), some (.int i), none, none] [.int v89] (hM p s90 t92) r
            refine xp_ok htr 8 (d + 220) kc ks [] 0 450 [some (.retAddr 0), some (.ref 0), some (.ref 53), some (.ref 92), some (.int i), none, none] [.int v89] (hM p s90 t92) ⟨(xn_in gu85), ?_⟩
            show xv l Ω (d + 220) kc ks 0 460 [some (.retAddr 0), some (.ref 0), some (.ref 53), some (.ref 92), some (.int i), some (.int v89), none] [.retAddr 0, .int (xo_x Ω (Int32.toNatClampNeg (i + 1))), .ref 53] (hM p s90 t92) r
            refine xp_ok htr 8 (d + 220) kc ks [] 0 460 [some (.retAddr 0), some (.ref 0), some (.ref 53), some (.ref 92), some (.int i), some (.int v89), none] [.retAddr 0, .int (xo_x Ω (Int32.toNatClampNeg (i + 1))), .ref 53] (hM p s90 t92) ⟨(xn_in gu86), ?_⟩
            show xv l Ω (d + 220) kc ks 0 470 [some (.retAddr 0), some (.ref 0), some (.ref 53), some (.ref 92), some (.int i), some (.int v89), none] [.int (i + 3), .retAddr 0, .int (xo_x Ω (Int32.toNatClampNeg (i + 2))), .int (xo_x Ω (Int32.toNatClampNeg (i + 1))), .ref 53] (hM p s90 t92) r
            refine xp_ok htr 2 (d + 220) kc ks [eB true] 0 470 [some (.retAddr 0), some (.ref 0), some (.ref 53), some (.ref 92), some (.int i), some (.int v89), none] [.int (i + 3), .retAddr 0, .int (xo_x Ω (Int32.toNatClampNeg (i + 2))), .int (xo_x Ω (Int32.toNatClampNeg (i + 1))), .ref 53] (hM p s90 t92) ⟨(xn_in gu87), h88, ?_⟩
            show xv l Ω (d + 220) kc ks 0 478 [some (.retAddr 0), some (.ref 0), some (.ref 53), some (.ref 92), some (.int i), some (.int v89), none] [.int (xo_x Ω (Int32.toNatClampNeg (i + 2))), .int (xo_x Ω (Int32.toNatClampNeg (i + 1))), .ref 53] (hM p s90 t92) r
            cases q95 : g162 (xo_x Ω (Int32.toNatClampNeg (i + 1))) (xo_x Ω (Int32.toNatClampNeg (i + 2))) 0 s90 with
            | none => rw [q95] at H; cases H
            | some q950 =>
              obtain ⟨v93 | v93, s94⟩ := q950
              · rw [q95] at H; dsimp only at H
                have hc := g162_run (Ω := Ω) htr (d + 218) p t92 (xo_x Ω (Int32.toNatClampNeg (i + 1))) (xo_x Ω (Int32.toNatClampNeg (i + 2))) 0 s90 q95
                refine xp_ok htr 2 (d + 220) kc ks [eC none (hM p s94 t92)] 0 478 [some (.retAddr 0), some (.ref 0), some (.ref 53), some (.ref 92), some (.int i), some (.int v89), none] [.int (xo_x Ω (Int32.toNatClampNeg (i + 2))), .int (xo_x Ω (Int32.toNatClampNeg (i + 1))), .ref 53] (hM p s90 t92) ⟨hc, ?_⟩
                show xv l Ω (d + 220) kc ks 0 482 [some (.retAddr 0), some (.ref 0), some (.ref 53), some (.ref 92), some (.int i), some (.int v89), none] [] (hM p s94 t92) r
                cases q98 : g149  s94 with
                | none => rw [q98] at H; cases H
                | some q980 =>
                  obtain ⟨v96 | v96, s97⟩ := q980
                  · rw [q98] at H; dsimp only at H
                    have hc := g149_run (Ω := Ω) htr (d + 219) p t92  s94 q98
                    refine xp_ok htr 2 (d + 220) kc ks [eC (some (.int v96)) (hM p s97 t92)] 0 482 [some (.retAddr 0), some (.ref 0), some (.ref 53), some (.ref 92), some (.int i), some (.int v89), none] [] (hM p s94 t92) ⟨hc, ?_⟩
                    show xv l Ω (d + 220) kc ks 0 486 [some (.retAddr 0), some (.ref 0), some (.ref 53), some (.ref 92), some (.int i), some (.int v89), none] [.int v96] (hM p s97 t92) r
                    by_cases h99 : v96 = v89
                    · rw [if_pos h99] at H
                      refine xp_ok htr 2 (d + 220) kc ks [eB true] 0 486 [some (.retAddr 0), some (.ref 0), some (.ref 53), some (.ref 92), some (.int i), some (.int v89), none] [.int v96] (hM p s97 t92) ⟨h99, ?_⟩
                      show xv l Ω (d + 220) kc ks 0 493 [some (.retAddr 0), some (.ref 0), some (.ref 53), some (.ref 92), some (.int i), some (.int v89), none] [] (hM p s97 t92) r
                      cases H
                      refine xp_ok htr 3 (d + 220) kc ks [] 0 493 [some (.retAddr 0), some (.ref 0), some (.ref 53), some (.ref 92), some (.int i), some (.int v89), none] [] (hM p s97 t92) ?_
                      show xv l Ω (d + 220) kc ks 0 23 [some (.retAddr 0), some (.ref 0), some (.ref 53), some (.ref 92), some (.int (i + 5)), some (.int v89), none] [] (hM p s97 t92) r
                      exact xv_sub (L' := xx_L0 (i + 5)) ⟨rfl, rfl, rfl, rfl, rfl, trivial⟩ hk
                    · rw [if_neg h99] at H
                      cases H
                  · rw [q98] at H; cases H
              · rw [q95] at H; cases H
        · rw [if_neg h88] at H
          refine xp_ok htr 1 (d + 220) (kc + 1) (ks + 6) [eB false] 0 439 [some (.retAddr 0), some (.ref 0), some (.ref 53), some (.ref 92), some (.int i), none, none] [.int (xo_x Ω (Int32.toNatClampNeg (i + 3))), .int (xo_x Ω (Int32.toNatClampNeg (i + 2))), .int (xo_x Ω (Int32.toNatClampNeg (i + 1))), .ref 0] (hM p σ τ) ⟨h88, ?_⟩
          show xv l Ω (d + 220) (kc + 1) (ks + 6) 0 442 [some (.retAddr 0), some (.ref 0), some (.ref 53), some (.ref 92), some (.int i), none, none] [.int (xo_x Ω (Int32.toNatClampNeg (i + 2))), .int (xo_x Ω (Int32.toNatClampNeg (i + 1))), .ref 0] (hM p σ τ) r
          cases q102 : g58 (xo_x Ω (Int32.toNatClampNeg (i + 1))) (xo_x Ω (Int32.toNatClampNeg (i + 2))) 1 σ τ with
          | none => rw [q102] at H; cases H
          | some q1020 =>
            obtain ⟨v100, s101, t103⟩ := q1020
            rw [q102] at H; dsimp only at H
            have hc := g58_run (Ω := Ω) htr (d + 211) p τ (xo_x Ω (Int32.toNatClampNeg (i + 1))) (xo_x Ω (Int32.toNatClampNeg (i + 2))) 1 σ q102
            refine xp_ok htr 3 (d + 220) (kc + 1) (ks + 6) [eN (some (.int v100)) (hM p s101 t103) 1 6] 0 442 [some (.retAddr 0), some (.ref 0), some (.ref 53), some (.ref 92), some (.int i), none, none] [.int (xo_x Ω (Int32.toNatClampNeg (i + 2))), .int (xo_x Ω (Int32.toNatClampNeg (i + 1))), .ref 0] (hM p σ τ) ⟨hc, ?_⟩
            show xv l Ω (d + 220) kc ks 0 450 [some (.retAddr 0), some (.ref 0), some (.ref 53), some (.ref 92), some (.int i), none, none] [.int v100] (hM p s101 t103) r
            refine xp_ok htr 8 (d + 220) kc ks [] 0 450 [some (.retAddr 0), some (.ref 0), some (.ref 53), some (.ref 92), some (.int i), none, none] [.int v100] (hM p s101 t103) ⟨(xn_in gu85), ?_⟩
            show xv l Ω (d + 220) kc ks 0 460 [some (.retAddr 0), some (.ref 0), some (.ref 53), some (.ref 92), some (.int i), some (.int v100), none] [.retAddr 0, .int (xo_x Ω (Int32.toNatClampNeg (i + 1))), .ref 53] (hM p s101 t103) r
            refine xp_ok htr 8 (d + 220) kc ks [] 0 460 [some (.retAddr 0), some (.ref 0), some (.ref 53), some (.ref 92), some (.int i), some (.int v100), none] [.retAddr 0, .int (xo_x Ω (Int32.toNatClampNeg (i + 1))), .ref 53] (hM p s101 t103) ⟨(xn_in gu86), ?_⟩
            show xv l Ω (d + 220) kc ks 0 470 [some (.retAddr 0), some (.ref 0), some (.ref 53), some (.ref 92), some (.int i), some (.int v100), none] [.int (i + 3), .retAddr 0, .int (xo_x Ω (Int32.toNatClampNeg (i + 2))), .int (xo_x Ω (Int32.toNatClampNeg (i + 1))), .ref 53] (hM p s101 t103) r
            refine xp_ok htr 2 (d + 220) kc ks [eB false] 0 470 [some (.retAddr 0), some (.ref 0), some (.ref 53), some (.ref 92), some (.int i), some (.int v100), none] [.int (i + 3), .retAddr 0, .int (xo_x Ω (Int32.toNatClampNeg (i + 2))), .int (xo_x Ω (Int32.toNatClampNeg (i + 1))), .ref 53] (hM p s101 t103) ⟨(xn_in gu87), h88, ?_⟩
            show xv l Ω (d + 220) kc ks 0 474 [some (.retAddr 0), some (.ref 0), some (.ref 53), some (.ref 92), some (.int i), some (.int v100), none] [.int (xo_x Ω (Int32.toNatClampNeg (i + 2))), .int (xo_x Ω (Int32.toNatClampNeg (i + 1))), .ref 53] (hM p s101 t103) r
            cases q106 : g162 (xo_x Ω (Int32.toNatClampNeg (i + 1))) (xo_x Ω (Int32.toNatClampNeg (i + 2))) 1 s101 with
            | none => rw [q106] at H; cases H
            | some q1060 =>
              obtain ⟨v104 | v104, s105⟩ := q1060
              · rw [q106] at H; dsimp only at H
                have hc := g162_run (Ω := Ω) htr (d + 218) p t103 (xo_x Ω (Int32.toNatClampNeg (i + 1))) (xo_x Ω (Int32.toNatClampNeg (i + 2))) 1 s101 q106
                refine xp_ok htr 3 (d + 220) kc ks [eC none (hM p s105 t103)] 0 474 [some (.retAddr 0), some (.ref 0), some (.ref 53), some (.ref 92), some (.int i), some (.int v100), none] [.int (xo_x Ω (Int32.toNatClampNeg (i + 2))), .int (xo_x Ω (Int32.toNatClampNeg (i + 1))), .ref 53] (hM p s101 t103) ⟨hc, ?_⟩
                show xv l Ω (d + 220) kc ks 0 482 [some (.retAddr 0), some (.ref 0), some (.ref 53), some (.ref 92), some (.int i), some (.int v100), none] [] (hM p s105 t103) r
                cases q109 : g149  s105 with
                | none => rw [q109] at H; cases H
                | some q1090 =>
                  obtain ⟨v107 | v107, s108⟩ := q1090
                  · rw [q109] at H; dsimp only at H
                    have hc := g149_run (Ω := Ω) htr (d + 219) p t103  s105 q109
                    refine xp_ok htr 2 (d + 220) kc ks [eC (some (.int v107)) (hM p s108 t103)] 0 482 [some (.retAddr 0), some (.ref 0), some (.ref 53), some (.ref 92), some (.int i), some (.int v100), none] [] (hM p s105 t103) ⟨hc, ?_⟩
                    show xv l Ω (d + 220) kc ks 0 486 [some (.retAddr 0), some (.ref 0), some (.ref 53), some (.ref 92), some (.int i), some (.int v100), none] [.int v107] (hM p s108 t103) r
                    by_cases h110 : v107 = v100
                    · rw [if_pos h110] at H
                      refine xp_ok htr 2 (d + 220) kc ks [eB true] 0 486 [some (.retAddr 0), some (.ref 0), some (.ref 53), some (.ref 92), some (.int i), some (.int v100), none] [.int v107] (hM p s108 t103) ⟨h110, ?_⟩
                      show xv l Ω (d + 220) kc ks 0 493 [some (.retAddr 0), some (.ref 0), some (.ref 53), some (.ref 92), some (.int i), some (.int v100), none] [] (hM p s108 t103) r
                      cases H
                      refine xp_ok htr 3 (d + 220) kc ks [] 0 493 [some (.retAddr 0), some (.ref 0), some (.ref 53), some (.ref 92), some (.int i), some (.int v100), none] [] (hM p s108 t103) ?_
                      show xv l Ω (d + 220) kc ks 0 23 [some (.retAddr 0), some (.ref 0), some (.ref 53), some (.ref 92), some (.int (i + 5)), some (.int v100), none] [] (hM p s108 t103) r
                      exact xv_sub (L' := xx_L0 (i + 5)) ⟨rfl, rfl, rfl, rfl, rfl, trivial⟩ hk
                    · rw [if_neg h110] at H
                      cases H
                  · rw [q109] at H; cases H
              · rw [q106] at H; cases H
def gL_6 (n : Nat) (xs : Nat → Int32) (p : Nat) (i : Int32) (σ : xS) (τ : xT) : Option (xS × xT × Nat) := (bif xn (i + 1) n then (bif xn (i + 2) n then (match g61 (xs (Int32.toNatClampNeg (i + 1))) (xs (Int32.toNatClampNeg (i + 2))) σ τ with | some (v113, s114, t116) => (match g163 (xs (Int32.toNatClampNeg (i + 1))) (xs (Int32.toNatClampNeg (i + 2))) s114 with | some (Sum.inl v117, s118) => (match g149  s118 with | some (Sum.inl v120, s121) => (if v120 = v113 then some (s121, t116, p) else none) | some (Sum.inr _, _) => none | none => none) | some (Sum.inr _, _) => none | none => none) | none => none) else none) else none)
theorem gL_6_ok {l : Launch} {Ω : xo_O} (htr : xH l) (d kc ks : Nat) (p : Nat) (i : Int32) (σ : xS) (τ : xT) (r : xv_R) {q : xS × xT × Nat} (H : gL_6 (xo_n Ω) (xo_x Ω) p i σ τ = some q) (hk : xv l Ω (d + 220) kc ks 0 23 (xx_L0 (i + 5)) [] (hM q.2.2 q.1 q.2.1) r) : xv l Ω (d + 220) (kc + 2) (ks + 12) 0 496 (xx_L0 i) [] (hM p σ τ) r := by
  unfold gL_6 at H
  cases gu111 : xn (i + 1) (xo_n Ω) with
  | false => rw [gu111, cond_false] at H; cases H
  | true =>
    rw [gu111, cond_true] at H
    refine xp_ok htr 8 (d + 220) (kc + 2) (ks + 12) [] 0 496 [some (.retAddr 0), some (.ref 0), some (.ref 53), some (.ref 92), some (.int i), none, none] [] (hM p σ τ) ⟨(xn_in gu111), ?_⟩
    show xv l Ω (d + 220) (kc + 2) (ks + 12) 0 506 [some (.retAddr 0), some (.ref 0), some (.ref 53), some (.ref 92), some (.int i), none, none] [.int i, .retAddr 0, .int (xo_x Ω (Int32.toNatClampNeg (i + 1))), .ref 0] (hM p σ τ) r
    cases gu112 : xn (i + 2) (xo_n Ω) with
    | false => rw [gu112, cond_false] at H; cases H
    | true =>
      rw [gu112, cond_true] at H
      cases q115 : g61 (xo_x Ω (Int32.toNatClampNeg (i + 1))) (xo_x Ω (Int32.toNatClampNeg (i + 2))) σ τ with
      | none => rw [q115] at H; cases H
      | some q1150 =>
        obtain ⟨v113, s114, t116⟩ := q1150
        rw [q115] at H; dsimp only at H
        have hc := g61_run (Ω := Ω) htr (d + 211) p τ (xo_x Ω (Int32.toNatClampNeg (i + 1))) (xo_x Ω (Int32.toNatClampNeg (i + 2))) σ q115
        refine xp_ok htr 4 (d + 220) (kc + 2) (ks + 12) [eN (some (.int v113)) (hM p s114 t116) 2 12] 0 506 [some (.retAddr 0), some (.ref 0), some (.ref 53), some (.ref 92), some (.int i), none, none] [.int i, .retAddr 0, .int (xo_x Ω (Int32.toNatClampNeg (i + 1))), .ref 0] (hM p σ τ) ⟨(xn_in gu112), hc, ?_⟩
        show xv l Ω (d + 220) kc ks 0 512 [some (.retAddr 0), some (.ref 0), some (.ref 53), some (.ref 92), some (.int i), none, none] [.int v113] (hM p s114 t116) r
        refine xp_ok htr 8 (d + 220) kc ks [] 0 512 [some (.retAddr 0), some (.ref 0), some (.ref 53), some (.ref 92), some (.int i), none, none] [.int v113] (hM p s114 t116) ⟨(xn_in gu111), ?_⟩
        show xv l Ω (d + 220) kc ks 0 522 [some (.retAddr 0), some (.ref 0), some (.ref 53), some (.ref 92), some (.int i), some (.int v113), none] [.retAddr 0, .int (xo_x Ω (Int32.toNatClampNeg (i + 1))), .ref 53] (hM p s114 t116) r
        cases q119 : g163 (xo_x Ω (Int32.toNatClampNeg (i + 1))) (xo_x Ω (Int32.toNatClampNeg (i + 2))) s114 with
        | none => rw [q119] at H; cases H
        | some q1190 =>
          obtain ⟨v117 | v117, s118⟩ := q1190
          · rw [q119] at H; dsimp only at H
            have hc := g163_run (Ω := Ω) htr (d + 218) p t116 (xo_x Ω (Int32.toNatClampNeg (i + 1))) (xo_x Ω (Int32.toNatClampNeg (i + 2))) s114 q119
            refine xp_ok htr 5 (d + 220) kc ks [eC none (hM p s118 t116)] 0 522 [some (.retAddr 0), some (.ref 0), some (.ref 53), some (.ref 92), some (.int i), some (.int v113), none] [.retAddr 0, .int (xo_x Ω (Int32.toNatClampNeg (i + 1))), .ref 53] (hM p s114 t116) ⟨(xn_in gu112), hc, ?_⟩
            show xv l Ω (d + 220) kc ks 0 530 [some (.retAddr 0), some (.ref 0), some (.ref 53), some (.ref 92), some (.int i), some (.int v113), none] [] (hM p s118 t116) r
            cases q122 : g149  s118 with
            | none => rw [q122] at H; cases H
            | some q1220 =>
              obtain ⟨v120 | v120, s121⟩ := q1220
              · rw [q122] at H; dsimp only at H
                have hc := g149_run (Ω := Ω) htr (d + 219) p t116  s118 q122
                refine xp_ok htr 2 (d + 220) kc ks [eC (some (.int v120)) (hM p s121 t116)] 0 530 [some (.retAddr 0), some (.ref 0), some (.ref 53), some (.ref 92), some (.int i), some (.int v113), none] [] (hM p s118 t116) ⟨hc, ?_⟩
                show xv l Ω (d + 220) kc ks 0 534 [some (.retAddr 0), some (.ref 0), some (.ref 53), some (.ref 92), some (.int i), some (.int v113), none] [.int v120] (hM p s121 t116) r
                by_cases h123 : v120 = v113
                · rw [if_pos h123] at H
                  refine xp_ok htr 2 (d + 220) kc ks [eB true] 0 534 [some (.retAddr 0), some (.ref 0), some (.ref 53), some (.ref 92), some (.int i), some (.int v113), none] [.int v120] (hM p s121 t116) ⟨h123, ?_⟩
                  show xv l Ω (d + 220) kc ks 0 541 [some (.retAddr 0), some (.ref 0), some (.ref 53), some (.ref 92), some (.int i), some (.int v113), none] [] (hM p s121 t116) r
                  cases H
                  refine xp_ok htr 3 (d + 220) kc ks [] 0 541 [some (.retAddr 0), some (.ref 0), some (.ref 53), some (.ref 92), some (.int i), some (.int v113), none] [] (hM p s121 t116) ?_
                  show xv l Ω (d + 220) kc ks 0 23 [some (.retAddr 0), some (.ref 0), some (.ref 53), some (.ref 92), some (.int (i + 5)), some (.int v113), none] [] (hM p s121 t116) r
                  exact xv_sub (L' := xx_L0 (i + 5)) ⟨rfl, rfl, rfl, rfl, rfl, trivial⟩ hk
                · rw [if_neg h123] at H
                  cases H
              · rw [q122] at H; cases H
          · rw [q119] at H; cases H
def gL_7 (n : Nat) (xs : Nat → Int32) (p : Nat) (i : Int32) (σ : xS) (τ : xT) : Option (xS × xT × Nat) := (bif xn (i + 1) n then (match g65 (xs (Int32.toNatClampNeg (i + 1))) σ τ with | some (v125, s126, t128) => (match g164 (xs (Int32.toNatClampNeg (i + 1))) s126 with | some (Sum.inl v129, s130) => (match g149  s130 with | some (Sum.inl v132, s133) => (if v132 = v125 then some (s133, t128, p) else none) | some (Sum.inr _, _) => none | none => none) | some (Sum.inr _, _) => none | none => none) | none => none) else none)
theorem gL_7_ok {l : Launch} {Ω : xo_O} (htr : xH l) (d kc ks : Nat) (p : Nat) (i : Int32) (σ : xS) (τ : xT) (r : xv_R) {q : xS × xT × Nat} (H : gL_7 (xo_n Ω) (xo_x Ω) p i σ τ = some q) (hk : xv l Ω (d + 220) kc ks 0 23 (xx_L0 (i + 5)) [] (hM q.2.2 q.1 q.2.1) r) : xv l Ω (d + 220) (kc + 2) (ks + 12) 0 544 (xx_L0 i) [] (hM p σ τ) r := by
  unfold gL_7 at H
  cases gu124 : xn (i + 1) (xo_n Ω) with
  | false => rw [gu124, cond_false] at H; cases H
  | true =>
    rw [gu124, cond_true] at H
    cases q127 : g65 (xo_x Ω (Int32.toNatClampNeg (i + 1))) σ τ with
    | none => rw [q127] at H; cases H
    | some q1270 =>
      obtain ⟨v125, s126, t128⟩ := q1270
      rw [q127] at H; dsimp only at H
      have hc := g65_run (Ω := Ω) htr (d + 211) p τ (xo_x Ω (Int32.toNatClampNeg (i + 1))) σ q127
      refine xp_ok htr 7 (d + 220) (kc + 2) (ks + 12) [eN (some (.int v125)) (hM p s126 t128) 2 12] 0 544 [some (.retAddr 0), some (.ref 0), some (.ref 53), some (.ref 92), some (.int i), none, none] [] (hM p σ τ) ⟨(xn_in gu124), hc, ?_⟩
      show xv l Ω (d + 220) kc ks 0 554 [some (.retAddr 0), some (.ref 0), some (.ref 53), some (.ref 92), some (.int i), none, none] [.int v125] (hM p s126 t128) r
      cases q131 : g164 (xo_x Ω (Int32.toNatClampNeg (i + 1))) s126 with
      | none => rw [q131] at H; cases H
      | some q1310 =>
        obtain ⟨v129 | v129, s130⟩ := q1310
        · rw [q131] at H; dsimp only at H
          have hc := g164_run (Ω := Ω) htr (d + 218) p t128 (xo_x Ω (Int32.toNatClampNeg (i + 1))) s126 q131
          refine xp_ok htr 8 (d + 220) kc ks [eC none (hM p s130 t128)] 0 554 [some (.retAddr 0), some (.ref 0), some (.ref 53), some (.ref 92), some (.int i), none, none] [.int v125] (hM p s126 t128) ⟨(xn_in gu124), hc, ?_⟩
          show xv l Ω (d + 220) kc ks 0 566 [some (.retAddr 0), some (.ref 0), some (.ref 53), some (.ref 92), some (.int i), some (.int v125), none] [] (hM p s130 t128) r
          cases q134 : g149  s130 with
          | none => rw [q134] at H; cases H
          | some q1340 =>
            obtain ⟨v132 | v132, s133⟩ := q1340
            · rw [q134] at H; dsimp only at H
              have hc := g149_run (Ω := Ω) htr (d + 219) p t128  s130 q134
              refine xp_ok htr 2 (d + 220) kc ks [eC (some (.int v132)) (hM p s133 t128)] 0 566 [some (.retAddr 0), some (.ref 0), some (.ref 53), some (.ref 92), some (.int i), some (.int v125), none] [] (hM p s130 t128) ⟨hc, ?_⟩
              show xv l Ω (d + 220) kc ks 0 570 [some (.retAddr 0), some (.ref 0), some (.ref 53), some (.ref 92), some (.int i), some (.int v125), none] [.int v132] (hM p s133 t128) r
              by_cases h135 : v132 = v125
              · rw [if_pos h135] at H
                refine xp_ok htr 2 (d + 220) kc ks [eB true] 0 570 [some (.retAddr 0), some (.ref 0), some (.ref 53), some (.ref 92), some (.int i), some (.int v125), none] [.int v132] (hM p s133 t128) ⟨h135, ?_⟩
                show xv l Ω (d + 220) kc ks 0 577 [some (.retAddr 0), some (.ref 0), some (.ref 53), some (.ref 92), some (.int i), some (.int v125), none] [] (hM p s133 t128) r
                cases H
                refine xp_ok htr 3 (d + 220) kc ks [] 0 577 [some (.retAddr 0), some (.ref 0), some (.ref 53), some (.ref 92), some (.int i), some (.int v125), none] [] (hM p s133 t128) ?_
                show xv l Ω (d + 220) kc ks 0 23 [some (.retAddr 0), some (.ref 0), some (.ref 53), some (.ref 92), some (.int (i + 5)), some (.int v125), none] [] (hM p s133 t128) r
                exact xv_sub (L' := xx_L0 (i + 5)) ⟨rfl, rfl, rfl, rfl, rfl, trivial⟩ hk
              · rw [if_neg h135] at H
                cases H
            · rw [q134] at H; cases H
        · rw [q131] at H; cases H
def gL_8 (n : Nat) (xs : Nat → Int32) (p : Nat) (i : Int32) (σ : xS) (τ : xT) : Option (xS × xT × Nat) := (bif xn (i + 1) n then (bif xn (i + 2) n then (bif xn (i + 3) n then (if (xs (Int32.toNatClampNeg (i + 3))) = 0 then (match g68 (xs (Int32.toNatClampNeg (i + 1))) (xs (Int32.toNatClampNeg (i + 2))) 0 σ τ with | some (v140, s141, t143) => (match g165 (xs (Int32.toNatClampNeg (i + 1))) (xs (Int32.toNatClampNeg (i + 2))) 0 s141 with | some (Sum.inl v144, s145) => (match g149  s145 with | some (Sum.inl v147, s148) => (if v147 = v140 then some (s148, t143, p) else none) | some (Sum.inr _, _) => none | none => none) | some (Sum.inr _, _) => none | none => none) | none => none) else (match g68 (xs (Int32.toNatClampNeg (i + 1))) (xs (Int32.toNatClampNeg (i + 2))) 1 σ τ with | some (v151, s152, t154) => (match g165 (xs (Int32.toNatClampNeg (i + 1))) (xs (Int32.toNatClampNeg (i + 2))) 1 s152 with | some (Sum.inl v155, s156) => (match g149  s156 with | some (Sum.inl v158, s159) => (if v158 = v151 then some (s159, t154, p) else none) | some (Sum.inr _, _) => none | none => none) | some (Sum.inr _, _) => none | none => none) | none => none)) else none) else none) else none)
theorem gL_8_ok {l : Launch} {Ω : xo_O} (htr : xH l) (d kc ks : Nat) (p : Nat) (i : Int32) (σ : xS) (τ : xT) (r : xv_R) {q : xS × xT × Nat} (H : gL_8 (xo_n Ω) (xo_x Ω) p i σ τ = some q) (hk : xv l Ω (d + 220) kc ks 0 23 (xx_L0 (i + 5)) [] (hM q.2.2 q.1 q.2.1) r) : xv l Ω (d + 220) (kc + 4) (ks + 24) 0 580 (xx_L0 i) [] (hM p σ τ) r := by
  unfold gL_8 at H
  cases gu136 : xn (i + 1) (xo_n Ω) with
  | false => rw [gu136, cond_false] at H; cases H
  | true =>
    rw [gu136, cond_true] at H
    refine xp_ok htr 8 (d + 220) (kc + 4) (ks + 24) [] 0 580 [some (.retAddr 0), some (.ref 0), some (.ref 53), some (.ref 92), some (.int i), none, none] [] (hM p σ τ) ⟨(xn_in gu136), ?_⟩
    show xv l Ω (d + 220) (kc + 4) (ks + 24) 0 590 [some (.retAddr 0), some (.ref 0), some (.ref 53), some (.ref 92), some (.int i), none, none] [.int i, .retAddr 0, .int (xo_x Ω (Int32.toNatClampNeg (i + 1))), .ref 0] (hM p σ τ) r
    cases gu137 : xn (i + 2) (xo_n Ω) with
    | false => rw [gu137, cond_false] at H; cases H
    | true =>
      rw [gu137, cond_true] at H
      cases gu138 : xn (i + 3) (xo_n Ω) with
      | false => rw [gu138, cond_false] at H; cases H
      | true =>
        rw [gu138, cond_true] at H
        refine xp_ok htr 8 (d + 220) (kc + 4) (ks + 24) [] 0 590 [some (.retAddr 0), some (.ref 0), some (.ref 53), some (.ref 92), some (.int i), none, none] [.int i, .retAddr 0, .int (xo_x Ω (Int32.toNatClampNeg (i + 1))), .ref 0] (hM p σ τ) ⟨(xn_in gu137), (xn_in gu138), ?_⟩
        show xv l Ω (d + 220) (kc + 4) (ks + 24) 0 599 [some (.retAddr 0), some (.ref 0), some (.ref 53), some (.ref 92), some (.int i), none, none] [.int (xo_x Ω (Int32.toNatClampNeg (i + 3))), .int (xo_x Ω (Int32.toNatClampNeg (i + 2))), .int (xo_x Ω (Int32.toNatClampNeg (i + 1))), .ref 0] (hM p σ τ) r
        by_cases h139 : (xo_x Ω (Int32.toNatClampNeg (i + 3))) = 0
        · rw [if_pos h139] at H
          refine xp_ok htr 1 (d + 220) (kc + 4) (ks + 24) [eB true] 0 599 [some (.retAddr 0), some (.ref 0), some (.ref 53), some (.ref 92), some (.int i), none, none] [.int (xo_x Ω (Int32.toNatClampNeg (i + 3))), .int (xo_x Ω (Int32.toNatClampNeg (i + 2))), .int (xo_x Ω (Int32.toNatClampNeg (i + 1))), .ref 0] (hM p σ τ) ⟨h139, ?_⟩
          show xv l Ω (d + 220) (kc + 4) (ks + 24) 0 606 [some (.retAddr 0), some (.ref 0), some (.ref 53), some (.ref 92), some (.int i), none, none] [.int (xo_x Ω (Int32.toNatClampNeg (i + 2))), .int (xo_x Ω (Int32.toNatClampNeg (i + 1))), .ref 0] (hM p σ τ) r
          cases q142 : g68 (xo_x Ω (Int32.toNatClampNeg (i + 1))) (xo_x Ω (Int32.toNatClampNeg (i + 2))) 0 σ τ with
          | none => rw [q142] at H; cases H
          | some q1420 =>
            obtain ⟨v140, s141, t143⟩ := q1420
            rw [q142] at H; dsimp only at H
            have hc := g68_run (Ω := Ω) htr (d + 210) p τ (xo_x Ω (Int32.toNatClampNeg (i + 1))) (xo_x Ω (Int32.toNatClampNeg (i + 2))) 0 σ q142
            refine xp_ok htr 2 (d + 220) (kc + 4) (ks + 24) [eN (some (.int v140)) (hM p s141 t143) 4 24] 0 606 [some (.retAddr 0), some (.ref 0), some (.ref 53), some (.ref 92), some (.int i), none, none] [.int (xo_x Ω (Int32.toNatClampNeg (i + 2))), .int (xo_x Ω (Int32.toNatClampNeg (i + 1))), .ref 0] (hM p σ τ) ⟨hc, ?_⟩
            show xv l Ω (d + 220) kc ks 0 610 [some (.retAddr 0), some (.ref 0), some (.ref 53), some (.ref 92), some (.int i), none, none] [.int v140] (hM p s141 t143) r
            refine xp_ok htr 8 (d + 220) kc ks [] 0 610 [some (.retAddr 0), some (.ref 0), some (.ref 53), some (.ref 92), some (.int i), none, none] [.int v140] (hM p s141 t143) ⟨(xn_in gu136), ?_⟩
            show xv l Ω (d + 220) kc ks 0 620 [some (.retAddr 0), some (.ref 0), some (.ref 53), some (.ref 92), some (.int i), some (.int v140), none] [.retAddr 0, .int (xo_x Ω (Int32.toNatClampNeg (i + 1))), .ref 53] (hM p s141 t143) r
            refine xp_ok htr 8 (d + 220) kc ks [] 0 620 [some (.retAddr 0), some (.ref 0), some (.ref 53), some (.ref 92), some (.int i), some (.int v140), none] [.retAddr 0, .int (xo_x Ω (Int32.toNatClampNeg (i + 1))), .ref 53] (hM p s141 t143) ⟨(xn_in gu137), ?_⟩
            show xv l Ω (d + 220) kc ks 0 630 [some (.retAddr 0), some (.ref 0), some (.ref 53), some (.ref 92), some (.int i), some (.int v140), none] [.int (i + 3), .retAddr 0, .int (xo_x Ω (Int32.toNatClampNeg (i + 2))), .int (xo_x Ω (Int32.toNatClampNeg (i + 1))), .ref 53] (hM p s141 t143) r
            refine xp_ok htr 2 (d + 220) kc ks [eB true] 0 630 [some (.retAddr 0), some (.ref 0), some (.ref 53), some (.ref 92), some (.int i), some (.int v140), none] [.int (i + 3), .retAddr 0, .int (xo_x Ω (Int32.toNatClampNeg (i + 2))), .int (xo_x Ω (Int32.toNatClampNeg (i + 1))), .ref 53] (hM p s141 t143) ⟨(xn_in gu138), h139, ?_⟩
            show xv l Ω (d + 220) kc ks 0 638 [some (.retAddr 0), some (.ref 0), some (.ref 53), some (.ref 92), some (.int i), some (.int v140), none] [.int (xo_x Ω (Int32.toNatClampNeg (i + 2))), .int (xo_x Ω (Int32.toNatClampNeg (i + 1))), .ref 53] (hM p s141 t143) r
            cases q146 : g165 (xo_x Ω (Int32.toNatClampNeg (i + 1))) (xo_x Ω (Int32.toNatClampNeg (i + 2))) 0 s141 with
            | none => rw [q146] at H; cases H
            | some q1460 =>
              obtain ⟨v144 | v144, s145⟩ := q1460
              · rw [q146] at H; dsimp only at H
                have hc := g165_run (Ω := Ω) htr (d + 216) p t143 (xo_x Ω (Int32.toNatClampNeg (i + 1))) (xo_x Ω (Int32.toNatClampNeg (i + 2))) 0 s141 q146
                refine xp_ok htr 2 (d + 220) kc ks [eC none (hM p s145 t143)] 0 638 [some (.retAddr 0), some (.ref 0), some (.ref 53), some (.ref 92), some (.int i), some (.int v140), none] [.int (xo_x Ω (Int32.toNatClampNeg (i + 2))), .int (xo_x Ω (Int32.toNatClampNeg (i + 1))), .ref 53] (hM p s141 t143) ⟨hc, ?_⟩
                show xv l Ω (d + 220) kc ks 0 642 [some (.retAddr 0), some (.ref 0), some (.ref 53), some (.ref 92), some (.int i), some (.int v140), none] [] (hM p s145 t143) r
                cases q149 : g149  s145 with
                | none => rw [q149] at H; cases H
                | some q1490 =>
                  obtain ⟨v147 | v147, s148⟩ := q1490
                  · rw [q149] at H; dsimp only at H
                    have hc := g149_run (Ω := Ω) htr (d + 219) p t143  s145 q149
                    refine xp_ok htr 2 (d + 220) kc ks [eC (some (.int v147)) (hM p s148 t143)] 0 642 [some (.retAddr 0), some (.ref 0), some (.ref 53), some (.ref 92), some (.int i), some (.int v140), none] [] (hM p s145 t143) ⟨hc, ?_⟩
                    show xv l Ω (d + 220) kc ks 0 646 [some (.retAddr 0), some (.ref 0), some (.ref 53), some (.ref 92), some (.int i), some (.int v140), none] [.int v147] (hM p s148 t143) r
                    by_cases h150 : v147 = v140
                    · rw [if_pos h150] at H
                      refine xp_ok htr 2 (d + 220) kc ks [eB true] 0 646 [some (.retAddr 0), some (.ref 0), some (.ref 53), some (.ref 92), some (.int i), some (.int v140), none] [.int v147] (hM p s148 t143) ⟨h150, ?_⟩
                      show xv l Ω (d + 220) kc ks 0 653 [some (.retAddr 0), some (.ref 0), some (.ref 53), some (.ref 92), some (.int i), some (.int v140), none] [] (hM p s148 t143) r
                      cases H
                      refine xp_ok htr 3 (d + 220) kc ks [] 0 653 [some (.retAddr 0), some (.ref 0), some (.ref 53), some (.ref 92), some (.int i), some (.int v140), none] [] (hM p s148 t143) ?_
                      show xv l Ω (d + 220) kc ks 0 23 [some (.retAddr 0), some (.ref 0), some (.ref 53), some (.ref 92), some (.int (i + 5)), some (.int v140), none] [] (hM p s148 t143) r
                      exact xv_sub (L' := xx_L0 (i + 5)) ⟨rfl, rfl, rfl, rfl, rfl, trivial⟩ hk
                    · rw [if_neg h150] at H
                      cases H
                  · rw [q149] at H; cases H
              · rw [q146] at H; cases H
        · rw [if_neg h139] at H
          refine xp_ok htr 1 (d + 220) (kc + 4) (ks + 24) [eB false] 0 599 [some (.retAddr 0), some (.ref 0), some (.ref 53), some (.ref 92), some (.int i), none, none] [.int (xo_x Ω (Int32.toNatClampNeg (i + 3))), .int (xo_x Ω (Int32.toNatClampNeg (i + 2))), .int (xo_x Ω (Int32.toNatClampNeg (i + 1))), .ref 0] (hM p σ τ) ⟨h139, ?_⟩
          show xv l Ω (d + 220) (kc + 4) (ks + 24) 0 602 [some (.retAddr 0), some (.ref 0), some (.ref 53), some (.ref 92), some (.int i), none, none] [.int (xo_x Ω (Int32.toNatClampNeg (i + 2))), .int (xo_x Ω (Int32.toNatClampNeg (i + 1))), .ref 0] (hM p σ τ) r
          cases q153 : g68 (xo_x Ω (Int32.toNatClampNeg (i + 1))) (xo_x Ω (Int32.toNatClampNeg (i + 2))) 1 σ τ with
          | none => rw [q153] at H; cases H
          | some q1530 =>
            obtain ⟨v151, s152, t154⟩ := q1530
            rw [q153] at H; dsimp only at H
            have hc := g68_run (Ω := Ω) htr (d + 210) p τ (xo_x Ω (Int32.toNatClampNeg (i + 1))) (xo_x Ω (Int32.toNatClampNeg (i + 2))) 1 σ q153
            refine xp_ok htr 3 (d + 220) (kc + 4) (ks + 24) [eN (some (.int v151)) (hM p s152 t154) 4 24] 0 602 [some (.retAddr 0), some (.ref 0), some (.ref 53), some (.ref 92), some (.int i), none, none] [.int (xo_x Ω (Int32.toNatClampNeg (i + 2))), .int (xo_x Ω (Int32.toNatClampNeg (i + 1))), .ref 0] (hM p σ τ) ⟨hc, ?_⟩
            show xv l Ω (d + 220) kc ks 0 610 [some (.retAddr 0), some (.ref 0), some (.ref 53), some (.ref 92), some (.int i), none, none] [.int v151] (hM p s152 t154) r
            refine xp_ok htr 8 (d + 220) kc ks [] 0 610 [some (.retAddr 0), some (.ref 0), some (.ref 53), some (.ref 92), some (.int i), none, none] [.int v151] (hM p s152 t154) ⟨(xn_in gu136), ?_⟩
            show xv l Ω (d + 220) kc ks 0 620 [some (.retAddr 0), some (.ref 0), some (.ref 53), some (.ref 92), some (.int i), some (.int v151), none] [.retAddr 0, .int (xo_x Ω (Int32.toNatClampNeg (i + 1))), .ref 53] (hM p s152 t154) r
            refine xp_ok htr 8 (d + 220) kc ks [] 0 620 [some (.retAddr 0), some (.ref 0), some (.ref 53), some (.ref 92), some (.int i), some (.int v151), none] [.retAddr 0, .int (xo_x Ω (Int32.toNatClampNeg (i + 1))), .ref 53] (hM p s152 t154) ⟨(xn_in gu137), ?_⟩
            show xv l Ω (d + 220) kc ks 0 630 [some (.retAddr 0), some (.ref 0), some (.ref 53), some (.ref 92), some (.int i), some (.int v151), none] [.int (i + 3), .retAddr 0, .int (xo_x Ω (Int32.toNatClampNeg (i + 2))), .int (xo_x Ω (Int32.toNatClampNeg (i + 1))), .ref 53] (hM p s152 t154) r
            refine xp_ok htr 2 (d + 220) kc ks [eB false] 0 630 [some (.retAddr 0), some (.ref 0), some (.ref 53), some (.ref 92), some (.int i), some (.int v151), none] [.int (i + 3), .retAddr 0, .int (xo_x Ω (Int32.toNatClampNeg (i + 2))), .int (xo_x Ω (Int32.toNatClampNeg (i + 1))), .ref 53] (hM p s152 t154) ⟨(xn_in gu138), h139, ?_⟩
            show xv l Ω (d + 220) kc ks 0 634 [some (.retAddr 0), some (.ref 0), some (.ref 53), some (.ref 92), some (.int i), some (.int v151), none] [.int (xo_x Ω (Int32.toNatClampNeg (i + 2))), .int (xo_x Ω (Int32.toNatClampNeg (i + 1))), .ref 53] (hM p s152 t154) r
            cases q157 : g165 (xo_x Ω (Int32.toNatClampNeg (i + 1))) (xo_x Ω (Int32.toNatClampNeg (i + 2))) 1 s152 with
            | none => rw [q157] at H; cases H
            | some q1570 =>
              obtain ⟨v155 | v155, s156⟩ := q1570
              · rw [q157] at H; dsimp only at H
                have hc := g165_run (Ω := Ω) htr (d + 216) p t154 (xo_x Ω (Int32.toNatClampNeg (i + 1))) (xo_x Ω (Int32.toNatClampNeg (i + 2))) 1 s152 q157
                refine xp_ok htr 3 (d + 220) kc ks [eC none (hM p s156 t154)] 0 634 [some (.retAddr 0), some (.ref 0), some (.ref 53), some (.ref 92), some (.int i), some (.int v151), none] [.int (xo_x Ω (Int32.toNatClampNeg (i + 2))), .int (xo_x Ω (Int32.toNatClampNeg (i + 1))), .ref 53] (hM p s152 t154) ⟨hc, ?_⟩
                show xv l Ω (d + 220) kc ks 0 642 [some (.retAddr 0), some (.ref 0), some (.ref 53), some (.ref 92), some (.int i), some (.int v151), none] [] (hM p s156 t154) r
                cases q160 : g149  s156 with
                | none => rw [q160] at H; cases H
                | some q1600 =>
                  obtain ⟨v158 | v158, s159⟩ := q1600
                  · rw [q160] at H; dsimp only at H
                    have hc := g149_run (Ω := Ω) htr (d + 219) p t154  s156 q160
                    refine xp_ok htr 2 (d + 220) kc ks [eC (some (.int v158)) (hM p s159 t154)] 0 642 [some (.retAddr 0), some (.ref 0), some (.ref 53), some (.ref 92), some (.int i), some (.int v151), none] [] (hM p s156 t154) ⟨hc, ?_⟩
                    show xv l Ω (d + 220) kc ks 0 646 [some (.retAddr 0), some (.ref 0), some (.ref 53), some (.ref 92), some (.int i), some (.int v151), none] [.int v158] (hM p s159 t154) r
                    by_cases h161 : v158 = v151
                    · rw [if_pos h161] at H
                      refine xp_ok htr 2 (d + 220) kc ks [eB true] 0 646 [some (.retAddr 0), some (.ref 0), some (.ref 53), some (.ref 92), some (.int i), some (.int v151), none] [.int v158] (hM p s159 t154) ⟨h161, ?_⟩
                      show xv l Ω (d + 220) kc ks 0 653 [some (.retAddr 0), some (.ref 0), some (.ref 53), some (.ref 92), some (.int i), some (.int v151), none] [] (hM p s159 t154) r
                      cases H
                      refine xp_ok htr 3 (d + 220) kc ks [] 0 653 [some (.retAddr 0), some (.ref 0), some (.ref 53), some (.ref 92), some (.int i), some (.int v151), none] [] (hM p s159 t154) ?_
                      show xv l Ω (d + 220) kc ks 0 23 [some (.retAddr 0), some (.ref 0), some (.ref 53), some (.ref 92), some (.int (i + 5)), some (.int v151), none] [] (hM p s159 t154) r
                      exact xv_sub (L' := xx_L0 (i + 5)) ⟨rfl, rfl, rfl, rfl, rfl, trivial⟩ hk
                    · rw [if_neg h161] at H
                      cases H
                  · rw [q160] at H; cases H
              · rw [q157] at H; cases H
def gL_9 (n : Nat) (xs : Nat → Int32) (p : Nat) (i : Int32) (σ : xS) (τ : xT) : Option (xS × xT × Nat) := (bif xn (i + 1) n then (match g74 (xs (Int32.toNatClampNeg (i + 1))) σ τ with | some (v163, s164, t166) => (match g166 (xs (Int32.toNatClampNeg (i + 1))) s164 with | some (Sum.inl v167, s168) => (match g149  s168 with | some (Sum.inl v170, s171) => (if v170 = v163 then (if v163 = 0 then (if (lg_cmp (t166 92 0) (Int32.toInt64 v167)) = 0 then some (s171, t166, p) else none) else some (s171, t166, p)) else none) | some (Sum.inr _, _) => none | none => none) | some (Sum.inr _, _) => none | none => none) | none => none) else none)
theorem gL_9_ok {l : Launch} {Ω : xo_O} (htr : xH l) (d kc ks : Nat) (p : Nat) (i : Int32) (σ : xS) (τ : xT) (r : xv_R) {q : xS × xT × Nat} (H : gL_9 (xo_n Ω) (xo_x Ω) p i σ τ = some q) (hk : xv l Ω (d + 220) kc ks 0 23 (xx_L0 (i + 5)) [] (hM q.2.2 q.1 q.2.1) r) : xv l Ω (d + 220) (kc + 1) (ks + 6) 0 656 (xx_L0 i) [] (hM p σ τ) r := by
  unfold gL_9 at H
  cases gu162 : xn (i + 1) (xo_n Ω) with
  | false => rw [gu162, cond_false] at H; cases H
  | true =>
    rw [gu162, cond_true] at H
    cases q165 : g74 (xo_x Ω (Int32.toNatClampNeg (i + 1))) σ τ with
    | none => rw [q165] at H; cases H
    | some q1650 =>
      obtain ⟨v163, s164, t166⟩ := q1650
      rw [q165] at H; dsimp only at H
      have hc := g74_run (Ω := Ω) htr (d + 211) p τ (xo_x Ω (Int32.toNatClampNeg (i + 1))) σ q165
      refine xp_ok htr 8 (d + 220) (kc + 1) (ks + 6) [eN (some (.int v163)) (hM p s164 t166) 1 6] 0 656 [some (.retAddr 0), some (.ref 0), some (.ref 53), some (.ref 92), some (.int i), none, none] [] (hM p σ τ) ⟨(xn_in gu162), hc, ?_⟩
      show xv l Ω (d + 220) kc ks 0 667 [some (.retAddr 0), some (.ref 0), some (.ref 53), some (.ref 92), some (.int i), none, none] [.int v163] (hM p s164 t166) r
      cases q169 : g166 (xo_x Ω (Int32.toNatClampNeg (i + 1))) s164 with
      | none => rw [q169] at H; cases H
      | some q1690 =>
        obtain ⟨v167 | v167, s168⟩ := q1690
        · rw [q169] at H; dsimp only at H
          have hc := g166_run (Ω := Ω) htr (d + 218) p t166 (xo_x Ω (Int32.toNatClampNeg (i + 1))) s164 q169
          refine xp_ok htr 8 (d + 220) kc ks [eC (some (.int v167)) (hM p s168 t166)] 0 667 [some (.retAddr 0), some (.ref 0), some (.ref 53), some (.ref 92), some (.int i), none, none] [.int v163] (hM p s164 t166) ⟨(xn_in gu162), hc, ?_⟩
          show xv l Ω (d + 220) kc ks 0 679 [some (.retAddr 0), some (.ref 0), some (.ref 53), some (.ref 92), some (.int i), some (.int v163), none] [.int v167] (hM p s168 t166) r
          cases q172 : g149  s168 with
          | none => rw [q172] at H; cases H
          | some q1720 =>
            obtain ⟨v170 | v170, s171⟩ := q1720
            · rw [q172] at H; dsimp only at H
              have hc := g149_run (Ω := Ω) htr (d + 219) p t166  s168 q172
              refine xp_ok htr 3 (d + 220) kc ks [eC (some (.int v170)) (hM p s171 t166)] 0 679 [some (.retAddr 0), some (.ref 0), some (.ref 53), some (.ref 92), some (.int i), some (.int v163), none] [.int v167] (hM p s168 t166) ⟨hc, ?_⟩
              show xv l Ω (d + 220) kc ks 0 685 [some (.retAddr 0), some (.ref 0), some (.ref 53), some (.ref 92), some (.int i), some (.int v163), some (.int v167)] [.int v170] (hM p s171 t166) r
              by_cases h173 : v170 = v163
              · rw [if_pos h173] at H
                refine xp_ok htr 2 (d + 220) kc ks [eB true] 0 685 [some (.retAddr 0), some (.ref 0), some (.ref 53), some (.ref 92), some (.int i), some (.int v163), some (.int v167)] [.int v170] (hM p s171 t166) ⟨h173, ?_⟩
                show xv l Ω (d + 220) kc ks 0 692 [some (.retAddr 0), some (.ref 0), some (.ref 53), some (.ref 92), some (.int i), some (.int v163), some (.int v167)] [] (hM p s171 t166) r
                by_cases h174 : v163 = 0
                · rw [if_pos h174] at H
                  refine xp_ok htr 2 (d + 220) kc ks [eB false] 0 692 [some (.retAddr 0), some (.ref 0), some (.ref 53), some (.ref 92), some (.int i), some (.int v163), some (.int v167)] [] (hM p s171 t166) ⟨h174, ?_⟩
                  show xv l Ω (d + 220) kc ks 0 697 [some (.retAddr 0), some (.ref 0), some (.ref 53), some (.ref 92), some (.int i), some (.int v163), some (.int v167)] [] (hM p s171 t166) r
                  by_cases h175 : (lg_cmp (t166 92 0) (Int32.toInt64 v167)) = 0
                  · rw [if_pos h175] at H
                    refine xp_ok htr 7 (d + 220) kc ks [eB true] 0 697 [some (.retAddr 0), some (.ref 0), some (.ref 53), some (.ref 92), some (.int i), some (.int v163), some (.int v167)] [] (hM p s171 t166) ⟨(by unfold vp_in; decide), h175, ?_⟩
                    show xv l Ω (d + 220) kc ks 0 709 [some (.retAddr 0), some (.ref 0), some (.ref 53), some (.ref 92), some (.int i), some (.int v163), some (.int v167)] [] (hM p s171 t166) r
                    cases H
                    refine xp_ok htr 3 (d + 220) kc ks [] 0 709 [some (.retAddr 0), some (.ref 0), some (.ref 53), some (.ref 92), some (.int i), some (.int v163), some (.int v167)] [] (hM p s171 t166) ?_
                    show xv l Ω (d + 220) kc ks 0 23 [some (.retAddr 0), some (.ref 0), some (.ref 53), some (.ref 92), some (.int (i + 5)), some (.int v163), some (.int v167)] [] (hM p s171 t166) r
                    exact xv_sub (L' := xx_L0 (i + 5)) ⟨rfl, rfl, rfl, rfl, rfl, trivial⟩ hk
                  · rw [if_neg h175] at H
                    cases H
                · rw [if_neg h174] at H
                  refine xp_ok htr 2 (d + 220) kc ks [eB true] 0 692 [some (.retAddr 0), some (.ref 0), some (.ref 53), some (.ref 92), some (.int i), some (.int v163), some (.int v167)] [] (hM p s171 t166) ⟨h174, ?_⟩
                  show xv l Ω (d + 220) kc ks 0 709 [some (.retAddr 0), some (.ref 0), some (.ref 53), some (.ref 92), some (.int i), some (.int v163), some (.int v167)] [] (hM p s171 t166) r
                  cases H
                  refine xp_ok htr 3 (d + 220) kc ks [] 0 709 [some (.retAddr 0), some (.ref 0), some (.ref 53), some (.ref 92), some (.int i), some (.int v163), some (.int v167)] [] (hM p s171 t166) ?_
                  show xv l Ω (d + 220) kc ks 0 23 [some (.retAddr 0), some (.ref 0), some (.ref 53), some (.ref 92), some (.int (i + 5)), some (.int v163), some (.int v167)] [] (hM p s171 t166) r
                  exact xv_sub (L' := xx_L0 (i + 5)) ⟨rfl, rfl, rfl, rfl, rfl, trivial⟩ hk
              · rw [if_neg h173] at H
                cases H
            · rw [q172] at H; cases H
        · rw [q169] at H; cases H
def gL_10 (n : Nat) (xs : Nat → Int32) (p : Nat) (i : Int32) (σ : xS) (τ : xT) : Option (xS × xT × Nat) := (bif xn (i + 1) n then (match g76 (xs (Int32.toNatClampNeg (i + 1))) σ τ with | some (v177, s178, t180) => (match g167 (xs (Int32.toNatClampNeg (i + 1))) s178 with | some (Sum.inl v181, s182) => (match g149  s182 with | some (Sum.inl v184, s185) => (if v184 = v177 then (if v177 = 0 then (if (lg_cmp (t180 92 0) (Int32.toInt64 v181)) = 0 then some (s185, t180, p) else none) else some (s185, t180, p)) else none) | some (Sum.inr _, _) => none | none => none) | some (Sum.inr _, _) => none | none => none) | none => none) else none)
theorem gL_10_ok {l : Launch} {Ω : xo_O} (htr : xH l) (d kc ks : Nat) (p : Nat) (i : Int32) (σ : xS) (τ : xT) (r : xv_R) {q : xS × xT × Nat} (H : gL_10 (xo_n Ω) (xo_x Ω) p i σ τ = some q) (hk : xv l Ω (d + 220) kc ks 0 23 (xx_L0 (i + 5)) [] (hM q.2.2 q.1 q.2.1) r) : xv l Ω (d + 220) (kc + 1) (ks + 6) 0 712 (xx_L0 i) [] (hM p σ τ) r := by
  unfold gL_10 at H
  cases gu176 : xn (i + 1) (xo_n Ω) with
  | false => rw [gu176, cond_false] at H; cases H
  | true =>
    rw [gu176, cond_true] at H
    cases q179 : g76 (xo_x Ω (Int32.toNatClampNeg (i + 1))) σ τ with
    | none => rw [q179] at H; cases H
    | some q1790 =>
      obtain ⟨v177, s178, t180⟩ := q1790
      rw [q179] at H; dsimp only at H
      have hc := g76_run (Ω := Ω) htr (d + 211) p τ (xo_x Ω (Int32.toNatClampNeg (i + 1))) σ q179
      refine xp_ok htr 8 (d + 220) (kc + 1) (ks + 6) [eN (some (.int v177)) (hM p s178 t180) 1 6] 0 712 [some (.retAddr 0), some (.ref 0), some (.ref 53), some (.ref 92), some (.int i), none, none] [] (hM p σ τ) ⟨(xn_in gu176), hc, ?_⟩
      show xv l Ω (d + 220) kc ks 0 723 [some (.retAddr 0), some (.ref 0), some (.ref 53), some (.ref 92), some (.int i), none, none] [.int v177] (hM p s178 t180) r
      cases q183 : g167 (xo_x Ω (Int32.toNatClampNeg (i + 1))) s178 with
      | none => rw [q183] at H; cases H
      | some q1830 =>
        obtain ⟨v181 | v181, s182⟩ := q1830
        · rw [q183] at H; dsimp only at H
          have hc := g167_run (Ω := Ω) htr (d + 218) p t180 (xo_x Ω (Int32.toNatClampNeg (i + 1))) s178 q183
          refine xp_ok htr 8 (d + 220) kc ks [eC (some (.int v181)) (hM p s182 t180)] 0 723 [some (.retAddr 0), some (.ref 0), some (.ref 53), some (.ref 92), some (.int i), none, none] [.int v177] (hM p s178 t180) ⟨(xn_in gu176), hc, ?_⟩
          show xv l Ω (d + 220) kc ks 0 735 [some (.retAddr 0), some (.ref 0), some (.ref 53), some (.ref 92), some (.int i), some (.int v177), none] [.int v181] (hM p s182 t180) r
          cases q186 : g149  s182 with
          | none => rw [q186] at H; cases H
          | some q1860 =>
            obtain ⟨v184 | v184, s185⟩ := q1860
            · rw [q186] at H; dsimp only at H
              have hc := g149_run (Ω := Ω) htr (d + 219) p t180  s182 q186
              refine xp_ok htr 3 (d + 220) kc ks [eC (some (.int v184)) (hM p s185 t180)] 0 735 [some (.retAddr 0), some (.ref 0), some (.ref 53), some (.ref 92), some (.int i), some (.int v177), none] [.int v181] (hM p s182 t180) ⟨hc, ?_⟩
              show xv l Ω (d + 220) kc ks 0 741 [some (.retAddr 0), some (.ref 0), some (.ref 53), some (.ref 92), some (.int i), some (.int v177), some (.int v181)] [.int v184] (hM p s185 t180) r
              by_cases h187 : v184 = v177
              · rw [if_pos h187] at H
                refine xp_ok htr 2 (d + 220) kc ks [eB true] 0 741 [some (.retAddr 0), some (.ref 0), some (.ref 53), some (.ref 92), some (.int i), some (.int v177), some (.int v181)] [.int v184] (hM p s185 t180) ⟨h187, ?_⟩
                show xv l Ω (d + 220) kc ks 0 748 [some (.retAddr 0), some (.ref 0), some (.ref 53), some (.ref 92), some (.int i), some (.int v177), some (.int v181)] [] (hM p s185 t180) r
                by_cases h188 : v177 = 0
                · rw [if_pos h188] at H
                  refine xp_ok htr 2 (d + 220) kc ks [eB false] 0 748 [some (.retAddr 0), some (.ref 0), some (.ref 53), some (.ref 92), some (.int i), some (.int v177), some (.int v181)] [] (hM p s185 t180) ⟨h188, ?_⟩
                  show xv l Ω (d + 220) kc ks 0 753 [some (.retAddr 0), some (.ref 0), some (.ref 53), some (.ref 92), some (.int i), some (.int v177), some (.int v181)] [] (hM p s185 t180) r
                  by_cases h189 : (lg_cmp (t180 92 0) (Int32.toInt64 v181)) = 0
                  · rw [if_pos h189] at H
                    refine xp_ok htr 7 (d + 220) kc ks [eB true] 0 753 [some (.retAddr 0), some (.ref 0), some (.ref 53), some (.ref 92), some (.int i), some (.int v177), some (.int v181)] [] (hM p s185 t180) ⟨(by unfold vp_in; decide), h189, ?_⟩
                    show xv l Ω (d + 220) kc ks 0 765 [some (.retAddr 0), some (.ref 0), some (.ref 53), some (.ref 92), some (.int i), some (.int v177), some (.int v181)] [] (hM p s185 t180) r
                    cases H
                    refine xp_ok htr 3 (d + 220) kc ks [] 0 765 [some (.retAddr 0), some (.ref 0), some (.ref 53), some (.ref 92), some (.int i), some (.int v177), some (.int v181)] [] (hM p s185 t180) ?_
                    show xv l Ω (d + 220) kc ks 0 23 [some (.retAddr 0), some (.ref 0), some (.ref 53), some (.ref 92), some (.int (i + 5)), some (.int v177), some (.int v181)] [] (hM p s185 t180) r
                    exact xv_sub (L' := xx_L0 (i + 5)) ⟨rfl, rfl, rfl, rfl, rfl, trivial⟩ hk
                  · rw [if_neg h189] at H
                    cases H
                · rw [if_neg h188] at H
                  refine xp_ok htr 2 (d + 220) kc ks [eB true] 0 748 [some (.retAddr 0), some (.ref 0), some (.ref 53), some (.ref 92), some (.int i), some (.int v177), some (.int v181)] [] (hM p s185 t180) ⟨h188, ?_⟩
                  show xv l Ω (d + 220) kc ks 0 765 [some (.retAddr 0), some (.ref 0), some (.ref 53), some (.ref 92), some (.int i), some (.int v177), some (.int v181)] [] (hM p s185 t180) r
                  cases H
                  refine xp_ok htr 3 (d + 220) kc ks [] 0 765 [some (.retAddr 0), some (.ref 0), some (.ref 53), some (.ref 92), some (.int i), some (.int v177), some (.int v181)] [] (hM p s185 t180) ?_
                  show xv l Ω (d + 220) kc ks 0 23 [some (.retAddr 0), some (.ref 0), some (.ref 53), some (.ref 92), some (.int (i + 5)), some (.int v177), some (.int v181)] [] (hM p s185 t180) r
                  exact xv_sub (L' := xx_L0 (i + 5)) ⟨rfl, rfl, rfl, rfl, rfl, trivial⟩ hk
              · rw [if_neg h187] at H
                cases H
            · rw [q186] at H; cases H
        · rw [q183] at H; cases H
def gL_11 (n : Nat) (xs : Nat → Int32) (p : Nat) (i : Int32) (σ : xS) (τ : xT) : Option (xS × xT × Nat) := (bif xn (i + 1) n then (bif xn (i + 2) n then (bif xn (i + 3) n then (bif xn (i + 4) n then (if (xs (Int32.toNatClampNeg (i + 4))) = 0 then (match g78 (xs (Int32.toNatClampNeg (i + 1))) (xs (Int32.toNatClampNeg (i + 2))) (xs (Int32.toNatClampNeg (i + 3))) 0 σ τ with | some (v195, s196, t198) => (match g168 (xs (Int32.toNatClampNeg (i + 1))) (xs (Int32.toNatClampNeg (i + 2))) (xs (Int32.toNatClampNeg (i + 3))) 0 s196 with | some (Sum.inl v199, s200) => (match g149  s200 with | some (Sum.inl v202, s203) => (if v202 = v195 then some (s203, t198, p) else none) | some (Sum.inr _, _) => none | none => none) | some (Sum.inr _, _) => none | none => none) | none => none) else (match g78 (xs (Int32.toNatClampNeg (i + 1))) (xs (Int32.toNatClampNeg (i + 2))) (xs (Int32.toNatClampNeg (i + 3))) 1 σ τ with | some (v206, s207, t209) => (match g168 (xs (Int32.toNatClampNeg (i + 1))) (xs (Int32.toNatClampNeg (i + 2))) (xs (Int32.toNatClampNeg (i + 3))) 1 s207 with | some (Sum.inl v210, s211) => (match g149  s211 with | some (Sum.inl v213, s214) => (if v213 = v206 then some (s214, t209, p) else none) | some (Sum.inr _, _) => none | none => none) | some (Sum.inr _, _) => none | none => none) | none => none)) else none) else none) else none) else none)
theorem gL_11_ok {l : Launch} {Ω : xo_O} (htr : xH l) (d kc ks : Nat) (p : Nat) (i : Int32) (σ : xS) (τ : xT) (r : xv_R) {q : xS × xT × Nat} (H : gL_11 (xo_n Ω) (xo_x Ω) p i σ τ = some q) (hk : xv l Ω (d + 220) kc ks 0 23 (xx_L0 (i + 5)) [] (hM q.2.2 q.1 q.2.1) r) : xv l Ω (d + 220) (kc + 1) (ks + 6) 0 768 (xx_L0 i) [] (hM p σ τ) r := by
  unfold gL_11 at H
  cases gu190 : xn (i + 1) (xo_n Ω) with
  | false => rw [gu190, cond_false] at H; cases H
  | true =>
    rw [gu190, cond_true] at H
    refine xp_ok htr 8 (d + 220) (kc + 1) (ks + 6) [] 0 768 [some (.retAddr 0), some (.ref 0), some (.ref 53), some (.ref 92), some (.int i), none, none] [] (hM p σ τ) ⟨(xn_in gu190), ?_⟩
    show xv l Ω (d + 220) (kc + 1) (ks + 6) 0 778 [some (.retAddr 0), some (.ref 0), some (.ref 53), some (.ref 92), some (.int i), none, none] [.int i, .retAddr 0, .int (xo_x Ω (Int32.toNatClampNeg (i + 1))), .ref 0] (hM p σ τ) r
    cases gu191 : xn (i + 2) (xo_n Ω) with
    | false => rw [gu191, cond_false] at H; cases H
    | true =>
      rw [gu191, cond_true] at H
      cases gu192 : xn (i + 3) (xo_n Ω) with
      | false => rw [gu192, cond_false] at H; cases H
      | true =>
        rw [gu192, cond_true] at H
        refine xp_ok htr 8 (d + 220) (kc + 1) (ks + 6) [] 0 778 [some (.retAddr 0), some (.ref 0), some (.ref 53), some (.ref 92), some (.int i), none, none] [.int i, .retAddr 0, .int (xo_x Ω (Int32.toNatClampNeg (i + 1))), .ref 0] (hM p σ τ) ⟨(xn_in gu191), (xn_in gu192), ?_⟩
        show xv l Ω (d + 220) (kc + 1) (ks + 6) 0 787 [some (.retAddr 0), some (.ref 0), some (.ref 53), some (.ref 92), some (.int i), none, none] [.int (xo_x Ω (Int32.toNatClampNeg (i + 3))), .int (xo_x Ω (Int32.toNatClampNeg (i + 2))), .int (xo_x Ω (Int32.toNatClampNeg (i + 1))), .ref 0] (hM p σ τ) r
        cases gu193 : xn (i + 4) (xo_n Ω) with
        | false => rw [gu193, cond_false] at H; cases H
        | true =>
          rw [gu193, cond_true] at H
          by_cases h194 : (xo_x Ω (Int32.toNatClampNeg (i + 4))) = 0
          · rw [if_pos h194] at H
            refine xp_ok htr 6 (d + 220) (kc + 1) (ks + 6) [eB true] 0 787 [some (.retAddr 0), some (.ref 0), some (.ref 53), some (.ref 92), some (.int i), none, none] [.int (xo_x Ω (Int32.toNatClampNeg (i + 3))), .int (xo_x Ω (Int32.toNatClampNeg (i + 2))), .int (xo_x Ω (Int32.toNatClampNeg (i + 1))), .ref 0] (hM p σ τ) ⟨(xn_in gu193), h194, ?_⟩
            show xv l Ω (d + 220) (kc + 1) (ks + 6) 0 800 [some (.retAddr 0), some (.ref 0), some (.ref 53), some (.ref 92), some (.int i), none, none] [.int (xo_x Ω (Int32.toNatClampNeg (i + 3))), .int (xo_x Ω (Int32.toNatClampNeg (i + 2))), .int (xo_x Ω (Int32.toNatClampNeg (i + 1))), .ref 0] (hM p σ τ) r
            cases q197 : g78 (xo_x Ω (Int32.toNatClampNeg (i + 1))) (xo_x Ω (Int32.toNatClampNeg (i + 2))) (xo_x Ω (Int32.toNatClampNeg (i + 3))) 0 σ τ with
            | none => rw [q197] at H; cases H
            | some q1970 =>
              obtain ⟨v195, s196, t198⟩ := q1970
              rw [q197] at H; dsimp only at H
              have hc := g78_run (Ω := Ω) htr (d + 211) p τ (xo_x Ω (Int32.toNatClampNeg (i + 1))) (xo_x Ω (Int32.toNatClampNeg (i + 2))) (xo_x Ω (Int32.toNatClampNeg (i + 3))) 0 σ q197
              refine xp_ok htr 2 (d + 220) (kc + 1) (ks + 6) [eN (some (.int v195)) (hM p s196 t198) 1 6] 0 800 [some (.retAddr 0), some (.ref 0), some (.ref 53), some (.ref 92), some (.int i), none, none] [.int (xo_x Ω (Int32.toNatClampNeg (i + 3))), .int (xo_x Ω (Int32.toNatClampNeg (i + 2))), .int (xo_x Ω (Int32.toNatClampNeg (i + 1))), .ref 0] (hM p σ τ) ⟨hc, ?_⟩
              show xv l Ω (d + 220) kc ks 0 804 [some (.retAddr 0), some (.ref 0), some (.ref 53), some (.ref 92), some (.int i), none, none] [.int v195] (hM p s196 t198) r
              refine xp_ok htr 8 (d + 220) kc ks [] 0 804 [some (.retAddr 0), some (.ref 0), some (.ref 53), some (.ref 92), some (.int i), none, none] [.int v195] (hM p s196 t198) ⟨(xn_in gu190), ?_⟩
              show xv l Ω (d + 220) kc ks 0 814 [some (.retAddr 0), some (.ref 0), some (.ref 53), some (.ref 92), some (.int i), some (.int v195), none] [.retAddr 0, .int (xo_x Ω (Int32.toNatClampNeg (i + 1))), .ref 53] (hM p s196 t198) r
              refine xp_ok htr 8 (d + 220) kc ks [] 0 814 [some (.retAddr 0), some (.ref 0), some (.ref 53), some (.ref 92), some (.int i), some (.int v195), none] [.retAddr 0, .int (xo_x Ω (Int32.toNatClampNeg (i + 1))), .ref 53] (hM p s196 t198) ⟨(xn_in gu191), ?_⟩
              show xv l Ω (d + 220) kc ks 0 824 [some (.retAddr 0), some (.ref 0), some (.ref 53), some (.ref 92), some (.int i), some (.int v195), none] [.int (i + 3), .retAddr 0, .int (xo_x Ω (Int32.toNatClampNeg (i + 2))), .int (xo_x Ω (Int32.toNatClampNeg (i + 1))), .ref 53] (hM p s196 t198) r
              refine xp_ok htr 7 (d + 220) kc ks [eB true] 0 824 [some (.retAddr 0), some (.ref 0), some (.ref 53), some (.ref 92), some (.int i), some (.int v195), none] [.int (i + 3), .retAddr 0, .int (xo_x Ω (Int32.toNatClampNeg (i + 2))), .int (xo_x Ω (Int32.toNatClampNeg (i + 1))), .ref 53] (hM p s196 t198) ⟨(xn_in gu192), (xn_in gu193), h194, ?_⟩
              show xv l Ω (d + 220) kc ks 0 838 [some (.retAddr 0), some (.ref 0), some (.ref 53), some (.ref 92), some (.int i), some (.int v195), none] [.int (xo_x Ω (Int32.toNatClampNeg (i + 3))), .int (xo_x Ω (Int32.toNatClampNeg (i + 2))), .int (xo_x Ω (Int32.toNatClampNeg (i + 1))), .ref 53] (hM p s196 t198) r
              cases q201 : g168 (xo_x Ω (Int32.toNatClampNeg (i + 1))) (xo_x Ω (Int32.toNatClampNeg (i + 2))) (xo_x Ω (Int32.toNatClampNeg (i + 3))) 0 s196 with
              | none => rw [q201] at H; cases H
              | some q2010 =>
                obtain ⟨v199 | v199, s200⟩ := q2010
                · rw [q201] at H; dsimp only at H
                  have hc := g168_run (Ω := Ω) htr (d + 218) p t198 (xo_x Ω (Int32.toNatClampNeg (i + 1))) (xo_x Ω (Int32.toNatClampNeg (i + 2))) (xo_x Ω (Int32.toNatClampNeg (i + 3))) 0 s196 q201
                  refine xp_ok htr 2 (d + 220) kc ks [eC none (hM p s200 t198)] 0 838 [some (.retAddr 0), some (.ref 0), some (.ref 53), some (.ref 92), some (.int i), some (.int v195), none] [.int (xo_x Ω (Int32.toNatClampNeg (i + 3))), .int (xo_x Ω (Int32.toNatClampNeg (i + 2))), .int (xo_x Ω (Int32.toNatClampNeg (i + 1))), .ref 53] (hM p s196 t198) ⟨hc, ?_⟩
                  show xv l Ω (d + 220) kc ks 0 842 [some (.retAddr 0), some (.ref 0), some (.ref 53), some (.ref 92), some (.int i), some (.int v195), none] [] (hM p s200 t198) r
                  cases q204 : g149  s200 with
                  | none => rw [q204] at H; cases H
                  | some q2040 =>
                    obtain ⟨v202 | v202, s203⟩ := q2040
                    · rw [q204] at H; dsimp only at H
                      have hc := g149_run (Ω := Ω) htr (d + 219) p t198  s200 q204
                      refine xp_ok htr 2 (d + 220) kc ks [eC (some (.int v202)) (hM p s203 t198)] 0 842 [some (.retAddr 0), some (.ref 0), some (.ref 53), some (.ref 92), some (.int i), some (.int v195), none] [] (hM p s200 t198) ⟨hc, ?_⟩
                      show xv l Ω (d + 220) kc ks 0 846 [some (.retAddr 0), some (.ref 0), some (.ref 53), some (.ref 92), some (.int i), some (.int v195), none] [.int v202] (hM p s203 t198) r
                      by_cases h205 : v202 = v195
                      · rw [if_pos h205] at H
                        refine xp_ok htr 2 (d + 220) kc ks [eB true] 0 846 [some (.retAddr 0), some (.ref 0), some (.ref 53), some (.ref 92), some (.int i), some (.int v195), none] [.int v202] (hM p s203 t198) ⟨h205, ?_⟩
                        show xv l Ω (d + 220) kc ks 0 853 [some (.retAddr 0), some (.ref 0), some (.ref 53), some (.ref 92), some (.int i), some (.int v195), none] [] (hM p s203 t198) r
                        cases H
                        refine xp_ok htr 3 (d + 220) kc ks [] 0 853 [some (.retAddr 0), some (.ref 0), some (.ref 53), some (.ref 92), some (.int i), some (.int v195), none] [] (hM p s203 t198) ?_
                        show xv l Ω (d + 220) kc ks 0 23 [some (.retAddr 0), some (.ref 0), some (.ref 53), some (.ref 92), some (.int (i + 5)), some (.int v195), none] [] (hM p s203 t198) r
                        exact xv_sub (L' := xx_L0 (i + 5)) ⟨rfl, rfl, rfl, rfl, rfl, trivial⟩ hk
                      · rw [if_neg h205] at H
                        cases H
                    · rw [q204] at H; cases H
                · rw [q201] at H; cases H
          · rw [if_neg h194] at H
            refine xp_ok htr 6 (d + 220) (kc + 1) (ks + 6) [eB false] 0 787 [some (.retAddr 0), some (.ref 0), some (.ref 53), some (.ref 92), some (.int i), none, none] [.int (xo_x Ω (Int32.toNatClampNeg (i + 3))), .int (xo_x Ω (Int32.toNatClampNeg (i + 2))), .int (xo_x Ω (Int32.toNatClampNeg (i + 1))), .ref 0] (hM p σ τ) ⟨(xn_in gu193), h194, ?_⟩
            show xv l Ω (d + 220) (kc + 1) (ks + 6) 0 796 [some (.retAddr 0), some (.ref 0), some (.ref 53), some (.ref 92), some (.int i), none, none] [.int (xo_x Ω (Int32.toNatClampNeg (i + 3))), .int (xo_x Ω (Int32.toNatClampNeg (i + 2))), .int (xo_x Ω (Int32.toNatClampNeg (i + 1))), .ref 0] (hM p σ τ) r
            cases q208 : g78 (xo_x Ω (Int32.toNatClampNeg (i + 1))) (xo_x Ω (Int32.toNatClampNeg (i + 2))) (xo_x Ω (Int32.toNatClampNeg (i + 3))) 1 σ τ with
            | none => rw [q208] at H; cases H
            | some q2080 =>
              obtain ⟨v206, s207, t209⟩ := q2080
              rw [q208] at H; dsimp only at H
              have hc := g78_run (Ω := Ω) htr (d + 211) p τ (xo_x Ω (Int32.toNatClampNeg (i + 1))) (xo_x Ω (Int32.toNatClampNeg (i + 2))) (xo_x Ω (Int32.toNatClampNeg (i + 3))) 1 σ q208
              refine xp_ok htr 3 (d + 220) (kc + 1) (ks + 6) [eN (some (.int v206)) (hM p s207 t209) 1 6] 0 796 [some (.retAddr 0), some (.ref 0), some (.ref 53), some (.ref 92), some (.int i), none, none] [.int (xo_x Ω (Int32.toNatClampNeg (i + 3))), .int (xo_x Ω (Int32.toNatClampNeg (i + 2))), .int (xo_x Ω (Int32.toNatClampNeg (i + 1))), .ref 0] (hM p σ τ) ⟨hc, ?_⟩
              show xv l Ω (d + 220) kc ks 0 804 [some (.retAddr 0), some (.ref 0), some (.ref 53), some (.ref 92), some (.int i), none, none] [.int v206] (hM p s207 t209) r
              refine xp_ok htr 8 (d + 220) kc ks [] 0 804 [some (.retAddr 0), some (.ref 0), some (.ref 53), some (.ref 92), some (.int i), none, none] [.int v206] (hM p s207 t209) ⟨(xn_in gu190), ?_⟩
              show xv l Ω (d + 220) kc ks 0 814 [some (.retAddr 0), some (.ref 0), some (.ref 53), some (.ref 92), some (.int i), some (.int v206), none] [.retAddr 0, .int (xo_x Ω (Int32.toNatClampNeg (i + 1))), .ref 53] (hM p s207 t209) r
              refine xp_ok htr 8 (d + 220) kc ks [] 0 814 [some (.retAddr 0), some (.ref 0), some (.ref 53), some (.ref 92), some (.int i), some (.int v206), none] [.retAddr 0, .int (xo_x Ω (Int32.toNatClampNeg (i + 1))), .ref 53] (hM p s207 t209) ⟨(xn_in gu191), ?_⟩
              show xv l Ω (d + 220) kc ks 0 824 [some (.retAddr 0), some (.ref 0), some (.ref 53), some (.ref 92), some (.int i), some (.int v206), none] [.int (i + 3), .retAddr 0, .int (xo_x Ω (Int32.toNatClampNeg (i + 2))), .int (xo_x Ω (Int32.toNatClampNeg (i + 1))), .ref 53] (hM p s207 t209) r
              refine xp_ok htr 7 (d + 220) kc ks [eB false] 0 824 [some (.retAddr 0), some (.ref 0), some (.ref 53), some (.ref 92), some (.int i), some (.int v206), none] [.int (i + 3), .retAddr 0, .int (xo_x Ω (Int32.toNatClampNeg (i + 2))), .int (xo_x Ω (Int32.toNatClampNeg (i + 1))), .ref 53] (hM p s207 t209) ⟨(xn_in gu192), (xn_in gu193), h194, ?_⟩
              show xv l Ω (d + 220) kc ks 0 834 [some (.retAddr 0), some (.ref 0), some (.ref 53), some (.ref 92), some (.int i), some (.int v206), none] [.int (xo_x Ω (Int32.toNatClampNeg (i + 3))), .int (xo_x Ω (Int32.toNatClampNeg (i + 2))), .int (xo_x Ω (Int32.toNatClampNeg (i + 1))), .ref 53] (hM p s207 t209) r
              cases q212 : g168 (xo_x Ω (Int32.toNatClampNeg (i + 1))) (xo_x Ω (Int32.toNatClampNeg (i + 2))) (xo_x Ω (Int32.toNatClampNeg (i + 3))) 1 s207 with
              | none => rw [q212] at H; cases H
              | some q2120 =>
                obtain ⟨v210 | v210, s211⟩ := q2120
                · rw [q212] at H; dsimp only at H
                  have hc := g168_run (Ω := Ω) htr (d + 218) p t209 (xo_x Ω (Int32.toNatClampNeg (i + 1))) (xo_x Ω (Int32.toNatClampNeg (i + 2))) (xo_x Ω (Int32.toNatClampNeg (i + 3))) 1 s207 q212
                  refine xp_ok htr 3 (d + 220) kc ks [eC none (hM p s211 t209)] 0 834 [some (.retAddr 0), some (.ref 0), some (.ref 53), some (.ref 92), some (.int i), some (.int v206), none] [.int (xo_x Ω (Int32.toNatClampNeg (i + 3))), .int (xo_x Ω (Int32.toNatClampNeg (i + 2))), .int (xo_x Ω (Int32.toNatClampNeg (i + 1))), .ref 53] (hM p s207 t209) ⟨hc, ?_⟩
                  show xv l Ω (d + 220) kc ks 0 842 [some (.retAddr 0), some (.ref 0), some (.ref 53), some (.ref 92), some (.int i), some (.int v206), none] [] (hM p s211 t209) r
                  cases q215 : g149  s211 with
                  | none => rw [q215] at H; cases H
                  | some q2150 =>
                    obtain ⟨v213 | v213, s214⟩ := q2150
                    · rw [q215] at H; dsimp only at H
                      have hc := g149_run (Ω := Ω) htr (d + 219) p t209  s211 q215
                      refine xp_ok htr 2 (d + 220) kc ks [eC (some (.int v213)) (hM p s214 t209)] 0 842 [some (.retAddr 0), some (.ref 0), some (.ref 53), some (.ref 92), some (.int i), some (.int v206), none] [] (hM p s211 t209) ⟨hc, ?_⟩
                      show xv l Ω (d + 220) kc ks 0 846 [some (.retAddr 0), some (.ref 0), some (.ref 53), some (.ref 92), some (.int i), some (.int v206), none] [.int v213] (hM p s214 t209) r
                      by_cases h216 : v213 = v206
                      · rw [if_pos h216] at H
                        refine xp_ok htr 2 (d + 220) kc ks [eB true] 0 846 [some (.retAddr 0), some (.ref 0), some (.ref 53), some (.ref 92), some (.int i), some (.int v206), none] [.int v213] (hM p s214 t209) ⟨h216, ?_⟩
                        show xv l Ω (d + 220) kc ks 0 853 [some (.retAddr 0), some (.ref 0), some (.ref 53), some (.ref 92), some (.int i), some (.int v206), none] [] (hM p s214 t209) r
                        cases H
                        refine xp_ok htr 3 (d + 220) kc ks [] 0 853 [some (.retAddr 0), some (.ref 0), some (.ref 53), some (.ref 92), some (.int i), some (.int v206), none] [] (hM p s214 t209) ?_
                        show xv l Ω (d + 220) kc ks 0 23 [some (.retAddr 0), some (.ref 0), some (.ref 53), some (.ref 92), some (.int (i + 5)), some (.int v206), none] [] (hM p s214 t209) r
                        exact xv_sub (L' := xx_L0 (i + 5)) ⟨rfl, rfl, rfl, rfl, rfl, trivial⟩ hk
                      · rw [if_neg h216] at H
                        cases H
                    · rw [q215] at H; cases H
                · rw [q212] at H; cases H
def gL_12 (n : Nat) (xs : Nat → Int32) (p : Nat) (i : Int32) (σ : xS) (τ : xT) : Option (xS × xT × Nat) := (bif xn (i + 1) n then (bif xn (i + 2) n then (bif xn (i + 3) n then (match g82 (((Int32.toInt64 (xs (Int32.toNatClampNeg (i + 1)))) <<< (Int32.toInt64 32 &&& 63)) ||| ((Int32.toInt64 (xs (Int32.toNatClampNeg (i + 2)))) &&& 4294967295)) (xs (Int32.toNatClampNeg (i + 3))) σ τ with | some (v220, s221, t223) => (match g169 (((Int32.toInt64 (xs (Int32.toNatClampNeg (i + 1)))) <<< (Int32.toInt64 32 &&& 63)) ||| ((Int32.toInt64 (xs (Int32.toNatClampNeg (i + 2)))) &&& 4294967295)) (xs (Int32.toNatClampNeg (i + 3))) s221 with | some (Sum.inl v224, s225) => (match g149  s225 with | some (Sum.inl v227, s228) => (if v227 = v220 then (if v220 = 0 then (if (lg_cmp (t223 92 0) (Int32.toInt64 v224)) = 0 then some (s228, t223, p) else none) else some (s228, t223, p)) else none) | some (Sum.inr _, _) => none | none => none) | some (Sum.inr _, _) => none | none => none) | none => none) else none) else none) else none)
theorem gL_12_ok {l : Launch} {Ω : xo_O} (htr : xH l) (d kc ks : Nat) (p : Nat) (i : Int32) (σ : xS) (τ : xT) (r : xv_R) {q : xS × xT × Nat} (H : gL_12 (xo_n Ω) (xo_x Ω) p i σ τ = some q) (hk : xv l Ω (d + 220) kc ks 0 23 (xx_L0 (i + 5)) [] (hM q.2.2 q.1 q.2.1) r) : xv l Ω (d + 220) (kc + 2) (ks + 12) 0 856 (xx_L0 i) [] (hM p σ τ) r := by
  unfold gL_12 at H
  cases gu217 : xn (i + 1) (xo_n Ω) with
  | false => rw [gu217, cond_false] at H; cases H
  | true =>
    rw [gu217, cond_true] at H
    refine xp_ok htr 8 (d + 220) (kc + 2) (ks + 12) [] 0 856 [some (.retAddr 0), some (.ref 0), some (.ref 53), some (.ref 92), some (.int i), none, none] [] (hM p σ τ) ⟨(xn_in gu217), ?_⟩
    show xv l Ω (d + 220) (kc + 2) (ks + 12) 0 866 [some (.retAddr 0), some (.ref 0), some (.ref 53), some (.ref 92), some (.int i), none, none] [.int 32, .long (Int32.toInt64 (xo_x Ω (Int32.toNatClampNeg (i + 1)))), .ref 0] (hM p σ τ) r
    cases gu218 : xn (i + 2) (xo_n Ω) with
    | false => rw [gu218, cond_false] at H; cases H
    | true =>
      rw [gu218, cond_true] at H
      refine xp_ok htr 8 (d + 220) (kc + 2) (ks + 12) [] 0 866 [some (.retAddr 0), some (.ref 0), some (.ref 53), some (.ref 92), some (.int i), none, none] [.int 32, .long (Int32.toInt64 (xo_x Ω (Int32.toNatClampNeg (i + 1)))), .ref 0] (hM p σ τ) ⟨(xn_in gu218), ?_⟩
      show xv l Ω (d + 220) (kc + 2) (ks + 12) 0 877 [some (.retAddr 0), some (.ref 0), some (.ref 53), some (.ref 92), some (.int i), none, none] [.long 4294967295, .long (Int32.toInt64 (xo_x Ω (Int32.toNatClampNeg (i + 2)))), .long ((Int32.toInt64 (xo_x Ω (Int32.toNatClampNeg (i + 1)))) <<< (Int32.toInt64 32 &&& 63)), .ref 0] (hM p σ τ) r
      cases gu219 : xn (i + 3) (xo_n Ω) with
      | false => rw [gu219, cond_false] at H; cases H
      | true =>
        rw [gu219, cond_true] at H
        refine xp_ok htr 8 (d + 220) (kc + 2) (ks + 12) [] 0 877 [some (.retAddr 0), some (.ref 0), some (.ref 53), some (.ref 92), some (.int i), none, none] [.long 4294967295, .long (Int32.toInt64 (xo_x Ω (Int32.toNatClampNeg (i + 2)))), .long ((Int32.toInt64 (xo_x Ω (Int32.toNatClampNeg (i + 1)))) <<< (Int32.toInt64 32 &&& 63)), .ref 0] (hM p σ τ) ⟨(xn_in gu219), ?_⟩
        show xv l Ω (d + 220) (kc + 2) (ks + 12) 0 886 [some (.retAddr 0), some (.ref 0), some (.ref 53), some (.ref 92), some (.int i), none, none] [.ref 92, .int (xo_x Ω (Int32.toNatClampNeg (i + 3))), .long (((Int32.toInt64 (xo_x Ω (Int32.toNatClampNeg (i + 1)))) <<< (Int32.toInt64 32 &&& 63)) ||| ((Int32.toInt64 (xo_x Ω (Int32.toNatClampNeg (i + 2)))) &&& 4294967295)), .ref 0] (hM p σ τ) r
        cases q222 : g82 (((Int32.toInt64 (xo_x Ω (Int32.toNatClampNeg (i + 1)))) <<< (Int32.toInt64 32 &&& 63)) ||| ((Int32.toInt64 (xo_x Ω (Int32.toNatClampNeg (i + 2)))) &&& 4294967295)) (xo_x Ω (Int32.toNatClampNeg (i + 3))) σ τ with
        | none => rw [q222] at H; cases H
        | some q2220 =>
          obtain ⟨v220, s221, t223⟩ := q2220
          rw [q222] at H; dsimp only at H
          have hc := g82_run (Ω := Ω) htr (d + 211) p τ (((Int32.toInt64 (xo_x Ω (Int32.toNatClampNeg (i + 1)))) <<< (Int32.toInt64 32 &&& 63)) ||| ((Int32.toInt64 (xo_x Ω (Int32.toNatClampNeg (i + 2)))) &&& 4294967295)) (xo_x Ω (Int32.toNatClampNeg (i + 3))) σ q222
          refine xp_ok htr 1 (d + 220) (kc + 2) (ks + 12) [eN (some (.int v220)) (hM p s221 t223) 2 12] 0 886 [some (.retAddr 0), some (.ref 0), some (.ref 53), some (.ref 92), some (.int i), none, none] [.ref 92, .int (xo_x Ω (Int32.toNatClampNeg (i + 3))), .long (((Int32.toInt64 (xo_x Ω (Int32.toNatClampNeg (i + 1)))) <<< (Int32.toInt64 32 &&& 63)) ||| ((Int32.toInt64 (xo_x Ω (Int32.toNatClampNeg (i + 2)))) &&& 4294967295)), .ref 0] (hM p σ τ) ⟨hc, ?_⟩
          show xv l Ω (d + 220) kc ks 0 889 [some (.retAddr 0), some (.ref 0), some (.ref 53), some (.ref 92), some (.int i), none, none] [.int v220] (hM p s221 t223) r
          refine xp_ok htr 8 (d + 220) kc ks [] 0 889 [some (.retAddr 0), some (.ref 0), some (.ref 53), some (.ref 92), some (.int i), none, none] [.int v220] (hM p s221 t223) ⟨(xn_in gu217), ?_⟩
          show xv l Ω (d + 220) kc ks 0 899 [some (.retAddr 0), some (.ref 0), some (.ref 53), some (.ref 92), some (.int i), some (.int v220), none] [.long (Int32.toInt64 (xo_x Ω (Int32.toNatClampNeg (i + 1)))), .ref 53] (hM p s221 t223) r
          refine xp_ok htr 8 (d + 220) kc ks [] 0 899 [some (.retAddr 0), some (.ref 0), some (.ref 53), some (.ref 92), some (.int i), some (.int v220), none] [.long (Int32.toInt64 (xo_x Ω (Int32.toNatClampNeg (i + 1)))), .ref 53] (hM p s221 t223) ⟨(xn_in gu218), ?_⟩
          show xv l Ω (d + 220) kc ks 0 909 [some (.retAddr 0), some (.ref 0), some (.ref 53), some (.ref 92), some (.int i), some (.int v220), none] [.long (Int32.toInt64 (xo_x Ω (Int32.toNatClampNeg (i + 2)))), .long ((Int32.toInt64 (xo_x Ω (Int32.toNatClampNeg (i + 1)))) <<< (Int32.toInt64 32 &&& 63)), .ref 53] (hM p s221 t223) r
          refine xp_ok htr 8 (d + 220) kc ks [] 0 909 [some (.retAddr 0), some (.ref 0), some (.ref 53), some (.ref 92), some (.int i), some (.int v220), none] [.long (Int32.toInt64 (xo_x Ω (Int32.toNatClampNeg (i + 2)))), .long ((Int32.toInt64 (xo_x Ω (Int32.toNatClampNeg (i + 1)))) <<< (Int32.toInt64 32 &&& 63)), .ref 53] (hM p s221 t223) ⟨(xn_in gu219), ?_⟩
          show xv l Ω (d + 220) kc ks 0 920 [some (.retAddr 0), some (.ref 0), some (.ref 53), some (.ref 92), some (.int i), some (.int v220), none] [.int (xo_x Ω (Int32.toNatClampNeg (i + 3))), .long (((Int32.toInt64 (xo_x Ω (Int32.toNatClampNeg (i + 1)))) <<< (Int32.toInt64 32 &&& 63)) ||| ((Int32.toInt64 (xo_x Ω (Int32.toNatClampNeg (i + 2)))) &&& 4294967295)), .ref 53] (hM p s221 t223) r
          cases q226 : g169 (((Int32.toInt64 (xo_x Ω (Int32.toNatClampNeg (i + 1)))) <<< (Int32.toInt64 32 &&& 63)) ||| ((Int32.toInt64 (xo_x Ω (Int32.toNatClampNeg (i + 2)))) &&& 4294967295)) (xo_x Ω (Int32.toNatClampNeg (i + 3))) s221 with
          | none => rw [q226] at H; cases H
          | some q2260 =>
            obtain ⟨v224 | v224, s225⟩ := q2260
            · rw [q226] at H; dsimp only at H
              have hc := g169_run (Ω := Ω) htr (d + 219) p t223 (((Int32.toInt64 (xo_x Ω (Int32.toNatClampNeg (i + 1)))) <<< (Int32.toInt64 32 &&& 63)) ||| ((Int32.toInt64 (xo_x Ω (Int32.toNatClampNeg (i + 2)))) &&& 4294967295)) (xo_x Ω (Int32.toNatClampNeg (i + 3))) s221 q226
              refine xp_ok htr 1 (d + 220) kc ks [eC (some (.int v224)) (hM p s225 t223)] 0 920 [some (.retAddr 0), some (.ref 0), some (.ref 53), some (.ref 92), some (.int i), some (.int v220), none] [.int (xo_x Ω (Int32.toNatClampNeg (i + 3))), .long (((Int32.toInt64 (xo_x Ω (Int32.toNatClampNeg (i + 1)))) <<< (Int32.toInt64 32 &&& 63)) ||| ((Int32.toInt64 (xo_x Ω (Int32.toNatClampNeg (i + 2)))) &&& 4294967295)), .ref 53] (hM p s221 t223) ⟨hc, ?_⟩
              show xv l Ω (d + 220) kc ks 0 923 [some (.retAddr 0), some (.ref 0), some (.ref 53), some (.ref 92), some (.int i), some (.int v220), none] [.int v224] (hM p s225 t223) r
              cases q229 : g149  s225 with
              | none => rw [q229] at H; cases H
              | some q2290 =>
                obtain ⟨v227 | v227, s228⟩ := q2290
                · rw [q229] at H; dsimp only at H
                  have hc := g149_run (Ω := Ω) htr (d + 219) p t223  s225 q229
                  refine xp_ok htr 3 (d + 220) kc ks [eC (some (.int v227)) (hM p s228 t223)] 0 923 [some (.retAddr 0), some (.ref 0), some (.ref 53), some (.ref 92), some (.int i), some (.int v220), none] [.int v224] (hM p s225 t223) ⟨hc, ?_⟩
                  show xv l Ω (d + 220) kc ks 0 929 [some (.retAddr 0), some (.ref 0), some (.ref 53), some (.ref 92), some (.int i), some (.int v220), some (.int v224)] [.int v227] (hM p s228 t223) r
                  by_cases h230 : v227 = v220
                  · rw [if_pos h230] at H
                    refine xp_ok htr 2 (d + 220) kc ks [eB true] 0 929 [some (.retAddr 0), some (.ref 0), some (.ref 53), some (.ref 92), some (.int i), some (.int v220), some (.int v224)] [.int v227] (hM p s228 t223) ⟨h230, ?_⟩
                    show xv l Ω (d + 220) kc ks 0 936 [some (.retAddr 0), some (.ref 0), some (.ref 53), some (.ref 92), some (.int i), some (.int v220), some (.int v224)] [] (hM p s228 t223) r
                    by_cases h231 : v220 = 0
                    · rw [if_pos h231] at H
                      refine xp_ok htr 2 (d + 220) kc ks [eB false] 0 936 [some (.retAddr 0), some (.ref 0), some (.ref 53), some (.ref 92), some (.int i), some (.int v220), some (.int v224)] [] (hM p s228 t223) ⟨h231, ?_⟩
                      show xv l Ω (d + 220) kc ks 0 941 [some (.retAddr 0), some (.ref 0), some (.ref 53), some (.ref 92), some (.int i), some (.int v220), some (.int v224)] [] (hM p s228 t223) r
                      by_cases h232 : (lg_cmp (t223 92 0) (Int32.toInt64 v224)) = 0
                      · rw [if_pos h232] at H
                        refine xp_ok htr 7 (d + 220) kc ks [eB true] 0 941 [some (.retAddr 0), some (.ref 0), some (.ref 53), some (.ref 92), some (.int i), some (.int v220), some (.int v224)] [] (hM p s228 t223) ⟨(by unfold vp_in; decide), h232, ?_⟩
                        show xv l Ω (d + 220) kc ks 0 953 [some (.retAddr 0), some (.ref 0), some (.ref 53), some (.ref 92), some (.int i), some (.int v220), some (.int v224)] [] (hM p s228 t223) r
                        cases H
                        refine xp_ok htr 3 (d + 220) kc ks [] 0 953 [some (.retAddr 0), some (.ref 0), some (.ref 53), some (.ref 92), some (.int i), some (.int v220), some (.int v224)] [] (hM p s228 t223) ?_
                        show xv l Ω (d + 220) kc ks 0 23 [some (.retAddr 0), some (.ref 0), some (.ref 53), some (.ref 92), some (.int (i + 5)), some (.int v220), some (.int v224)] [] (hM p s228 t223) r
                        exact xv_sub (L' := xx_L0 (i + 5)) ⟨rfl, rfl, rfl, rfl, rfl, trivial⟩ hk
                      · rw [if_neg h232] at H
                        cases H
                    · rw [if_neg h231] at H
                      refine xp_ok htr 2 (d + 220) kc ks [eB true] 0 936 [some (.retAddr 0), some (.ref 0), some (.ref 53), some (.ref 92), some (.int i), some (.int v220), some (.int v224)] [] (hM p s228 t223) ⟨h231, ?_⟩
                      show xv l Ω (d + 220) kc ks 0 953 [some (.retAddr 0), some (.ref 0), some (.ref 53), some (.ref 92), some (.int i), some (.int v220), some (.int v224)] [] (hM p s228 t223) r
                      cases H
                      refine xp_ok htr 3 (d + 220) kc ks [] 0 953 [some (.retAddr 0), some (.ref 0), some (.ref 53), some (.ref 92), some (.int i), some (.int v220), some (.int v224)] [] (hM p s228 t223) ?_
                      show xv l Ω (d + 220) kc ks 0 23 [some (.retAddr 0), some (.ref 0), some (.ref 53), some (.ref 92), some (.int (i + 5)), some (.int v220), some (.int v224)] [] (hM p s228 t223) r
                      exact xv_sub (L' := xx_L0 (i + 5)) ⟨rfl, rfl, rfl, rfl, rfl, trivial⟩ hk
                  · rw [if_neg h230] at H
                    cases H
                · rw [q229] at H; cases H
            · rw [q226] at H; cases H
def gL_13 (n : Nat) (xs : Nat → Int32) (p : Nat) (i : Int32) (σ : xS) (τ : xT) : Option (xS × xT × Nat) := (match g86 p  σ τ with | some (v233, s234, t236, p237) => (match g170  s234 with | some (Sum.inl v238, s239) => (match g149  s239 with | some (Sum.inl v241, s242) => (if v241 = v233 then (if v233 = 0 then (if (lg_cmp (t236 92 0) (Int32.toInt64 v238)) = 0 then some (s242, t236, p237) else none) else some (s242, t236, p237)) else none) | some (Sum.inr _, _) => none | none => none) | some (Sum.inr _, _) => none | none => none) | none => none)
theorem gL_13_ok_23 {l : Launch} {Ω : xo_O} (htr : xH l) (d kc ks : Nat) (i : Int32) (σ : xS) (τ : xT) (r : xv_R) {q : xS × xT × Nat} (H : gL_13 (xo_n Ω) (xo_x Ω) 23 i σ τ = some q) (hk : xv l Ω (d + 220) kc ks 0 23 (xx_L0 (i + 5)) [] (hM q.2.2 q.1 q.2.1) r) : xv l Ω (d + 220) (kc + 1) (ks + 6) 0 956 (xx_L0 i) [] (hM 23 σ τ) r := by
  unfold gL_13 at H
  cases q235 : g86 23  σ τ with
  | none => rw [q235] at H; cases H
  | some q2350 =>
    obtain ⟨v233, s234, t236, p237⟩ := q2350
    rw [q235] at H; dsimp only at H
    have hc := g86_run_23 (Ω := Ω) htr (d + 8)  τ  σ q235
    refine xp_ok htr 3 (d + 220) (kc + 1) (ks + 6) [eN (some (.int v233)) (hM p237 s234 t236) 1 6] 0 956 [some (.retAddr 0), some (.ref 0), some (.ref 53), some (.ref 92), some (.int i), none, none] [] (hM 23 σ τ) ⟨hc, ?_⟩
    show xv l Ω (d + 220) kc ks 0 961 [some (.retAddr 0), some (.ref 0), some (.ref 53), some (.ref 92), some (.int i), none, none] [.int v233] (hM p237 s234 t236) r
    cases q240 : g170  s234 with
    | none => rw [q240] at H; cases H
    | some q2400 =>
      obtain ⟨v238 | v238, s239⟩ := q2400
      · rw [q240] at H; dsimp only at H
        have hc := g170_run (Ω := Ω) htr (d + 213) p237 t236  s234 q240
        refine xp_ok htr 3 (d + 220) kc ks [eC (some (.int v238)) (hM p237 s239 t236)] 0 961 [some (.retAddr 0), some (.ref 0), some (.ref 53), some (.ref 92), some (.int i), none, none] [.int v233] (hM p237 s234 t236) ⟨hc, ?_⟩
        show xv l Ω (d + 220) kc ks 0 967 [some (.retAddr 0), some (.ref 0), some (.ref 53), some (.ref 92), some (.int i), some (.int v233), none] [.int v238] (hM p237 s239 t236) r
        cases q243 : g149  s239 with
        | none => rw [q243] at H; cases H
        | some q2430 =>
          obtain ⟨v241 | v241, s242⟩ := q2430
          · rw [q243] at H; dsimp only at H
            have hc := g149_run (Ω := Ω) htr (d + 219) p237 t236  s239 q243
            refine xp_ok htr 3 (d + 220) kc ks [eC (some (.int v241)) (hM p237 s242 t236)] 0 967 [some (.retAddr 0), some (.ref 0), some (.ref 53), some (.ref 92), some (.int i), some (.int v233), none] [.int v238] (hM p237 s239 t236) ⟨hc, ?_⟩
            show xv l Ω (d + 220) kc ks 0 973 [some (.retAddr 0), some (.ref 0), some (.ref 53), some (.ref 92), some (.int i), some (.int v233), some (.int v238)] [.int v241] (hM p237 s242 t236) r
            by_cases h244 : v241 = v233
            · rw [if_pos h244] at H
              refine xp_ok htr 2 (d + 220) kc ks [eB true] 0 973 [some (.retAddr 0), some (.ref 0), some (.ref 53), some (.ref 92), some (.int i), some (.int v233), some (.int v238)] [.int v241] (hM p237 s242 t236) ⟨h244, ?_⟩
              show xv l Ω (d + 220) kc ks 0 980 [some (.retAddr 0), some (.ref 0), some (.ref 53), some (.ref 92), some (.int i), some (.int v233), some (.int v238)] [] (hM p237 s242 t236) r
              by_cases h245 : v233 = 0
              · rw [if_pos h245] at H
                refine xp_ok htr 2 (d + 220) kc ks [eB false] 0 980 [some (.retAddr 0), some (.ref 0), some (.ref 53), some (.ref 92), some (.int i), some (.int v233), some (.int v238)] [] (hM p237 s242 t236) ⟨h245, ?_⟩
                show xv l Ω (d + 220) kc ks 0 985 [some (.retAddr 0), some (.ref 0), some (.ref 53), some (.ref 92), some (.int i), some (.int v233), some (.int v238)] [] (hM p237 s242 t236) r
                by_cases h246 : (lg_cmp (t236 92 0) (Int32.toInt64 v238)) = 0
                · rw [if_pos h246] at H
                  refine xp_ok htr 7 (d + 220) kc ks [eB true] 0 985 [some (.retAddr 0), some (.ref 0), some (.ref 53), some (.ref 92), some (.int i), some (.int v233), some (.int v238)] [] (hM p237 s242 t236) ⟨(by unfold vp_in; decide), h246, ?_⟩
                  show xv l Ω (d + 220) kc ks 0 997 [some (.retAddr 0), some (.ref 0), some (.ref 53), some (.ref 92), some (.int i), some (.int v233), some (.int v238)] [] (hM p237 s242 t236) r
                  cases H
                  refine xp_ok htr 3 (d + 220) kc ks [] 0 997 [some (.retAddr 0), some (.ref 0), some (.ref 53), some (.ref 92), some (.int i), some (.int v233), some (.int v238)] [] (hM p237 s242 t236) ?_
                  show xv l Ω (d + 220) kc ks 0 23 [some (.retAddr 0), some (.ref 0), some (.ref 53), some (.ref 92), some (.int (i + 5)), some (.int v233), some (.int v238)] [] (hM p237 s242 t236) r
                  exact xv_sub (L' := xx_L0 (i + 5)) ⟨rfl, rfl, rfl, rfl, rfl, trivial⟩ hk
                · rw [if_neg h246] at H
                  cases H
              · rw [if_neg h245] at H
                refine xp_ok htr 2 (d + 220) kc ks [eB true] 0 980 [some (.retAddr 0), some (.ref 0), some (.ref 53), some (.ref 92), some (.int i), some (.int v233), some (.int v238)] [] (hM p237 s242 t236) ⟨h245, ?_⟩
                show xv l Ω (d + 220) kc ks 0 997 [some (.retAddr 0), some (.ref 0), some (.ref 53), some (.ref 92), some (.int i), some (.int v233), some (.int v238)] [] (hM p237 s242 t236) r
                cases H
                refine xp_ok htr 3 (d + 220) kc ks [] 0 997 [some (.retAddr 0), some (.ref 0), some (.ref 53), some (.ref 92), some (.int i), some (.int v233), some (.int v238)] [] (hM p237 s242 t236) ?_
                show xv l Ω (d + 220) kc ks 0 23 [some (.retAddr 0), some (.ref 0), some (.ref 53), some (.ref 92), some (.int (i + 5)), some (.int v233), some (.int v238)] [] (hM p237 s242 t236) r
                exact xv_sub (L' := xx_L0 (i + 5)) ⟨rfl, rfl, rfl, rfl, rfl, trivial⟩ hk
            · rw [if_neg h244] at H
              cases H
          · rw [q243] at H; cases H
      · rw [q240] at H; cases H
theorem gL_13_ok_36 {l : Launch} {Ω : xo_O} (htr : xH l) (d kc ks : Nat) (i : Int32) (σ : xS) (τ : xT) (r : xv_R) {q : xS × xT × Nat} (H : gL_13 (xo_n Ω) (xo_x Ω) 36 i σ τ = some q) (hk : xv l Ω (d + 220) kc ks 0 23 (xx_L0 (i + 5)) [] (hM q.2.2 q.1 q.2.1) r) : xv l Ω (d + 220) (kc + 1) (ks + 6) 0 956 (xx_L0 i) [] (hM 36 σ τ) r := by
  unfold gL_13 at H
  cases q235 : g86 36  σ τ with
  | none => rw [q235] at H; cases H
  | some q2350 =>
    obtain ⟨v233, s234, t236, p237⟩ := q2350
    rw [q235] at H; dsimp only at H
    have hc := g86_run_36 (Ω := Ω) htr (d + 8)  τ  σ q235
    refine xp_ok htr 3 (d + 220) (kc + 1) (ks + 6) [eN (some (.int v233)) (hM p237 s234 t236) 1 6] 0 956 [some (.retAddr 0), some (.ref 0), some (.ref 53), some (.ref 92), some (.int i), none, none] [] (hM 36 σ τ) ⟨hc, ?_⟩
    show xv l Ω (d + 220) kc ks 0 961 [some (.retAddr 0), some (.ref 0), some (.ref 53), some (.ref 92), some (.int i), none, none] [.int v233] (hM p237 s234 t236) r
    cases q240 : g170  s234 with
    | none => rw [q240] at H; cases H
    | some q2400 =>
      obtain ⟨v238 | v238, s239⟩ := q2400
      · rw [q240] at H; dsimp only at H
        have hc := g170_run (Ω := Ω) htr (d + 213) p237 t236  s234 q240
        refine xp_ok htr 3 (d + 220) kc ks [eC (some (.int v238)) (hM p237 s239 t236)] 0 961 [some (.retAddr 0), some (.ref 0), some (.ref 53), some (.ref 92), some (.int i), none, none] [.int v233] (hM p237 s234 t236) ⟨hc, ?_⟩
        show xv l Ω (d + 220) kc ks 0 967 [some (.retAddr 0), some (.ref 0), some (.ref 53), some (.ref 92), some (.int i), some (.int v233), none] [.int v238] (hM p237 s239 t236) r
        cases q243 : g149  s239 with
        | none => rw [q243] at H; cases H
        | some q2430 =>
          obtain ⟨v241 | v241, s242⟩ := q2430
          · rw [q243] at H; dsimp only at H
            have hc := g149_run (Ω := Ω) htr (d + 219) p237 t236  s239 q243
            refine xp_ok htr 3 (d + 220) kc ks [eC (some (.int v241)) (hM p237 s242 t236)] 0 967 [some (.retAddr 0), some (.ref 0), some (.ref 53), some (.ref 92), some (.int i), some (.int v233), none] [.int v238] (hM p237 s239 t236) ⟨hc, ?_⟩
            show xv l Ω (d + 220) kc ks 0 973 [some (.retAddr 0), some (.ref 0), some (.ref 53), some (.ref 92), some (.int i), some (.int v233), some (.int v238)] [.int v241] (hM p237 s242 t236) r
            by_cases h244 : v241 = v233
            · rw [if_pos h244] at H
              refine xp_ok htr 2 (d + 220) kc ks [eB true] 0 973 [some (.retAddr 0), some (.ref 0), some (.ref 53), some (.ref 92), some (.int i), some (.int v233), some (.int v238)] [.int v241] (hM p237 s242 t236) ⟨h244, ?_⟩
              show xv l Ω (d + 220) kc ks 0 980 [some (.retAddr 0), some (.ref 0), some (.ref 53), some (.ref 92), some (.int i), some (.int v233), some (.int v238)] [] (hM p237 s242 t236) r
              by_cases h245 : v233 = 0
              · rw [if_pos h245] at H
                refine xp_ok htr 2 (d + 220) kc ks [eB false] 0 980 [some (.retAddr 0), some (.ref 0), some (.ref 53), some (.ref 92), some (.int i), some (.int v233), some (.int v238)] [] (hM p237 s242 t236) ⟨h245, ?_⟩
                show xv l Ω (d + 220) kc ks 0 985 [some (.retAddr 0), some (.ref 0), some (.ref 53), some (.ref 92), some (.int i), some (.int v233), some (.int v238)] [] (hM p237 s242 t236) r
                by_cases h246 : (lg_cmp (t236 92 0) (Int32.toInt64 v238)) = 0
                · rw [if_pos h246] at H
                  refine xp_ok htr 7 (d + 220) kc ks [eB true] 0 985 [some (.retAddr 0), some (.ref 0), some (.ref 53), some (.ref 92), some (.int i), some (.int v233), some (.int v238)] [] (hM p237 s242 t236) ⟨(by unfold vp_in; decide), h246, ?_⟩
                  show xv l Ω (d + 220) kc ks 0 997 [some (.retAddr 0), some (.ref 0), some (.ref 53), some (.ref 92), some (.int i), some (.int v233), some (.int v238)] [] (hM p237 s242 t236) r
                  cases H
                  refine xp_ok htr 3 (d + 220) kc ks [] 0 997 [some (.retAddr 0), some (.ref 0), some (.ref 53), some (.ref 92), some (.int i), some (.int v233), some (.int v238)] [] (hM p237 s242 t236) ?_
                  show xv l Ω (d + 220) kc ks 0 23 [some (.retAddr 0), some (.ref 0), some (.ref 53), some (.ref 92), some (.int (i + 5)), some (.int v233), some (.int v238)] [] (hM p237 s242 t236) r
                  exact xv_sub (L' := xx_L0 (i + 5)) ⟨rfl, rfl, rfl, rfl, rfl, trivial⟩ hk
                · rw [if_neg h246] at H
                  cases H
              · rw [if_neg h245] at H
                refine xp_ok htr 2 (d + 220) kc ks [eB true] 0 980 [some (.retAddr 0), some (.ref 0), some (.ref 53), some (.ref 92), some (.int i), some (.int v233), some (.int v238)] [] (hM p237 s242 t236) ⟨h245, ?_⟩
                show xv l Ω (d + 220) kc ks 0 997 [some (.retAddr 0), some (.ref 0), some (.ref 53), some (.ref 92), some (.int i), some (.int v233), some (.int v238)] [] (hM p237 s242 t236) r
                cases H
                refine xp_ok htr 3 (d + 220) kc ks [] 0 997 [some (.retAddr 0), some (.ref 0), some (.ref 53), some (.ref 92), some (.int i), some (.int v233), some (.int v238)] [] (hM p237 s242 t236) ?_
                show xv l Ω (d + 220) kc ks 0 23 [some (.retAddr 0), some (.ref 0), some (.ref 53), some (.ref 92), some (.int (i + 5)), some (.int v233), some (.int v238)] [] (hM p237 s242 t236) r
                exact xv_sub (L' := xx_L0 (i + 5)) ⟨rfl, rfl, rfl, rfl, rfl, trivial⟩ hk
            · rw [if_neg h244] at H
              cases H
          · rw [q243] at H; cases H
      · rw [q240] at H; cases H
def gL_14 (n : Nat) (xs : Nat → Int32) (p : Nat) (i : Int32) (σ : xS) (τ : xT) : Option (xS × xT × Nat) := (match g13  σ with | some (Sum.inl v247, s248) => (match g188  s248 with | some (Sum.inl v250, s251) => (if v247 = v250 then some (s251, τ, p) else none) | some (Sum.inr _, _) => none | none => none) | some (Sum.inr _, _) => none | none => none)
theorem gL_14_ok {l : Launch} {Ω : xo_O} (htr : xH l) (d kc ks : Nat) (p : Nat) (i : Int32) (σ : xS) (τ : xT) (r : xv_R) {q : xS × xT × Nat} (H : gL_14 (xo_n Ω) (xo_x Ω) p i σ τ = some q) (hk : xv l Ω (d + 220) kc ks 0 23 (xx_L0 (i + 5)) [] (hM q.2.2 q.1 q.2.1) r) : xv l Ω (d + 220) kc ks 0 1000 (xx_L0 i) [] (hM p σ τ) r := by
  unfold gL_14 at H
  cases q249 : g13  σ with
  | none => rw [q249] at H; cases H
  | some q2490 =>
    obtain ⟨v247 | v247, s248⟩ := q2490
    · rw [q249] at H; dsimp only at H
      have hc := g13_run (Ω := Ω) htr (d + 219) p τ  σ q249
      refine xp_ok htr 2 (d + 220) kc ks [eC (some (.int v247)) (hM p s248 τ)] 0 1000 [some (.retAddr 0), some (.ref 0), some (.ref 53), some (.ref 92), some (.int i), none, none] [] (hM p σ τ) ⟨hc, ?_⟩
      show xv l Ω (d + 220) kc ks 0 1004 [some (.retAddr 0), some (.ref 0), some (.ref 53), some (.ref 92), some (.int i), none, none] [.int v247] (hM p s248 τ) r
      cases q252 : g188  s248 with
      | none => rw [q252] at H; cases H
      | some q2520 =>
        obtain ⟨v250 | v250, s251⟩ := q2520
        · rw [q252] at H; dsimp only at H
          have hc := g188_run (Ω := Ω) htr (d + 219) p τ  s248 q252
          refine xp_ok htr 2 (d + 220) kc ks [eC (some (.int v250)) (hM p s251 τ)] 0 1004 [some (.retAddr 0), some (.ref 0), some (.ref 53), some (.ref 92), some (.int i), none, none] [.int v247] (hM p s248 τ) ⟨hc, ?_⟩
          show xv l Ω (d + 220) kc ks 0 1008 [some (.retAddr 0), some (.ref 0), some (.ref 53), some (.ref 92), some (.int i), none, none] [.int v250, .int v247] (hM p s251 τ) r
          by_cases h253 : v247 = v250
          · rw [if_pos h253] at H
            refine xp_ok htr 1 (d + 220) kc ks [eB true] 0 1008 [some (.retAddr 0), some (.ref 0), some (.ref 53), some (.ref 92), some (.int i), none, none] [.int v250, .int v247] (hM p s251 τ) ⟨h253, ?_⟩
            show xv l Ω (d + 220) kc ks 0 1338 [some (.retAddr 0), some (.ref 0), some (.ref 53), some (.ref 92), some (.int i), none, none] [] (hM p s251 τ) r
            cases H
            refine xp_ok htr 2 (d + 220) kc ks [] 0 1338 [some (.retAddr 0), some (.ref 0), some (.ref 53), some (.ref 92), some (.int i), none, none] [] (hM p s251 τ) ?_
            show xv l Ω (d + 220) kc ks 0 23 [some (.retAddr 0), some (.ref 0), some (.ref 53), some (.ref 92), some (.int (i + 5)), none, none] [] (hM p s251 τ) r
            exact xv_sub (L' := xx_L0 (i + 5)) ⟨rfl, rfl, rfl, rfl, rfl, trivial⟩ hk
          · rw [if_neg h253] at H
            cases H
        · rw [q252] at H; cases H
    · rw [q249] at H; cases H
def gL_15 (n : Nat) (xs : Nat → Int32) (p : Nat) (i : Int32) (σ : xS) (τ : xT) : Option (xS × xT × Nat) := (bif xn (i + 1) n then (bif xn (i + 2) n then (bif xn (i + 3) n then (bif xn (i + 4) n then (match g111 p (xs (Int32.toNatClampNeg (i + 1))) (xs (Int32.toNatClampNeg (i + 2))) (xs (Int32.toNatClampNeg (i + 3))) (xs (Int32.toNatClampNeg (i + 4))) σ τ with | some (v258, s259, t261) => (match g189 (xs (Int32.toNatClampNeg (i + 1))) (xs (Int32.toNatClampNeg (i + 2))) (xs (Int32.toNatClampNeg (i + 3))) (xs (Int32.toNatClampNeg (i + 4))) s259 with | some (Sum.inl v262, s263) => (match g149  s263 with | some (Sum.inl v265, s266) => (if v265 = v258 then (if v258 = 0 then (if (lg_cmp (t261 92 0) (Int32.toInt64 v262)) = 0 then some (s266, t261, p) else none) else some (s266, t261, p)) else none) | some (Sum.inr _, _) => none | none => none) | some (Sum.inr _, _) => none | none => none) | none => none) else none) else none) else none) else none)
theorem gL_15_ok_23 {l : Launch} {Ω : xo_O} (htr : xH l) (d kc ks : Nat) (i : Int32) (σ : xS) (τ : xT) (r : xv_R) {q : xS × xT × Nat} (H : gL_15 (xo_n Ω) (xo_x Ω) 23 i σ τ = some q) (hk : xv l Ω (d + 220) kc ks 0 23 (xx_L0 (i + 5)) [] (hM q.2.2 q.1 q.2.1) r) : xv l Ω (d + 220) (kc + 3) (ks + 18) 0 1013 (xx_L0 i) [] (hM 23 σ τ) r := by
  unfold gL_15 at H
  cases gu254 : xn (i + 1) (xo_n Ω) with
  | false => rw [gu254, cond_false] at H; cases H
  | true =>
    rw [gu254, cond_true] at H
    refine xp_ok htr 8 (d + 220) (kc + 3) (ks + 18) [] 0 1013 [some (.retAddr 0), some (.ref 0), some (.ref 53), some (.ref 92), some (.int i), none, none] [] (hM 23 σ τ) ⟨(xn_in gu254), ?_⟩
    show xv l Ω (d + 220) (kc + 3) (ks + 18) 0 1023 [some (.retAddr 0), some (.ref 0), some (.ref 53), some (.ref 92), some (.int i), none, none] [.int i, .retAddr 0, .int (xo_x Ω (Int32.toNatClampNeg (i + 1))), .ref 0] (hM 23 σ τ) r
    cases gu255 : xn (i + 2) (xo_n Ω) with
    | false => rw [gu255, cond_false] at H; cases H
    | true =>
      rw [gu255, cond_true] at H
      cases gu256 : xn (i + 3) (xo_n Ω) with
      | false => rw [gu256, cond_false] at H; cases H
      | true =>
        rw [gu256, cond_true] at H
        refine xp_ok htr 8 (d + 220) (kc + 3) (ks + 18) [] 0 1023 [some (.retAddr 0), some (.ref 0), some (.ref 53), some (.ref 92), some (.int i), none, none] [.int i, .retAddr 0, .int (xo_x Ω (Int32.toNatClampNeg (i + 1))), .ref 0] (hM 23 σ τ) ⟨(xn_in gu255), (xn_in gu256), ?_⟩
        show xv l Ω (d + 220) (kc + 3) (ks + 18) 0 1032 [some (.retAddr 0), some (.ref 0), some (.ref 53), some (.ref 92), some (.int i), none, none] [.int (xo_x Ω (Int32.toNatClampNeg (i + 3))), .int (xo_x Ω (Int32.toNatClampNeg (i + 2))), .int (xo_x Ω (Int32.toNatClampNeg (i + 1))), .ref 0] (hM 23 σ τ) r
        cases gu257 : xn (i + 4) (xo_n Ω) with
        | false => rw [gu257, cond_false] at H; cases H
        | true =>
          rw [gu257, cond_true] at H
          cases q260 : g111 23 (xo_x Ω (Int32.toNatClampNeg (i + 1))) (xo_x Ω (Int32.toNatClampNeg (i + 2))) (xo_x Ω (Int32.toNatClampNeg (i + 3))) (xo_x Ω (Int32.toNatClampNeg (i + 4))) σ τ with
          | none => rw [q260] at H; cases H
          | some q2600 =>
            obtain ⟨v258, s259, t261⟩ := q2600
            rw [q260] at H; dsimp only at H
            have hc := g111_run_23 (Ω := Ω) htr (d + 211)  τ (xo_x Ω (Int32.toNatClampNeg (i + 1))) (xo_x Ω (Int32.toNatClampNeg (i + 2))) (xo_x Ω (Int32.toNatClampNeg (i + 3))) (xo_x Ω (Int32.toNatClampNeg (i + 4))) σ q260
            refine xp_ok htr 7 (d + 220) (kc + 3) (ks + 18) [eN (some (.int v258)) (hM 23 s259 t261) 3 18] 0 1032 [some (.retAddr 0), some (.ref 0), some (.ref 53), some (.ref 92), some (.int i), none, none] [.int (xo_x Ω (Int32.toNatClampNeg (i + 3))), .int (xo_x Ω (Int32.toNatClampNeg (i + 2))), .int (xo_x Ω (Int32.toNatClampNeg (i + 1))), .ref 0] (hM 23 σ τ) ⟨(xn_in gu257), hc, ?_⟩
            show xv l Ω (d + 220) kc ks 0 1042 [some (.retAddr 0), some (.ref 0), some (.ref 53), some (.ref 92), some (.int i), none, none] [.int v258] (hM 23 s259 t261) r
            refine xp_ok htr 8 (d + 220) kc ks [] 0 1042 [some (.retAddr 0), some (.ref 0), some (.ref 53), some (.ref 92), some (.int i), none, none] [.int v258] (hM 23 s259 t261) ⟨(xn_in gu254), ?_⟩
            show xv l Ω (d + 220) kc ks 0 1052 [some (.retAddr 0), some (.ref 0), some (.ref 53), some (.ref 92), some (.int i), some (.int v258), none] [.retAddr 0, .int (xo_x Ω (Int32.toNatClampNeg (i + 1))), .ref 53] (hM 23 s259 t261) r
            refine xp_ok htr 8 (d + 220) kc ks [] 0 1052 [some (.retAddr 0), some (.ref 0), some (.ref 53), some (.ref 92), some (.int i), some (.int v258), none] [.retAddr 0, .int (xo_x Ω (Int32.toNatClampNeg (i + 1))), .ref 53] (hM 23 s259 t261) ⟨(xn_in gu255), ?_⟩
            show xv l Ω (d + 220) kc ks 0 1062 [some (.retAddr 0), some (.ref 0), some (.ref 53), some (.ref 92), some (.int i), some (.int v258), none] [.int (i + 3), .retAddr 0, .int (xo_x Ω (Int32.toNatClampNeg (i + 2))), .int (xo_x Ω (Int32.toNatClampNeg (i + 1))), .ref 53] (hM 23 s259 t261) r
            cases q264 : g189 (xo_x Ω (Int32.toNatClampNeg (i + 1))) (xo_x Ω (Int32.toNatClampNeg (i + 2))) (xo_x Ω (Int32.toNatClampNeg (i + 3))) (xo_x Ω (Int32.toNatClampNeg (i + 4))) s259 with
            | none => rw [q264] at H; cases H
            | some q2640 =>
              obtain ⟨v262 | v262, s263⟩ := q2640
              · rw [q264] at H; dsimp only at H
                have hc := g189_run (Ω := Ω) htr (d + 213) 23 t261 (xo_x Ω (Int32.toNatClampNeg (i + 1))) (xo_x Ω (Int32.toNatClampNeg (i + 2))) (xo_x Ω (Int32.toNatClampNeg (i + 3))) (xo_x Ω (Int32.toNatClampNeg (i + 4))) s259 q264
                refine xp_ok htr 7 (d + 220) kc ks [eC (some (.int v262)) (hM 23 s263 t261)] 0 1062 [some (.retAddr 0), some (.ref 0), some (.ref 53), some (.ref 92), some (.int i), some (.int v258), none] [.int (i + 3), .retAddr 0, .int (xo_x Ω (Int32.toNatClampNeg (i + 2))), .int (xo_x Ω (Int32.toNatClampNeg (i + 1))), .ref 53] (hM 23 s259 t261) ⟨(xn_in gu256), (xn_in gu257), hc, ?_⟩
                show xv l Ω (d + 220) kc ks 0 1072 [some (.retAddr 0), some (.ref 0), some (.ref 53), some (.ref 92), some (.int i), some (.int v258), none] [.int v262] (hM 23 s263 t261) r
                cases q267 : g149  s263 with
                | none => rw [q267] at H; cases H
                | some q2670 =>
                  obtain ⟨v265 | v265, s266⟩ := q2670
                  · rw [q267] at H; dsimp only at H
                    have hc := g149_run (Ω := Ω) htr (d + 219) 23 t261  s263 q267
                    refine xp_ok htr 3 (d + 220) kc ks [eC (some (.int v265)) (hM 23 s266 t261)] 0 1072 [some (.retAddr 0), some (.ref 0), some (.ref 53), some (.ref 92), some (.int i), some (.int v258), none] [.int v262] (hM 23 s263 t261) ⟨hc, ?_⟩
                    show xv l Ω (d + 220) kc ks 0 1078 [some (.retAddr 0), some (.ref 0), some (.ref 53), some (.ref 92), some (.int i), some (.int v258), some (.int v262)] [.int v265] (hM 23 s266 t261) r
                    by_cases h268 : v265 = v258
                    · rw [if_pos h268] at H
                      refine xp_ok htr 2 (d + 220) kc ks [eB true] 0 1078 [some (.retAddr 0), some (.ref 0), some (.ref 53), some (.ref 92), some (.int i), some (.int v258), some (.int v262)] [.int v265] (hM 23 s266 t261) ⟨h268, ?_⟩
                      show xv l Ω (d + 220) kc ks 0 1085 [some (.retAddr 0), some (.ref 0), some (.ref 53), some (.ref 92), some (.int i), some (.int v258), some (.int v262)] [] (hM 23 s266 t261) r
                      by_cases h269 : v258 = 0
                      · rw [if_pos h269] at H
                        refine xp_ok htr 2 (d + 220) kc ks [eB false] 0 1085 [some (.retAddr 0), some (.ref 0), some (.ref 53), some (.ref 92), some (.int i), some (.int v258), some (.int v262)] [] (hM 23 s266 t261) ⟨h269, ?_⟩
                        show xv l Ω (d + 220) kc ks 0 1090 [some (.retAddr 0), some (.ref 0), some (.ref 53), some (.ref 92), some (.int i), some (.int v258), some (.int v262)] [] (hM 23 s266 t261) r
                        by_cases h270 : (lg_cmp (t261 92 0) (Int32.toInt64 v262)) = 0
                        · rw [if_pos h270] at H
                          refine xp_ok htr 7 (d + 220) kc ks [eB true] 0 1090 [some (.retAddr 0), some (.ref 0), some (.ref 53), some (.ref 92), some (.int i), some (.int v258), some (.int v262)] [] (hM 23 s266 t261) ⟨(by unfold vp_in; decide), h270, ?_⟩
                          show xv l Ω (d + 220) kc ks 0 1102 [some (.retAddr 0), some (.ref 0), some (.ref 53), some (.ref 92), some (.int i), some (.int v258), some (.int v262)] [] (hM 23 s266 t261) r
                          cases H
                          refine xp_ok htr 3 (d + 220) kc ks [] 0 1102 [some (.retAddr 0), some (.ref 0), some (.ref 53), some (.ref 92), some (.int i), some (.int v258), some (.int v262)] [] (hM 23 s266 t261) ?_
                          show xv l Ω (d + 220) kc ks 0 23 [some (.retAddr 0), some (.ref 0), some (.ref 53), some (.ref 92), some (.int (i + 5)), some (.int v258), some (.int v262)] [] (hM 23 s266 t261) r
                          exact xv_sub (L' := xx_L0 (i + 5)) ⟨rfl, rfl, rfl, rfl, rfl, trivial⟩ hk
                        · rw [if_neg h270] at H
                          cases H
                      · rw [if_neg h269] at H
                        refine xp_ok htr 2 (d + 220) kc ks [eB true] 0 1085 [some (.retAddr 0), some (.ref 0), some (.ref 53), some (.ref 92), some (.int i), some (.int v258), some (.int v262)] [] (hM 23 s266 t261) ⟨h269, ?_⟩
                        show xv l Ω (d + 220) kc ks 0 1102 [some (.retAddr 0), some (.ref 0), some (.ref 53), some (.ref 92), some (.int i), some (.int v258), some (.int v262)] [] (hM 23 s266 t261) r
                        cases H
                        refine xp_ok htr 3 (d + 220) kc ks [] 0 1102 [some (.retAddr 0), some (.ref 0), some (.ref 53), some (.ref 92), some (.int i), some (.int v258), some (.int v262)] [] (hM 23 s266 t261) ?_
                        show xv l Ω (d + 220) kc ks 0 23 [some (.retAddr 0), some (.ref 0), some (.ref 53), some (.ref 92), some (.int (i + 5)), some (.int v258), some (.int v262)] [] (hM 23 s266 t261) r
                        exact xv_sub (L' := xx_L0 (i + 5)) ⟨rfl, rfl, rfl, rfl, rfl, trivial⟩ hk
                    · rw [if_neg h268] at H
                      cases H
                  · rw [q267] at H; cases H
              · rw [q264] at H; cases H
theorem gL_15_ok_36 {l : Launch} {Ω : xo_O} (htr : xH l) (d kc ks : Nat) (i : Int32) (σ : xS) (τ : xT) (r : xv_R) {q : xS × xT × Nat} (H : gL_15 (xo_n Ω) (xo_x Ω) 36 i σ τ = some q) (hk : xv l Ω (d + 220) kc ks 0 23 (xx_L0 (i + 5)) [] (hM q.2.2 q.1 q.2.1) r) : xv l Ω (d + 220) (kc + 3) (ks + 18) 0 1013 (xx_L0 i) [] (hM 36 σ τ) r := by
  unfold gL_15 at H
  cases gu254 : xn (i + 1) (xo_n Ω) with
  | false => rw [gu254, cond_false] at H; cases H
  | true =>
    rw [gu254, cond_true] at H
    refine xp_ok htr 8 (d + 220) (kc + 3) (ks + 18) [] 0 1013 [some (.retAddr 0), some (.ref 0), some (.ref 53), some (.ref 92), some (.int i), none, none] [] (hM 36 σ τ) ⟨(xn_in gu254), ?_⟩
    show xv l Ω (d + 220) (kc + 3) (ks + 18) 0 1023 [some (.retAddr 0), some (.ref 0), some (.ref 53), some (.ref 92), some (.int i), none, none] [.int i, .retAddr 0, .int (xo_x Ω (Int32.toNatClampNeg (i + 1))), .ref 0] (hM 36 σ τ) r
    cases gu255 : xn (i + 2) (xo_n Ω) with
    | false => rw [gu255, cond_false] at H; cases H
    | true =>
      rw [gu255, cond_true] at H
      cases gu256 : xn (i + 3) (xo_n Ω) with
      | false => rw [gu256, cond_false] at H; cases H
      | true =>
        rw [gu256, cond_true] at H
        refine xp_ok htr 8 (d + 220) (kc + 3) (ks + 18) [] 0 1023 [some (.retAddr 0), some (.ref 0), some (.ref 53), some (.ref 92), some (.int i), none, none] [.int i, .retAddr 0, .int (xo_x Ω (Int32.toNatClampNeg (i + 1))), .ref 0] (hM 36 σ τ) ⟨(xn_in gu255), (xn_in gu256), ?_⟩
        show xv l Ω (d + 220) (kc + 3) (ks + 18) 0 1032 [some (.retAddr 0), some (.ref 0), some (.ref 53), some (.ref 92), some (.int i), none, none] [.int (xo_x Ω (Int32.toNatClampNeg (i + 3))), .int (xo_x Ω (Int32.toNatClampNeg (i + 2))), .int (xo_x Ω (Int32.toNatClampNeg (i + 1))), .ref 0] (hM 36 σ τ) r
        cases gu257 : xn (i + 4) (xo_n Ω) with
        | false => rw [gu257, cond_false] at H; cases H
        | true =>
          rw [gu257, cond_true] at H
          cases q260 : g111 36 (xo_x Ω (Int32.toNatClampNeg (i + 1))) (xo_x Ω (Int32.toNatClampNeg (i + 2))) (xo_x Ω (Int32.toNatClampNeg (i + 3))) (xo_x Ω (Int32.toNatClampNeg (i + 4))) σ τ with
          | none => rw [q260] at H; cases H
          | some q2600 =>
            obtain ⟨v258, s259, t261⟩ := q2600
            rw [q260] at H; dsimp only at H
            have hc := g111_run_36 (Ω := Ω) htr (d + 211)  τ (xo_x Ω (Int32.toNatClampNeg (i + 1))) (xo_x Ω (Int32.toNatClampNeg (i + 2))) (xo_x Ω (Int32.toNatClampNeg (i + 3))) (xo_x Ω (Int32.toNatClampNeg (i + 4))) σ q260
            refine xp_ok htr 7 (d + 220) (kc + 3) (ks + 18) [eN (some (.int v258)) (hM 36 s259 t261) 3 18] 0 1032 [some (.retAddr 0), some (.ref 0), some (.ref 53), some (.ref 92), some (.int i), none, none] [.int (xo_x Ω (Int32.toNatClampNeg (i + 3))), .int (xo_x Ω (Int32.toNatClampNeg (i + 2))), .int (xo_x Ω (Int32.toNatClampNeg (i + 1))), .ref 0] (hM 36 σ τ) ⟨(xn_in gu257), hc, ?_⟩
            show xv l Ω (d + 220) kc ks 0 1042 [some (.retAddr 0), some (.ref 0), some (.ref 53), some (.ref 92), some (.int i), none, none] [.int v258] (hM 36 s259 t261) r
            refine xp_ok htr 8 (d + 220) kc ks [] 0 1042 [some (.retAddr 0), some (.ref 0), some (.ref 53), some (.ref 92), some (.int i), none, none] [.int v258] (hM 36 s259 t261) ⟨(xn_in gu254), ?_⟩
            show xv l Ω (d + 220) kc ks 0 1052 [some (.retAddr 0), some (.ref 0), some (.ref 53), some (.ref 92), some (.int i), some (.int v258), none] [.retAddr 0, .int (xo_x Ω (Int32.toNatClampNeg (i + 1))), .ref 53] (hM 36 s259 t261) r
            refine xp_ok htr 8 (d + 220) kc ks [] 0 1052 [some (.retAddr 0), some (.ref 0), some (.ref 53), some (.ref 92), some (.int i), some (.int v258), none] [.retAddr 0, .int (xo_x Ω (Int32.toNatClampNeg (i + 1))), .ref 53] (hM 36 s259 t261) ⟨(xn_in gu255), ?_⟩
            show xv l Ω (d + 220) kc ks 0 1062 [some (.retAddr 0), some (.ref 0), some (.ref 53), some (.ref 92), some (.int i), some (.int v258), none] [.int (i + 3), .retAddr 0, .int (xo_x Ω (Int32.toNatClampNeg (i + 2))), .int (xo_x Ω (Int32.toNatClampNeg (i + 1))), .ref 53] (hM 36 s259 t261) r
            cases q264 : g189 (xo_x Ω (Int32.toNatClampNeg (i + 1))) (xo_x Ω (Int32.toNatClampNeg (i + 2))) (xo_x Ω (Int32.toNatClampNeg (i + 3))) (xo_x Ω (Int32.toNatClampNeg (i + 4))) s259 with
            | none => rw [q264] at H; cases H
            | some q2640 =>
              obtain ⟨v262 | v262, s263⟩ := q2640
              · rw [q264] at H; dsimp only at H
                have hc := g189_run (Ω := Ω) htr (d + 213) 36 t261 (xo_x Ω (Int32.toNatClampNeg (i + 1))) (xo_x Ω (Int32.toNatClampNeg (i + 2))) (xo_x Ω (Int32.toNatClampNeg (i + 3))) (xo_x Ω (Int32.toNatClampNeg (i + 4))) s259 q264
                refine xp_ok htr 7 (d + 220) kc ks [eC (some (.int v262)) (hM 36 s263 t261)] 0 1062 [some (.retAddr 0), some (.ref 0), some (.ref 53), some (.ref 92), some (.int i), some (.int v258), none] [.int (i + 3), .retAddr 0, .int (xo_x Ω (Int32.toNatClampNeg (i + 2))), .int (xo_x Ω (Int32.toNatClampNeg (i + 1))), .ref 53] (hM 36 s259 t261) ⟨(xn_in gu256), (xn_in gu257), hc, ?_⟩
                show xv l Ω (d + 220) kc ks 0 1072 [some (.retAddr 0), some (.ref 0), some (.ref 53), some (.ref 92), some (.int i), some (.int v258), none] [.int v262] (hM 36 s263 t261) r
                cases q267 : g149  s263 with
                | none => rw [q267] at H; cases H
                | some q2670 =>
                  obtain ⟨v265 | v265, s266⟩ := q2670
                  · rw [q267] at H; dsimp only at H
                    have hc := g149_run (Ω := Ω) htr (d + 219) 36 t261  s263 q267
                    refine xp_ok htr 3 (d + 220) kc ks [eC (some (.int v265)) (hM 36 s266 t261)] 0 1072 [some (.retAddr 0), some (.ref 0), some (.ref 53), some (.ref 92), some (.int i), some (.int v258), none] [.int v262] (hM 36 s263 t261) ⟨hc, ?_⟩
                    show xv l Ω (d + 220) kc ks 0 1078 [some (.retAddr 0), some (.ref 0), some (.ref 53), some (.ref 92), some (.int i), some (.int v258), some (.int v262)] [.int v265] (hM 36 s266 t261) r
                    by_cases h268 : v265 = v258
                    · rw [if_pos h268] at H
                      refine xp_ok htr 2 (d + 220) kc ks [eB true] 0 1078 [some (.retAddr 0), some (.ref 0), some (.ref 53), some (.ref 92), some (.int i), some (.int v258), some (.int v262)] [.int v265] (hM 36 s266 t261) ⟨h268, ?_⟩
                      show xv l Ω (d + 220) kc ks 0 1085 [some (.retAddr 0), some (.ref 0), some (.ref 53), some (.ref 92), some (.int i), some (.int v258), some (.int v262)] [] (hM 36 s266 t261) r
                      by_cases h269 : v258 = 0
                      · rw [if_pos h269] at H
                        refine xp_ok htr 2 (d + 220) kc ks [eB false] 0 1085 [some (.retAddr 0), some (.ref 0), some (.ref 53), some (.ref 92), some (.int i), some (.int v258), some (.int v262)] [] (hM 36 s266 t261) ⟨h269, ?_⟩
                        show xv l Ω (d + 220) kc ks 0 1090 [some (.retAddr 0), some (.ref 0), some (.ref 53), some (.ref 92), some (.int i), some (.int v258), some (.int v262)] [] (hM 36 s266 t261) r
                        by_cases h270 : (lg_cmp (t261 92 0) (Int32.toInt64 v262)) = 0
                        · rw [if_pos h270] at H
                          refine xp_ok htr 7 (d + 220) kc ks [eB true] 0 1090 [some (.retAddr 0), some (.ref 0), some (.ref 53), some (.ref 92), some (.int i), some (.int v258), some (.int v262)] [] (hM 36 s266 t261) ⟨(by unfold vp_in; decide), h270, ?_⟩
                          show xv l Ω (d + 220) kc ks 0 1102 [some (.retAddr 0), some (.ref 0), some (.ref 53), some (.ref 92), some (.int i), some (.int v258), some (.int v262)] [] (hM 36 s266 t261) r
                          cases H
                          refine xp_ok htr 3 (d + 220) kc ks [] 0 1102 [some (.retAddr 0), some (.ref 0), some (.ref 53), some (.ref 92), some (.int i), some (.int v258), some (.int v262)] [] (hM 36 s266 t261) ?_
                          show xv l Ω (d + 220) kc ks 0 23 [some (.retAddr 0), some (.ref 0), some (.ref 53), some (.ref 92), some (.int (i + 5)), some (.int v258), some (.int v262)] [] (hM 36 s266 t261) r
                          exact xv_sub (L' := xx_L0 (i + 5)) ⟨rfl, rfl, rfl, rfl, rfl, trivial⟩ hk
                        · rw [if_neg h270] at H
                          cases H
                      · rw [if_neg h269] at H
                        refine xp_ok htr 2 (d + 220) kc ks [eB true] 0 1085 [some (.retAddr 0), some (.ref 0), some (.ref 53), some (.ref 92), some (.int i), some (.int v258), some (.int v262)] [] (hM 36 s266 t261) ⟨h269, ?_⟩
                        show xv l Ω (d + 220) kc ks 0 1102 [some (.retAddr 0), some (.ref 0), some (.ref 53), some (.ref 92), some (.int i), some (.int v258), some (.int v262)] [] (hM 36 s266 t261) r
                        cases H
                        refine xp_ok htr 3 (d + 220) kc ks [] 0 1102 [some (.retAddr 0), some (.ref 0), some (.ref 53), some (.ref 92), some (.int i), some (.int v258), some (.int v262)] [] (hM 36 s266 t261) ?_
                        show xv l Ω (d + 220) kc ks 0 23 [some (.retAddr 0), some (.ref 0), some (.ref 53), some (.ref 92), some (.int (i + 5)), some (.int v258), some (.int v262)] [] (hM 36 s266 t261) r
                        exact xv_sub (L' := xx_L0 (i + 5)) ⟨rfl, rfl, rfl, rfl, rfl, trivial⟩ hk
                    · rw [if_neg h268] at H
                      cases H
                  · rw [q267] at H; cases H
              · rw [q264] at H; cases H
def gL_16 (n : Nat) (xs : Nat → Int32) (p : Nat) (i : Int32) (σ : xS) (τ : xT) : Option (xS × xT × Nat) := (bif xn (i + 1) n then (bif xn (i + 2) n then (bif xn (i + 3) n then (bif xn (i + 4) n then (match g135 p (xs (Int32.toNatClampNeg (i + 1))) (xs (Int32.toNatClampNeg (i + 2))) (xs (Int32.toNatClampNeg (i + 3))) (xs (Int32.toNatClampNeg (i + 4))) σ τ with | some (v275, s276, t278) => (match g207 (xs (Int32.toNatClampNeg (i + 1))) (xs (Int32.toNatClampNeg (i + 2))) (xs (Int32.toNatClampNeg (i + 3))) (xs (Int32.toNatClampNeg (i + 4))) s276 with | some (Sum.inl v279, s280) => (match g149  s280 with | some (Sum.inl v282, s283) => (if v282 = v275 then (if v275 = 0 then (if (lg_cmp (t278 92 0) (Int32.toInt64 v279)) = 0 then some (s283, t278, p) else none) else some (s283, t278, p)) else none) | some (Sum.inr _, _) => none | none => none) | some (Sum.inr _, _) => none | none => none) | none => none) else none) else none) else none) else none)
theorem gL_16_ok_23 {l : Launch} {Ω : xo_O} (htr : xH l) (d kc ks : Nat) (i : Int32) (σ : xS) (τ : xT) (r : xv_R) {q : xS × xT × Nat} (H : gL_16 (xo_n Ω) (xo_x Ω) 23 i σ τ = some q) (hk : xv l Ω (d + 220) kc ks 0 23 (xx_L0 (i + 5)) [] (hM q.2.2 q.1 q.2.1) r) : xv l Ω (d + 220) (kc + 3) (ks + 18) 0 1105 (xx_L0 i) [] (hM 23 σ τ) r := by
  unfold gL_16 at H
  cases gu271 : xn (i + 1) (xo_n Ω) with
  | false => rw [gu271, cond_false] at H; cases H
  | true =>
    rw [gu271, cond_true] at H
    refine xp_ok htr 8 (d + 220) (kc + 3) (ks + 18) [] 0 1105 [some (.retAddr 0), some (.ref 0), some (.ref 53), some (.ref 92), some (.int i), none, none] [] (hM 23 σ τ) ⟨(xn_in gu271), ?_⟩
    show xv l Ω (d + 220) (kc + 3) (ks + 18) 0 1115 [some (.retAddr 0), some (.ref 0), some (.ref 53), some (.ref 92), some (.int i), none, none] [.int i, .retAddr 0, .int (xo_x Ω (Int32.toNatClampNeg (i + 1))), .ref 0] (hM 23 σ τ) r
    cases gu272 : xn (i + 2) (xo_n Ω) with
    | false => rw [gu272, cond_false] at H; cases H
    | true =>
      rw [gu272, cond_true] at H
      cases gu273 : xn (i + 3) (xo_n Ω) with
      | false => rw [gu273, cond_false] at H; cases H
      | true =>
        rw [gu273, cond_true] at H
        refine xp_ok htr 8 (d + 220) (kc + 3) (ks + 18) [] 0 1115 [some (.retAddr 0), some (.ref 0), some (.ref 53), some (.ref 92), some (.int i), none, none] [.int i, .retAddr 0, .int (xo_x Ω (Int32.toNatClampNeg (i + 1))), .ref 0] (hM 23 σ τ) ⟨(xn_in gu272), (xn_in gu273), ?_⟩
        show xv l Ω (d + 220) (kc + 3) (ks + 18) 0 1124 [some (.retAddr 0), some (.ref 0), some (.ref 53), some (.ref 92), some (.int i), none, none] [.int (xo_x Ω (Int32.toNatClampNeg (i + 3))), .int (xo_x Ω (Int32.toNatClampNeg (i + 2))), .int (xo_x Ω (Int32.toNatClampNeg (i + 1))), .ref 0] (hM 23 σ τ) r
        cases gu274 : xn (i + 4) (xo_n Ω) with
        | false => rw [gu274, cond_false] at H; cases H
        | true =>
          rw [gu274, cond_true] at H
          cases q277 : g135 23 (xo_x Ω (Int32.toNatClampNeg (i + 1))) (xo_x Ω (Int32.toNatClampNeg (i + 2))) (xo_x Ω (Int32.toNatClampNeg (i + 3))) (xo_x Ω (Int32.toNatClampNeg (i + 4))) σ τ with
          | none => rw [q277] at H; cases H
          | some q2770 =>
            obtain ⟨v275, s276, t278⟩ := q2770
            rw [q277] at H; dsimp only at H
            have hc := g135_run_23 (Ω := Ω) htr (d + 211)  τ (xo_x Ω (Int32.toNatClampNeg (i + 1))) (xo_x Ω (Int32.toNatClampNeg (i + 2))) (xo_x Ω (Int32.toNatClampNeg (i + 3))) (xo_x Ω (Int32.toNatClampNeg (i + 4))) σ q277
            refine xp_ok htr 7 (d + 220) (kc + 3) (ks + 18) [eN (some (.int v275)) (hM 23 s276 t278) 3 18] 0 1124 [some (.retAddr 0), some (.ref 0), some (.ref 53), some (.ref 92), some (.int i), none, none] [.int (xo_x Ω (Int32.toNatClampNeg (i + 3))), .int (xo_x Ω (Int32.toNatClampNeg (i + 2))), .int (xo_x Ω (Int32.toNatClampNeg (i + 1))), .ref 0] (hM 23 σ τ) ⟨(xn_in gu274), hc, ?_⟩
            show xv l Ω (d + 220) kc ks 0 1134 [some (.retAddr 0), some (.ref 0), some (.ref 53), some (.ref 92), some (.int i), none, none] [.int v275] (hM 23 s276 t278) r
            refine xp_ok htr 8 (d + 220) kc ks [] 0 1134 [some (.retAddr 0), some (.ref 0), some (.ref 53), some (.ref 92), some (.int i), none, none] [.int v275] (hM 23 s276 t278) ⟨(xn_in gu271), ?_⟩
            show xv l Ω (d + 220) kc ks 0 1144 [some (.retAddr 0), some (.ref 0), some (.ref 53), some (.ref 92), some (.int i), some (.int v275), none] [.retAddr 0, .int (xo_x Ω (Int32.toNatClampNeg (i + 1))), .ref 53] (hM 23 s276 t278) r
            refine xp_ok htr 8 (d + 220) kc ks [] 0 1144 [some (.retAddr 0), some (.ref 0), some (.ref 53), some (.ref 92), some (.int i), some (.int v275), none] [.retAddr 0, .int (xo_x Ω (Int32.toNatClampNeg (i + 1))), .ref 53] (hM 23 s276 t278) ⟨(xn_in gu272), ?_⟩
            show xv l Ω (d + 220) kc ks 0 1154 [some (.retAddr 0), some (.ref 0), some (.ref 53), some (.ref 92), some (.int i), some (.int v275), none] [.int (i + 3), .retAddr 0, .int (xo_x Ω (Int32.toNatClampNeg (i + 2))), .int (xo_x Ω (Int32.toNatClampNeg (i + 1))), .ref 53] (hM 23 s276 t278) r
            cases q281 : g207 (xo_x Ω (Int32.toNatClampNeg (i + 1))) (xo_x Ω (Int32.toNatClampNeg (i + 2))) (xo_x Ω (Int32.toNatClampNeg (i + 3))) (xo_x Ω (Int32.toNatClampNeg (i + 4))) s276 with
            | none => rw [q281] at H; cases H
            | some q2810 =>
              obtain ⟨v279 | v279, s280⟩ := q2810
              · rw [q281] at H; dsimp only at H
                have hc := g207_run (Ω := Ω) htr (d + 213) 23 t278 (xo_x Ω (Int32.toNatClampNeg (i + 1))) (xo_x Ω (Int32.toNatClampNeg (i + 2))) (xo_x Ω (Int32.toNatClampNeg (i + 3))) (xo_x Ω (Int32.toNatClampNeg (i + 4))) s276 q281
                refine xp_ok htr 7 (d + 220) kc ks [eC (some (.int v279)) (hM 23 s280 t278)] 0 1154 [some (.retAddr 0), some (.ref 0), some (.ref 53), some (.ref 92), some (.int i), some (.int v275), none] [.int (i + 3), .retAddr 0, .int (xo_x Ω (Int32.toNatClampNeg (i + 2))), .int (xo_x Ω (Int32.toNatClampNeg (i + 1))), .ref 53] (hM 23 s276 t278) ⟨(xn_in gu273), (xn_in gu274), hc, ?_⟩
                show xv l Ω (d + 220) kc ks 0 1164 [some (.retAddr 0), some (.ref 0), some (.ref 53), some (.ref 92), some (.int i), some (.int v275), none] [.int v279] (hM 23 s280 t278) r
                cases q284 : g149  s280 with
                | none => rw [q284] at H; cases H
                | some q2840 =>
                  obtain ⟨v282 | v282, s283⟩ := q2840
                  · rw [q284] at H; dsimp only at H
                    have hc := g149_run (Ω := Ω) htr (d + 219) 23 t278  s280 q284
                    refine xp_ok htr 3 (d + 220) kc ks [eC (some (.int v282)) (hM 23 s283 t278)] 0 1164 [some (.retAddr 0), some (.ref 0), some (.ref 53), some (.ref 92), some (.int i), some (.int v275), none] [.int v279] (hM 23 s280 t278) ⟨hc, ?_⟩
                    show xv l Ω (d + 220) kc ks 0 1170 [some (.retAddr 0), some (.ref 0), some (.ref 53), some (.ref 92), some (.int i), some (.int v275), some (.int v279)] [.int v282] (hM 23 s283 t278) r
                    by_cases h285 : v282 = v275
                    · rw [if_pos h285] at H
                      refine xp_ok htr 2 (d + 220) kc ks [eB true] 0 1170 [some (.retAddr 0), some (.ref 0), some (.ref 53), some (.ref 92), some (.int i), some (.int v275), some (.int v279)] [.int v282] (hM 23 s283 t278) ⟨h285, ?_⟩
                      show xv l Ω (d + 220) kc ks 0 1177 [some (.retAddr 0), some (.ref 0), some (.ref 53), some (.ref 92), some (.int i), some (.int v275), some (.int v279)] [] (hM 23 s283 t278) r
                      by_cases h286 : v275 = 0
                      · rw [if_pos h286] at H
                        refine xp_ok htr 2 (d + 220) kc ks [eB false] 0 1177 [some (.retAddr 0), some (.ref 0), some (.ref 53), some (.ref 92), some (.int i), some (.int v275), some (.int v279)] [] (hM 23 s283 t278) ⟨h286, ?_⟩
                        show xv l Ω (d + 220) kc ks 0 1182 [some (.retAddr 0), some (.ref 0), some (.ref 53), some (.ref 92), some (.int i), some (.int v275), some (.int v279)] [] (hM 23 s283 t278) r
                        by_cases h287 : (lg_cmp (t278 92 0) (Int32.toInt64 v279)) = 0
                        · rw [if_pos h287] at H
                          refine xp_ok htr 7 (d + 220) kc ks [eB true] 0 1182 [some (.retAddr 0), some (.ref 0), some (.ref 53), some (.ref 92), some (.int i), some (.int v275), some (.int v279)] [] (hM 23 s283 t278) ⟨(by unfold vp_in; decide), h287, ?_⟩
                          show xv l Ω (d + 220) kc ks 0 1194 [some (.retAddr 0), some (.ref 0), some (.ref 53), some (.ref 92), some (.int i), some (.int v275), some (.int v279)] [] (hM 23 s283 t278) r
                          cases H
                          refine xp_ok htr 3 (d + 220) kc ks [] 0 1194 [some (.retAddr 0), some (.ref 0), some (.ref 53), some (.ref 92), some (.int i), some (.int v275), some (.int v279)] [] (hM 23 s283 t278) ?_
                          show xv l Ω (d + 220) kc ks 0 23 [some (.retAddr 0), some (.ref 0), some (.ref 53), some (.ref 92), some (.int (i + 5)), some (.int v275), some (.int v279)] [] (hM 23 s283 t278) r
                          exact xv_sub (L' := xx_L0 (i + 5)) ⟨rfl, rfl, rfl, rfl, rfl, trivial⟩ hk
                        · rw [if_neg h287] at H
                          cases H
                      · rw [if_neg h286] at H
                        refine xp_ok htr 2 (d + 220) kc ks [eB true] 0 1177 [some (.retAddr 0), some (.ref 0), some (.ref 53), some (.ref 92), some (.int i), some (.int v275), some (.int v279)] [] (hM 23 s283 t278) ⟨h286, ?_⟩
                        show xv l Ω (d + 220) kc ks 0 1194 [some (.retAddr 0), some (.ref 0), some (.ref 53), some (.ref 92), some (.int i), some (.int v275), some (.int v279)] [] (hM 23 s283 t278) r
                        cases H
                        refine xp_ok htr 3 (d + 220) kc ks [] 0 1194 [some (.retAddr 0), some (.ref 0), some (.ref 53), some (.ref 92), some (.int i), some (.int v275), some (.int v279)] [] (hM 23 s283 t278) ?_
                        show xv l Ω (d + 220) kc ks 0 23 [some (.retAddr 0), some (.ref 0), some (.ref 53), some (.ref 92), some (.int (i + 5)), some (.int v275), some (.int v279)] [] (hM 23 s283 t278) r
                        exact xv_sub (L' := xx_L0 (i + 5)) ⟨rfl, rfl, rfl, rfl, rfl, trivial⟩ hk
                    · rw [if_neg h285] at H
                      cases H
                  · rw [q284] at H; cases H
              · rw [q281] at H; cases H
theorem gL_16_ok_36 {l : Launch} {Ω : xo_O} (htr : xH l) (d kc ks : Nat) (i : Int32) (σ : xS) (τ : xT) (r : xv_R) {q : xS × xT × Nat} (H : gL_16 (xo_n Ω) (xo_x Ω) 36 i σ τ = some q) (hk : xv l Ω (d + 220) kc ks 0 23 (xx_L0 (i + 5)) [] (hM q.2.2 q.1 q.2.1) r) : xv l Ω (d + 220) (kc + 3) (ks + 18) 0 1105 (xx_L0 i) [] (hM 36 σ τ) r := by
  unfold gL_16 at H
  cases gu271 : xn (i + 1) (xo_n Ω) with
  | false => rw [gu271, cond_false] at H; cases H
  | true =>
    rw [gu271, cond_true] at H
    refine xp_ok htr 8 (d + 220) (kc + 3) (ks + 18) [] 0 1105 [some (.retAddr 0), some (.ref 0), some (.ref 53), some (.ref 92), some (.int i), none, none] [] (hM 36 σ τ) ⟨(xn_in gu271), ?_⟩
    show xv l Ω (d + 220) (kc + 3) (ks + 18) 0 1115 [some (.retAddr 0), some (.ref 0), some (.ref 53), some (.ref 92), some (.int i), none, none] [.int i, .retAddr 0, .int (xo_x Ω (Int32.toNatClampNeg (i + 1))), .ref 0] (hM 36 σ τ) r
    cases gu272 : xn (i + 2) (xo_n Ω) with
    | false => rw [gu272, cond_false] at H; cases H
    | true =>
      rw [gu272, cond_true] at H
      cases gu273 : xn (i + 3) (xo_n Ω) with
      | false => rw [gu273, cond_false] at H; cases H
      | true =>
        rw [gu273, cond_true] at H
        refine xp_ok htr 8 (d + 220) (kc + 3) (ks + 18) [] 0 1115 [some (.retAddr 0), some (.ref 0), some (.ref 53), some (.ref 92), some (.int i), none, none] [.int i, .retAddr 0, .int (xo_x Ω (Int32.toNatClampNeg (i + 1))), .ref 0] (hM 36 σ τ) ⟨(xn_in gu272), (xn_in gu273), ?_⟩
        show xv l Ω (d + 220) (kc + 3) (ks + 18) 0 1124 [some (.retAddr 0), some (.ref 0), some (.ref 53), some (.ref 92), some (.int i), none, none] [.int (xo_x Ω (Int32.toNatClampNeg (i + 3))), .int (xo_x Ω (Int32.toNatClampNeg (i + 2))), .int (xo_x Ω (Int32.toNatClampNeg (i + 1))), .ref 0] (hM 36 σ τ) r
        cases gu274 : xn (i + 4) (xo_n Ω) with
        | false => rw [gu274, cond_false] at H; cases H
        | true =>
          rw [gu274, cond_true] at H
          cases q277 : g135 36 (xo_x Ω (Int32.toNatClampNeg (i + 1))) (xo_x Ω (Int32.toNatClampNeg (i + 2))) (xo_x Ω (Int32.toNatClampNeg (i + 3))) (xo_x Ω (Int32.toNatClampNeg (i + 4))) σ τ with
          | none => rw [q277] at H; cases H
          | some q2770 =>
            obtain ⟨v275, s276, t278⟩ := q2770
            rw [q277] at H; dsimp only at H
            have hc := g135_run_36 (Ω := Ω) htr (d + 211)  τ (xo_x Ω (Int32.toNatClampNeg (i + 1))) (xo_x Ω (Int32.toNatClampNeg (i + 2))) (xo_x Ω (Int32.toNatClampNeg (i + 3))) (xo_x Ω (Int32.toNatClampNeg (i + 4))) σ q277
            refine xp_ok htr 7 (d + 220) (kc + 3) (ks + 18) [eN (some (.int v275)) (hM 36 s276 t278) 3 18] 0 1124 [some (.retAddr 0), some (.ref 0), some (.ref 53), some (.ref 92), some (.int i), none, none] [.int (xo_x Ω (Int32.toNatClampNeg (i + 3))), .int (xo_x Ω (Int32.toNatClampNeg (i + 2))), .int (xo_x Ω (Int32.toNatClampNeg (i + 1))), .ref 0] (hM 36 σ τ) ⟨(xn_in gu274), hc, ?_⟩
            show xv l Ω (d + 220) kc ks 0 1134 [some (.retAddr 0), some (.ref 0), some (.ref 53), some (.ref 92), some (.int i), none, none] [.int v275] (hM 36 s276 t278) r
            refine xp_ok htr 8 (d + 220) kc ks [] 0 1134 [some (.retAddr 0), some (.ref 0), some (.ref 53), some (.ref 92), some (.int i), none, none] [.int v275] (hM 36 s276 t278) ⟨(xn_in gu271), ?_⟩
            show xv l Ω (d + 220) kc ks 0 1144 [some (.retAddr 0), some (.ref 0), some (.ref 53), some (.ref 92), some (.int i), some (.int v275), none] [.retAddr 0, .int (xo_x Ω (Int32.toNatClampNeg (i + 1))), .ref 53] (hM 36 s276 t278) r
            refine xp_ok htr 8 (d + 220) kc ks [] 0 1144 [some (.retAddr 0), some (.ref 0), some (.ref 53), some (.ref 92), some (.int i), some (.int v275), none] [.retAddr 0, .int (xo_x Ω (Int32.toNatClampNeg (i + 1))), .ref 53] (hM 36 s276 t278) ⟨(xn_in gu272), ?_⟩
            show xv l Ω (d + 220) kc ks 0 1154 [some (.retAddr 0), some (.ref 0), some (.ref 53), some (.ref 92), some (.int i), some (.int v275), none] [.int (i + 3), .retAddr 0, .int (xo_x Ω (Int32.toNatClampNeg (i + 2))), .int (xo_x Ω (Int32.toNatClampNeg (i + 1))), .ref 53] (hM 36 s276 t278) r
            cases q281 : g207 (xo_x Ω (Int32.toNatClampNeg (i + 1))) (xo_x Ω (Int32.toNatClampNeg (i + 2))) (xo_x Ω (Int32.toNatClampNeg (i + 3))) (xo_x Ω (Int32.toNatClampNeg (i + 4))) s276 with
            | none => rw [q281] at H; cases H
            | some q2810 =>
              obtain ⟨v279 | v279, s280⟩ := q2810
              · rw [q281] at H; dsimp only at H
                have hc := g207_run (Ω := Ω) htr (d + 213) 36 t278 (xo_x Ω (Int32.toNatClampNeg (i + 1))) (xo_x Ω (Int32.toNatClampNeg (i + 2))) (xo_x Ω (Int32.toNatClampNeg (i + 3))) (xo_x Ω (Int32.toNatClampNeg (i + 4))) s276 q281
                refine xp_ok htr 7 (d + 220) kc ks [eC (some (.int v279)) (hM 36 s280 t278)] 0 1154 [some (.retAddr 0), some (.ref 0), some (.ref 53), some (.ref 92), some (.int i), some (.int v275), none] [.int (i + 3), .retAddr 0, .int (xo_x Ω (Int32.toNatClampNeg (i + 2))), .int (xo_x Ω (Int32.toNatClampNeg (i + 1))), .ref 53] (hM 36 s276 t278) ⟨(xn_in gu273), (xn_in gu274), hc, ?_⟩
                show xv l Ω (d + 220) kc ks 0 1164 [some (.retAddr 0), some (.ref 0), some (.ref 53), some (.ref 92), some (.int i), some (.int v275), none] [.int v279] (hM 36 s280 t278) r
                cases q284 : g149  s280 with
                | none => rw [q284] at H; cases H
                | some q2840 =>
                  obtain ⟨v282 | v282, s283⟩ := q2840
                  · rw [q284] at H; dsimp only at H
                    have hc := g149_run (Ω := Ω) htr (d + 219) 36 t278  s280 q284
                    refine xp_ok htr 3 (d + 220) kc ks [eC (some (.int v282)) (hM 36 s283 t278)] 0 1164 [some (.retAddr 0), some (.ref 0), some (.ref 53), some (.ref 92), some (.int i), some (.int v275), none] [.int v279] (hM 36 s280 t278) ⟨hc, ?_⟩
                    show xv l Ω (d + 220) kc ks 0 1170 [some (.retAddr 0), some (.ref 0), some (.ref 53), some (.ref 92), some (.int i), some (.int v275), some (.int v279)] [.int v282] (hM 36 s283 t278) r
                    by_cases h285 : v282 = v275
                    · rw [if_pos h285] at H
                      refine xp_ok htr 2 (d + 220) kc ks [eB true] 0 1170 [some (.retAddr 0), some (.ref 0), some (.ref 53), some (.ref 92), some (.int i), some (.int v275), some (.int v279)] [.int v282] (hM 36 s283 t278) ⟨h285, ?_⟩
                      show xv l Ω (d + 220) kc ks 0 1177 [some (.retAddr 0), some (.ref 0), some (.ref 53), some (.ref 92), some (.int i), some (.int v275), some (.int v279)] [] (hM 36 s283 t278) r
                      by_cases h286 : v275 = 0
                      · rw [if_pos h286] at H
                        refine xp_ok htr 2 (d + 220) kc ks [eB false] 0 1177 [some (.retAddr 0), some (.ref 0), some (.ref 53), some (.ref 92), some (.int i), some (.int v275), some (.int v279)] [] (hM 36 s283 t278) ⟨h286, ?_⟩
                        show xv l Ω (d + 220) kc ks 0 1182 [some (.retAddr 0), some (.ref 0), some (.ref 53), some (.ref 92), some (.int i), some (.int v275), some (.int v279)] [] (hM 36 s283 t278) r
                        by_cases h287 : (lg_cmp (t278 92 0) (Int32.toInt64 v279)) = 0
                        · rw [if_pos h287] at H
                          refine xp_ok htr 7 (d + 220) kc ks [eB true] 0 1182 [some (.retAddr 0), some (.ref 0), some (.ref 53), some (.ref 92), some (.int i), some (.int v275), some (.int v279)] [] (hM 36 s283 t278) ⟨(by unfold vp_in; decide), h287, ?_⟩
                          show xv l Ω (d + 220) kc ks 0 1194 [some (.retAddr 0), some (.ref 0), some (.ref 53), some (.ref 92), some (.int i), some (.int v275), some (.int v279)] [] (hM 36 s283 t278) r
                          cases H
                          refine xp_ok htr 3 (d + 220) kc ks [] 0 1194 [some (.retAddr 0), some (.ref 0), some (.ref 53), some (.ref 92), some (.int i), some (.int v275), some (.int v279)] [] (hM 36 s283 t278) ?_
                          show xv l Ω (d + 220) kc ks 0 23 [some (.retAddr 0), some (.ref 0), some (.ref 53), some (.ref 92), some (.int (i + 5)), some (.int v275), some (.int v279)] [] (hM 36 s283 t278) r
                          exact xv_sub (L' := xx_L0 (i + 5)) ⟨rfl, rfl, rfl, rfl, rfl, trivial⟩ hk
                        · rw [if_neg h287] at H
                          cases H
                      · rw [if_neg h286] at H
                        refine xp_ok htr 2 (d + 220) kc ks [eB true] 0 1177 [some (.retAddr 0), some (.ref 0), some (.ref 53), some (.ref 92), some (.int i), some (.int v275), some (.int v279)] [] (hM 36 s283 t278) ⟨h286, ?_⟩
                        show xv l Ω (d + 220) kc ks 0 1194 [some (.retAddr 0), some (.ref 0), some (.ref 53), some (.ref 92), some (.int i), some (.int v275), some (.int v279)] [] (hM 36 s283 t278) r
                        cases H
                        refine xp_ok htr 3 (d + 220) kc ks [] 0 1194 [some (.retAddr 0), some (.ref 0), some (.ref 53), some (.ref 92), some (.int i), some (.int v275), some (.int v279)] [] (hM 36 s283 t278) ?_
                        show xv l Ω (d + 220) kc ks 0 23 [some (.retAddr 0), some (.ref 0), some (.ref 53), some (.ref 92), some (.int (i + 5)), some (.int v275), some (.int v279)] [] (hM 36 s283 t278) r
                        exact xv_sub (L' := xx_L0 (i + 5)) ⟨rfl, rfl, rfl, rfl, rfl, trivial⟩ hk
                    · rw [if_neg h285] at H
                      cases H
                  · rw [q284] at H; cases H
              · rw [q281] at H; cases H
def gL_17 (n : Nat) (xs : Nat → Int32) (p : Nat) (i : Int32) (σ : xS) (τ : xT) : Option (xS × xT × Nat) := (bif xn (i + 1) n then (bif xn (i + 2) n then (match g141 (xs (Int32.toNatClampNeg (i + 1))) (xs (Int32.toNatClampNeg (i + 2))) σ τ with | some (v290, s291, t293) => (match g211 (xs (Int32.toNatClampNeg (i + 1))) (xs (Int32.toNatClampNeg (i + 2))) s291 with | some (Sum.inl v294, s295) => (match g149  s295 with | some (Sum.inl v297, s298) => (if v297 = v290 then (if v290 = 0 then (if (lg_cmp (t293 92 0) (Int32.toInt64 v294)) = 0 then some (s298, t293, p) else none) else some (s298, t293, p)) else none) | some (Sum.inr _, _) => none | none => none) | some (Sum.inr _, _) => none | none => none) | none => none) else none) else none)
theorem gL_17_ok {l : Launch} {Ω : xo_O} (htr : xH l) (d kc ks : Nat) (p : Nat) (i : Int32) (σ : xS) (τ : xT) (r : xv_R) {q : xS × xT × Nat} (H : gL_17 (xo_n Ω) (xo_x Ω) p i σ τ = some q) (hk : xv l Ω (d + 220) kc ks 0 23 (xx_L0 (i + 5)) [] (hM q.2.2 q.1 q.2.1) r) : xv l Ω (d + 220) (kc + 2) (ks + 12) 0 1197 (xx_L0 i) [] (hM p σ τ) r := by
  unfold gL_17 at H
  cases gu288 : xn (i + 1) (xo_n Ω) with
  | false => rw [gu288, cond_false] at H; cases H
  | true =>
    rw [gu288, cond_true] at H
    refine xp_ok htr 8 (d + 220) (kc + 2) (ks + 12) [] 0 1197 [some (.retAddr 0), some (.ref 0), some (.ref 53), some (.ref 92), some (.int i), none, none] [] (hM p σ τ) ⟨(xn_in gu288), ?_⟩
    show xv l Ω (d + 220) (kc + 2) (ks + 12) 0 1207 [some (.retAddr 0), some (.ref 0), some (.ref 53), some (.ref 92), some (.int i), none, none] [.int i, .retAddr 0, .int (xo_x Ω (Int32.toNatClampNeg (i + 1))), .ref 0] (hM p σ τ) r
    cases gu289 : xn (i + 2) (xo_n Ω) with
    | false => rw [gu289, cond_false] at H; cases H
    | true =>
      rw [gu289, cond_true] at H
      cases q292 : g141 (xo_x Ω (Int32.toNatClampNeg (i + 1))) (xo_x Ω (Int32.toNatClampNeg (i + 2))) σ τ with
      | none => rw [q292] at H; cases H
      | some q2920 =>
        obtain ⟨v290, s291, t293⟩ := q2920
        rw [q292] at H; dsimp only at H
        have hc := g141_run (Ω := Ω) htr (d + 211) p τ (xo_x Ω (Int32.toNatClampNeg (i + 1))) (xo_x Ω (Int32.toNatClampNeg (i + 2))) σ q292
        refine xp_ok htr 5 (d + 220) (kc + 2) (ks + 12) [eN (some (.int v290)) (hM p s291 t293) 2 12] 0 1207 [some (.retAddr 0), some (.ref 0), some (.ref 53), some (.ref 92), some (.int i), none, none] [.int i, .retAddr 0, .int (xo_x Ω (Int32.toNatClampNeg (i + 1))), .ref 0] (hM p σ τ) ⟨(xn_in gu289), hc, ?_⟩
        show xv l Ω (d + 220) kc ks 0 1214 [some (.retAddr 0), some (.ref 0), some (.ref 53), some (.ref 92), some (.int i), none, none] [.int v290] (hM p s291 t293) r
        refine xp_ok htr 8 (d + 220) kc ks [] 0 1214 [some (.retAddr 0), some (.ref 0), some (.ref 53), some (.ref 92), some (.int i), none, none] [.int v290] (hM p s291 t293) ⟨(xn_in gu288), ?_⟩
        show xv l Ω (d + 220) kc ks 0 1224 [some (.retAddr 0), some (.ref 0), some (.ref 53), some (.ref 92), some (.int i), some (.int v290), none] [.retAddr 0, .int (xo_x Ω (Int32.toNatClampNeg (i + 1))), .ref 53] (hM p s291 t293) r
        cases q296 : g211 (xo_x Ω (Int32.toNatClampNeg (i + 1))) (xo_x Ω (Int32.toNatClampNeg (i + 2))) s291 with
        | none => rw [q296] at H; cases H
        | some q2960 =>
          obtain ⟨v294 | v294, s295⟩ := q2960
          · rw [q296] at H; dsimp only at H
            have hc := g211_run (Ω := Ω) htr (d + 217) p t293 (xo_x Ω (Int32.toNatClampNeg (i + 1))) (xo_x Ω (Int32.toNatClampNeg (i + 2))) s291 q296
            refine xp_ok htr 5 (d + 220) kc ks [eC (some (.int v294)) (hM p s295 t293)] 0 1224 [some (.retAddr 0), some (.ref 0), some (.ref 53), some (.ref 92), some (.int i), some (.int v290), none] [.retAddr 0, .int (xo_x Ω (Int32.toNatClampNeg (i + 1))), .ref 53] (hM p s291 t293) ⟨(xn_in gu289), hc, ?_⟩
            show xv l Ω (d + 220) kc ks 0 1232 [some (.retAddr 0), some (.ref 0), some (.ref 53), some (.ref 92), some (.int i), some (.int v290), none] [.int v294] (hM p s295 t293) r
            cases q299 : g149  s295 with
            | none => rw [q299] at H; cases H
            | some q2990 =>
              obtain ⟨v297 | v297, s298⟩ := q2990
              · rw [q299] at H; dsimp only at H
                have hc := g149_run (Ω := Ω) htr (d + 219) p t293  s295 q299
                refine xp_ok htr 3 (d + 220) kc ks [eC (some (.int v297)) (hM p s298 t293)] 0 1232 [some (.retAddr 0), some (.ref 0), some (.ref 53), some (.ref 92), some (.int i), some (.int v290), none] [.int v294] (hM p s295 t293) ⟨hc, ?_⟩
                show xv l Ω (d + 220) kc ks 0 1238 [some (.retAddr 0), some (.ref 0), some (.ref 53), some (.ref 92), some (.int i), some (.int v290), some (.int v294)] [.int v297] (hM p s298 t293) r
                by_cases h300 : v297 = v290
                · rw [if_pos h300] at H
                  refine xp_ok htr 2 (d + 220) kc ks [eB true] 0 1238 [some (.retAddr 0), some (.ref 0), some (.ref 53), some (.ref 92), some (.int i), some (.int v290), some (.int v294)] [.int v297] (hM p s298 t293) ⟨h300, ?_⟩
                  show xv l Ω (d + 220) kc ks 0 1245 [some (.retAddr 0), some (.ref 0), some (.ref 53), some (.ref 92), some (.int i), some (.int v290), some (.int v294)] [] (hM p s298 t293) r
                  by_cases h301 : v290 = 0
                  · rw [if_pos h301] at H
                    refine xp_ok htr 2 (d + 220) kc ks [eB false] 0 1245 [some (.retAddr 0), some (.ref 0), some (.ref 53), some (.ref 92), some (.int i), some (.int v290), some (.int v294)] [] (hM p s298 t293) ⟨h301, ?_⟩
                    show xv l Ω (d + 220) kc ks 0 1250 [some (.retAddr 0), some (.ref 0), some (.ref 53), some (.ref 92), some (.int i), some (.int v290), some (.int v294)] [] (hM p s298 t293) r
                    by_cases h302 : (lg_cmp (t293 92 0) (Int32.toInt64 v294)) = 0
                    · rw [if_pos h302] at H
                      refine xp_ok htr 7 (d + 220) kc ks [eB true] 0 1250 [some (.retAddr 0), some (.ref 0), some (.ref 53), some (.ref 92), some (.int i), some (.int v290), some (.int v294)] [] (hM p s298 t293) ⟨(by unfold vp_in; decide), h302, ?_⟩
                      show xv l Ω (d + 220) kc ks 0 1262 [some (.retAddr 0), some (.ref 0), some (.ref 53), some (.ref 92), some (.int i), some (.int v290), some (.int v294)] [] (hM p s298 t293) r
                      cases H
                      refine xp_ok htr 3 (d + 220) kc ks [] 0 1262 [some (.retAddr 0), some (.ref 0), some (.ref 53), some (.ref 92), some (.int i), some (.int v290), some (.int v294)] [] (hM p s298 t293) ?_
                      show xv l Ω (d + 220) kc ks 0 23 [some (.retAddr 0), some (.ref 0), some (.ref 53), some (.ref 92), some (.int (i + 5)), some (.int v290), some (.int v294)] [] (hM p s298 t293) r
                      exact xv_sub (L' := xx_L0 (i + 5)) ⟨rfl, rfl, rfl, rfl, rfl, trivial⟩ hk
                    · rw [if_neg h302] at H
                      cases H
                  · rw [if_neg h301] at H
                    refine xp_ok htr 2 (d + 220) kc ks [eB true] 0 1245 [some (.retAddr 0), some (.ref 0), some (.ref 53), some (.ref 92), some (.int i), some (.int v290), some (.int v294)] [] (hM p s298 t293) ⟨h301, ?_⟩
                    show xv l Ω (d + 220) kc ks 0 1262 [some (.retAddr 0), some (.ref 0), some (.ref 53), some (.ref 92), some (.int i), some (.int v290), some (.int v294)] [] (hM p s298 t293) r
                    cases H
                    refine xp_ok htr 3 (d + 220) kc ks [] 0 1262 [some (.retAddr 0), some (.ref 0), some (.ref 53), some (.ref 92), some (.int i), some (.int v290), some (.int v294)] [] (hM p s298 t293) ?_
                    show xv l Ω (d + 220) kc ks 0 23 [some (.retAddr 0), some (.ref 0), some (.ref 53), some (.ref 92), some (.int (i + 5)), some (.int v290), some (.int v294)] [] (hM p s298 t293) r
                    exact xv_sub (L' := xx_L0 (i + 5)) ⟨rfl, rfl, rfl, rfl, rfl, trivial⟩ hk
                · rw [if_neg h300] at H
                  cases H
              · rw [q299] at H; cases H
          · rw [q296] at H; cases H
def gL_18 (n : Nat) (xs : Nat → Int32) (p : Nat) (i : Int32) (σ : xS) (τ : xT) : Option (xS × xT × Nat) := (bif xn (i + 1) n then (bif xn (i + 2) n then (bif xn (i + 3) n then (match g145 (xs (Int32.toNatClampNeg (i + 1))) (xs (Int32.toNatClampNeg (i + 2))) (xs (Int32.toNatClampNeg (i + 3))) σ τ with | some (v306, s307, t309) => (match g214 (xs (Int32.toNatClampNeg (i + 1))) (xs (Int32.toNatClampNeg (i + 2))) (xs (Int32.toNatClampNeg (i + 3))) s307 with | some (Sum.inl v310, s311) => (match g149  s311 with | some (Sum.inl v313, s314) => (if v313 = v306 then some (s314, t309, p) else none) | some (Sum.inr _, _) => none | none => none) | some (Sum.inr _, _) => none | none => none) | none => none) else none) else none) else none)
theorem gL_18_ok {l : Launch} {Ω : xo_O} (htr : xH l) (d kc ks : Nat) (p : Nat) (i : Int32) (σ : xS) (τ : xT) (r : xv_R) {q : xS × xT × Nat} (H : gL_18 (xo_n Ω) (xo_x Ω) p i σ τ = some q) (hk : xv l Ω (d + 220) kc ks 0 23 (xx_L0 (i + 5)) [] (hM q.2.2 q.1 q.2.1) r) : xv l Ω (d + 220) (kc + 2) (ks + 12) 0 1265 (xx_L0 i) [] (hM p σ τ) r := by
  unfold gL_18 at H
  cases gu303 : xn (i + 1) (xo_n Ω) with
  | false => rw [gu303, cond_false] at H; cases H
  | true =>
    rw [gu303, cond_true] at H
    refine xp_ok htr 8 (d + 220) (kc + 2) (ks + 12) [] 0 1265 [some (.retAddr 0), some (.ref 0), some (.ref 53), some (.ref 92), some (.int i), none, none] [] (hM p σ τ) ⟨(xn_in gu303), ?_⟩
    show xv l Ω (d + 220) (kc + 2) (ks + 12) 0 1275 [some (.retAddr 0), some (.ref 0), some (.ref 53), some (.ref 92), some (.int i), none, none] [.int i, .retAddr 0, .int (xo_x Ω (Int32.toNatClampNeg (i + 1))), .ref 0] (hM p σ τ) r
    cases gu304 : xn (i + 2) (xo_n Ω) with
    | false => rw [gu304, cond_false] at H; cases H
    | true =>
      rw [gu304, cond_true] at H
      cases gu305 : xn (i + 3) (xo_n Ω) with
      | false => rw [gu305, cond_false] at H; cases H
      | true =>
        rw [gu305, cond_true] at H
        refine xp_ok htr 8 (d + 220) (kc + 2) (ks + 12) [] 0 1275 [some (.retAddr 0), some (.ref 0), some (.ref 53), some (.ref 92), some (.int i), none, none] [.int i, .retAddr 0, .int (xo_x Ω (Int32.toNatClampNeg (i + 1))), .ref 0] (hM p σ τ) ⟨(xn_in gu304), (xn_in gu305), ?_⟩
        show xv l Ω (d + 220) (kc + 2) (ks + 12) 0 1284 [some (.retAddr 0), some (.ref 0), some (.ref 53), some (.ref 92), some (.int i), none, none] [.int (xo_x Ω (Int32.toNatClampNeg (i + 3))), .int (xo_x Ω (Int32.toNatClampNeg (i + 2))), .int (xo_x Ω (Int32.toNatClampNeg (i + 1))), .ref 0] (hM p σ τ) r
        cases q308 : g145 (xo_x Ω (Int32.toNatClampNeg (i + 1))) (xo_x Ω (Int32.toNatClampNeg (i + 2))) (xo_x Ω (Int32.toNatClampNeg (i + 3))) σ τ with
        | none => rw [q308] at H; cases H
        | some q3080 =>
          obtain ⟨v306, s307, t309⟩ := q3080
          rw [q308] at H; dsimp only at H
          have hc := g145_run (Ω := Ω) htr (d + 211) p τ (xo_x Ω (Int32.toNatClampNeg (i + 1))) (xo_x Ω (Int32.toNatClampNeg (i + 2))) (xo_x Ω (Int32.toNatClampNeg (i + 3))) σ q308
          refine xp_ok htr 1 (d + 220) (kc + 2) (ks + 12) [eN (some (.int v306)) (hM p s307 t309) 2 12] 0 1284 [some (.retAddr 0), some (.ref 0), some (.ref 53), some (.ref 92), some (.int i), none, none] [.int (xo_x Ω (Int32.toNatClampNeg (i + 3))), .int (xo_x Ω (Int32.toNatClampNeg (i + 2))), .int (xo_x Ω (Int32.toNatClampNeg (i + 1))), .ref 0] (hM p σ τ) ⟨hc, ?_⟩
          show xv l Ω (d + 220) kc ks 0 1287 [some (.retAddr 0), some (.ref 0), some (.ref 53), some (.ref 92), some (.int i), none, none] [.int v306] (hM p s307 t309) r
          refine xp_ok htr 8 (d + 220) kc ks [] 0 1287 [some (.retAddr 0), some (.ref 0), some (.ref 53), some (.ref 92), some (.int i), none, none] [.int v306] (hM p s307 t309) ⟨(xn_in gu303), ?_⟩
          show xv l Ω (d + 220) kc ks 0 1297 [some (.retAddr 0), some (.ref 0), some (.ref 53), some (.ref 92), some (.int i), some (.int v306), none] [.retAddr 0, .int (xo_x Ω (Int32.toNatClampNeg (i + 1))), .ref 53] (hM p s307 t309) r
          refine xp_ok htr 8 (d + 220) kc ks [] 0 1297 [some (.retAddr 0), some (.ref 0), some (.ref 53), some (.ref 92), some (.int i), some (.int v306), none] [.retAddr 0, .int (xo_x Ω (Int32.toNatClampNeg (i + 1))), .ref 53] (hM p s307 t309) ⟨(xn_in gu304), ?_⟩
          show xv l Ω (d + 220) kc ks 0 1307 [some (.retAddr 0), some (.ref 0), some (.ref 53), some (.ref 92), some (.int i), some (.int v306), none] [.int (i + 3), .retAddr 0, .int (xo_x Ω (Int32.toNatClampNeg (i + 2))), .int (xo_x Ω (Int32.toNatClampNeg (i + 1))), .ref 53] (hM p s307 t309) r
          cases q312 : g214 (xo_x Ω (Int32.toNatClampNeg (i + 1))) (xo_x Ω (Int32.toNatClampNeg (i + 2))) (xo_x Ω (Int32.toNatClampNeg (i + 3))) s307 with
          | none => rw [q312] at H; cases H
          | some q3120 =>
            obtain ⟨v310 | v310, s311⟩ := q3120
            · rw [q312] at H; dsimp only at H
              have hc := g214_run (Ω := Ω) htr (d + 217) p t309 (xo_x Ω (Int32.toNatClampNeg (i + 1))) (xo_x Ω (Int32.toNatClampNeg (i + 2))) (xo_x Ω (Int32.toNatClampNeg (i + 3))) s307 q312
              refine xp_ok htr 2 (d + 220) kc ks [eC none (hM p s311 t309)] 0 1307 [some (.retAddr 0), some (.ref 0), some (.ref 53), some (.ref 92), some (.int i), some (.int v306), none] [.int (i + 3), .retAddr 0, .int (xo_x Ω (Int32.toNatClampNeg (i + 2))), .int (xo_x Ω (Int32.toNatClampNeg (i + 1))), .ref 53] (hM p s307 t309) ⟨(xn_in gu305), hc, ?_⟩
              show xv l Ω (d + 220) kc ks 0 1311 [some (.retAddr 0), some (.ref 0), some (.ref 53), some (.ref 92), some (.int i), some (.int v306), none] [] (hM p s311 t309) r
              cases q315 : g149  s311 with
              | none => rw [q315] at H; cases H
              | some q3150 =>
                obtain ⟨v313 | v313, s314⟩ := q3150
                · rw [q315] at H; dsimp only at H
                  have hc := g149_run (Ω := Ω) htr (d + 219) p t309  s311 q315
                  refine xp_ok htr 2 (d + 220) kc ks [eC (some (.int v313)) (hM p s314 t309)] 0 1311 [some (.retAddr 0), some (.ref 0), some (.ref 53), some (.ref 92), some (.int i), some (.int v306), none] [] (hM p s311 t309) ⟨hc, ?_⟩
                  show xv l Ω (d + 220) kc ks 0 1315 [some (.retAddr 0), some (.ref 0), some (.ref 53), some (.ref 92), some (.int i), some (.int v306), none] [.int v313] (hM p s314 t309) r
                  by_cases h316 : v313 = v306
                  · rw [if_pos h316] at H
                    refine xp_ok htr 2 (d + 220) kc ks [eB true] 0 1315 [some (.retAddr 0), some (.ref 0), some (.ref 53), some (.ref 92), some (.int i), some (.int v306), none] [.int v313] (hM p s314 t309) ⟨h316, ?_⟩
                    show xv l Ω (d + 220) kc ks 0 1322 [some (.retAddr 0), some (.ref 0), some (.ref 53), some (.ref 92), some (.int i), some (.int v306), none] [] (hM p s314 t309) r
                    cases H
                    refine xp_ok htr 3 (d + 220) kc ks [] 0 1322 [some (.retAddr 0), some (.ref 0), some (.ref 53), some (.ref 92), some (.int i), some (.int v306), none] [] (hM p s314 t309) ?_
                    show xv l Ω (d + 220) kc ks 0 23 [some (.retAddr 0), some (.ref 0), some (.ref 53), some (.ref 92), some (.int (i + 5)), some (.int v306), none] [] (hM p s314 t309) r
                    exact xv_sub (L' := xx_L0 (i + 5)) ⟨rfl, rfl, rfl, rfl, rfl, trivial⟩ hk
                  · rw [if_neg h316] at H
                    cases H
                · rw [q315] at H; cases H
            · rw [q312] at H; cases H
def gL_19 (n : Nat) (xs : Nat → Int32) (p : Nat) (i : Int32) (σ : xS) (τ : xT) : Option (xS × xT × Nat) := (match g14  σ with | some (Sum.inl v317, s318) => (match g215  s318 with | some (Sum.inl v320, s321) => (if v317 = v320 then some (s321, τ, p) else none) | some (Sum.inr _, _) => none | none => none) | some (Sum.inr _, _) => none | none => none)
theorem gL_19_ok {l : Launch} {Ω : xo_O} (htr : xH l) (d kc ks : Nat) (p : Nat) (i : Int32) (σ : xS) (τ : xT) (r : xv_R) {q : xS × xT × Nat} (H : gL_19 (xo_n Ω) (xo_x Ω) p i σ τ = some q) (hk : xv l Ω (d + 220) kc ks 0 23 (xx_L0 (i + 5)) [] (hM q.2.2 q.1 q.2.1) r) : xv l Ω (d + 220) kc ks 0 1325 (xx_L0 i) [] (hM p σ τ) r := by
  unfold gL_19 at H
  cases q319 : g14  σ with
  | none => rw [q319] at H; cases H
  | some q3190 =>
    obtain ⟨v317 | v317, s318⟩ := q3190
    · rw [q319] at H; dsimp only at H
      have hc := g14_run (Ω := Ω) htr (d + 214) p τ  σ q319
      refine xp_ok htr 2 (d + 220) kc ks [eC (some (.int v317)) (hM p s318 τ)] 0 1325 [some (.retAddr 0), some (.ref 0), some (.ref 53), some (.ref 92), some (.int i), none, none] [] (hM p σ τ) ⟨hc, ?_⟩
      show xv l Ω (d + 220) kc ks 0 1329 [some (.retAddr 0), some (.ref 0), some (.ref 53), some (.ref 92), some (.int i), none, none] [.int v317] (hM p s318 τ) r
      cases q322 : g215  s318 with
      | none => rw [q322] at H; cases H
      | some q3220 =>
        obtain ⟨v320 | v320, s321⟩ := q3220
        · rw [q322] at H; dsimp only at H
          have hc := g215_run (Ω := Ω) htr (d + 217) p τ  s318 q322
          refine xp_ok htr 2 (d + 220) kc ks [eC (some (.int v320)) (hM p s321 τ)] 0 1329 [some (.retAddr 0), some (.ref 0), some (.ref 53), some (.ref 92), some (.int i), none, none] [.int v317] (hM p s318 τ) ⟨hc, ?_⟩
          show xv l Ω (d + 220) kc ks 0 1333 [some (.retAddr 0), some (.ref 0), some (.ref 53), some (.ref 92), some (.int i), none, none] [.int v320, .int v317] (hM p s321 τ) r
          by_cases h323 : v317 = v320
          · rw [if_pos h323] at H
            refine xp_ok htr 1 (d + 220) kc ks [eB true] 0 1333 [some (.retAddr 0), some (.ref 0), some (.ref 53), some (.ref 92), some (.int i), none, none] [.int v320, .int v317] (hM p s321 τ) ⟨h323, ?_⟩
            show xv l Ω (d + 220) kc ks 0 1338 [some (.retAddr 0), some (.ref 0), some (.ref 53), some (.ref 92), some (.int i), none, none] [] (hM p s321 τ) r
            cases H
            refine xp_ok htr 2 (d + 220) kc ks [] 0 1338 [some (.retAddr 0), some (.ref 0), some (.ref 53), some (.ref 92), some (.int i), none, none] [] (hM p s321 τ) ?_
            show xv l Ω (d + 220) kc ks 0 23 [some (.retAddr 0), some (.ref 0), some (.ref 53), some (.ref 92), some (.int (i + 5)), none, none] [] (hM p s321 τ) r
            exact xv_sub (L' := xx_L0 (i + 5)) ⟨rfl, rfl, rfl, rfl, rfl, trivial⟩ hk
          · rw [if_neg h323] at H
            cases H
        · rw [q322] at H; cases H
    · rw [q319] at H; cases H
def gL (n : Nat) (xs : Nat → Int32) (p : Nat) (i : Int32) (σ : xS) (τ : xT) : Option (xS × xT × Nat) := (bif xn i n then (if xs (Int32.toNatClampNeg i) &&& 31 = 0 then gL_0 n xs p i σ τ else (if xs (Int32.toNatClampNeg i) &&& 31 = 1 then gL_1 n xs p i σ τ else (if xs (Int32.toNatClampNeg i) &&& 31 = 2 then gL_2 n xs p i σ τ else (if xs (Int32.toNatClampNeg i) &&& 31 = 3 then gL_3 n xs p i σ τ else (if xs (Int32.toNatClampNeg i) &&& 31 = 4 then gL_4 n xs p i σ τ else (if xs (Int32.toNatClampNeg i) &&& 31 = 5 then gL_5 n xs p i σ τ else (if xs (Int32.toNatClampNeg i) &&& 31 = 6 then gL_6 n xs p i σ τ else (if xs (Int32.toNatClampNeg i) &&& 31 = 7 then gL_7 n xs p i σ τ else (if xs (Int32.toNatClampNeg i) &&& 31 = 8 then gL_8 n xs p i σ τ else (if xs (Int32.toNatClampNeg i) &&& 31 = 9 then gL_9 n xs p i σ τ else (if xs (Int32.toNatClampNeg i) &&& 31 = 10 then gL_10 n xs p i σ τ else (if xs (Int32.toNatClampNeg i) &&& 31 = 11 then gL_11 n xs p i σ τ else (if xs (Int32.toNatClampNeg i) &&& 31 = 12 then gL_12 n xs p i σ τ else (if xs (Int32.toNatClampNeg i) &&& 31 = 13 then gL_13 n xs p i σ τ else (if xs (Int32.toNatClampNeg i) &&& 31 = 14 then gL_14 n xs p i σ τ else (if xs (Int32.toNatClampNeg i) &&& 31 = 15 then gL_15 n xs p i σ τ else (if xs (Int32.toNatClampNeg i) &&& 31 = 16 then gL_16 n xs p i σ τ else (if xs (Int32.toNatClampNeg i) &&& 31 = 17 then gL_17 n xs p i σ τ else (if xs (Int32.toNatClampNeg i) &&& 31 = 18 then gL_18 n xs p i σ τ else (if xs (Int32.toNatClampNeg i) &&& 31 = 19 then gL_19 n xs p i σ τ else some (σ, τ, p))))))))))))))))))))) else none)
theorem xL_def (x : Int32) (h : ¬ x = 0 ∧ ¬ x = 1 ∧ ¬ x = 2 ∧ ¬ x = 3 ∧ ¬ x = 4 ∧ ¬ x = 5 ∧ ¬ x = 6 ∧ ¬ x = 7 ∧ ¬ x = 8 ∧ ¬ x = 9 ∧ ¬ x = 10 ∧ ¬ x = 11 ∧ ¬ x = 12 ∧ ¬ x = 13 ∧ ¬ x = 14 ∧ ¬ x = 15 ∧ ¬ x = 16 ∧ ¬ x = 17 ∧ ¬ x = 18 ∧ ¬ x = 19) : x.toInt < 0 ∨ 19 < x.toInt := by
  have t : ∀ k : Int32, ¬ x = k → ¬ x.toInt = k.toInt := fun k h e => h (Int32.toInt_inj.mp e)
  obtain ⟨h0, h1, h2, h3, h4, h5, h6, h7, h8, h9, h10, h11, h12, h13, h14, h15, h16, h17, h18, h19⟩ := h
  have e0 : ¬ x.toInt = 0 := t 0 h0
  have e1 : ¬ x.toInt = 1 := t 1 h1
  have e2 : ¬ x.toInt = 2 := t 2 h2
  have e3 : ¬ x.toInt = 3 := t 3 h3
  have e4 : ¬ x.toInt = 4 := t 4 h4
  have e5 : ¬ x.toInt = 5 := t 5 h5
  have e6 : ¬ x.toInt = 6 := t 6 h6
  have e7 : ¬ x.toInt = 7 := t 7 h7
  have e8 : ¬ x.toInt = 8 := t 8 h8
  have e9 : ¬ x.toInt = 9 := t 9 h9
  have e10 : ¬ x.toInt = 10 := t 10 h10
  have e11 : ¬ x.toInt = 11 := t 11 h11
  have e12 : ¬ x.toInt = 12 := t 12 h12
  have e13 : ¬ x.toInt = 13 := t 13 h13
  have e14 : ¬ x.toInt = 14 := t 14 h14
  have e15 : ¬ x.toInt = 15 := t 15 h15
  have e16 : ¬ x.toInt = 16 := t 16 h16
  have e17 : ¬ x.toInt = 17 := t 17 h17
  have e18 : ¬ x.toInt = 18 := t 18 h18
  have e19 : ¬ x.toInt = 19 := t 19 h19
  omega
theorem gL_ok {l : Launch} {Ω : xo_O} (htr : xH l) (d kc ks p : Nat) (hp : p = 23 ∨ p = 36) (i : Int32) (σ : xS) (τ : xT) (r : xv_R) (hi : ¬ Int32.ofNat (xo_n Ω) - 5 < i) {q : xS × xT × Nat} (H : gL (xo_n Ω) (xo_x Ω) p i σ τ = some q) (hk : xv l Ω (d + 220) kc ks 0 23 (xx_L0 (i + 5)) [] (hM q.2.2 q.1 q.2.1) r) : xv l Ω (d + 220) (kc + 4) (ks + 24) 0 23 (xx_L0 i) [] (hM p σ τ) r := by
  unfold gL at H
  cases g0 : xn i (xo_n Ω) with
  | false => rw [g0, cond_false] at H; cases H
  | true =>
    rw [g0, cond_true] at H
    refine xp_ok htr 6 (d + 220) (kc + 4) (ks + 24) [eB false] 0 23 (xx_L0 i) [] (hM p σ τ) ⟨hi, ?_⟩
    show xv l Ω (d + 220) (kc + 4) (ks + 24) 0 32 (xx_L0 i) [] (hM p σ τ) r
    by_cases h0 : xo_x Ω (Int32.toNatClampNeg i) &&& 31 = 0
    · rw [if_pos h0] at H
      refine xp_ok htr 6 (d + 220) (kc + 4) (ks + 24) [eS (some 0)] 0 32 (xx_L0 i) [] (hM p σ τ) ⟨xn_in g0, h0, ?_⟩
      show xv l Ω (d + 220) (kc + 4) (ks + 24) 0 132 (xx_L0 i) [] (hM p σ τ) r
      exact xv_mono (Nat.le_refl _) (Nat.add_le_add_left (by decide : 3 ≤ 4) kc) (Nat.add_le_add_left (by decide : 18 ≤ 24) ks) (gL_0_ok htr d kc ks p i σ τ r H hk)
    rw [if_neg h0] at H
    by_cases h1 : xo_x Ω (Int32.toNatClampNeg i) &&& 31 = 1
    · rw [if_pos h1] at H
      refine xp_ok htr 6 (d + 220) (kc + 4) (ks + 24) [eS (some 1)] 0 32 (xx_L0 i) [] (hM p σ τ) ⟨xn_in g0, h1, ?_⟩
      show xv l Ω (d + 220) (kc + 4) (ks + 24) 0 180 (xx_L0 i) [] (hM p σ τ) r
      exact xv_mono (Nat.le_refl _) (Nat.add_le_add_left (by decide : 2 ≤ 4) kc) (Nat.add_le_add_left (by decide : 12 ≤ 24) ks) (gL_1_ok htr d kc ks p i σ τ r H hk)
    rw [if_neg h1] at H
    by_cases h2 : xo_x Ω (Int32.toNatClampNeg i) &&& 31 = 2
    · rw [if_pos h2] at H
      refine xp_ok htr 6 (d + 220) (kc + 4) (ks + 24) [eS (some 2)] 0 32 (xx_L0 i) [] (hM p σ τ) ⟨xn_in g0, h2, ?_⟩
      show xv l Ω (d + 220) (kc + 4) (ks + 24) 0 228 (xx_L0 i) [] (hM p σ τ) r
      exact xv_mono (Nat.le_refl _) (Nat.add_le_add_left (by decide : 3 ≤ 4) kc) (Nat.add_le_add_left (by decide : 18 ≤ 24) ks) (gL_2_ok htr d kc ks p i σ τ r H hk)
    rw [if_neg h2] at H
    by_cases h3 : xo_x Ω (Int32.toNatClampNeg i) &&& 31 = 3
    · rw [if_pos h3] at H
      refine xp_ok htr 6 (d + 220) (kc + 4) (ks + 24) [eS (some 3)] 0 32 (xx_L0 i) [] (hM p σ τ) ⟨xn_in g0, h3, ?_⟩
      show xv l Ω (d + 220) (kc + 4) (ks + 24) 0 276 (xx_L0 i) [] (hM p σ τ) r
      exact xv_mono (Nat.le_refl _) (Nat.add_le_add_left (by decide : 2 ≤ 4) kc) (Nat.add_le_add_left (by decide : 12 ≤ 24) ks) (gL_3_ok htr d kc ks p i σ τ r H hk)
    rw [if_neg h3] at H
    by_cases h4 : xo_x Ω (Int32.toNatClampNeg i) &&& 31 = 4
    · rw [if_pos h4] at H
      refine xp_ok htr 6 (d + 220) (kc + 4) (ks + 24) [eS (some 4)] 0 32 (xx_L0 i) [] (hM p σ τ) ⟨xn_in g0, h4, ?_⟩
      show xv l Ω (d + 220) (kc + 4) (ks + 24) 0 324 (xx_L0 i) [] (hM p σ τ) r
      exact xv_mono (Nat.le_refl _) (Nat.add_le_add_left (by decide : 2 ≤ 4) kc) (Nat.add_le_add_left (by decide : 12 ≤ 24) ks) (gL_4_ok htr d kc ks p i σ τ r H hk)
    rw [if_neg h4] at H
    by_cases h5 : xo_x Ω (Int32.toNatClampNeg i) &&& 31 = 5
    · rw [if_pos h5] at H
      refine xp_ok htr 6 (d + 220) (kc + 4) (ks + 24) [eS (some 5)] 0 32 (xx_L0 i) [] (hM p σ τ) ⟨xn_in g0, h5, ?_⟩
      show xv l Ω (d + 220) (kc + 4) (ks + 24) 0 420 (xx_L0 i) [] (hM p σ τ) r
      exact xv_mono (Nat.le_refl _) (Nat.add_le_add_left (by decide : 1 ≤ 4) kc) (Nat.add_le_add_left (by decide : 6 ≤ 24) ks) (gL_5_ok htr d kc ks p i σ τ r H hk)
    rw [if_neg h5] at H
    by_cases h6 : xo_x Ω (Int32.toNatClampNeg i) &&& 31 = 6
    · rw [if_pos h6] at H
      refine xp_ok htr 6 (d + 220) (kc + 4) (ks + 24) [eS (some 6)] 0 32 (xx_L0 i) [] (hM p σ τ) ⟨xn_in g0, h6, ?_⟩
      show xv l Ω (d + 220) (kc + 4) (ks + 24) 0 496 (xx_L0 i) [] (hM p σ τ) r
      exact xv_mono (Nat.le_refl _) (Nat.add_le_add_left (by decide : 2 ≤ 4) kc) (Nat.add_le_add_left (by decide : 12 ≤ 24) ks) (gL_6_ok htr d kc ks p i σ τ r H hk)
    rw [if_neg h6] at H
    by_cases h7 : xo_x Ω (Int32.toNatClampNeg i) &&& 31 = 7
    · rw [if_pos h7] at H
      refine xp_ok htr 6 (d + 220) (kc + 4) (ks + 24) [eS (some 7)] 0 32 (xx_L0 i) [] (hM p σ τ) ⟨xn_in g0, h7, ?_⟩
      show xv l Ω (d + 220) (kc + 4) (ks + 24) 0 544 (xx_L0 i) [] (hM p σ τ) r
      exact xv_mono (Nat.le_refl _) (Nat.add_le_add_left (by decide : 2 ≤ 4) kc) (Nat.add_le_add_left (by decide : 12 ≤ 24) ks) (gL_7_ok htr d kc ks p i σ τ r H hk)
    rw [if_neg h7] at H
    by_cases h8 : xo_x Ω (Int32.toNatClampNeg i) &&& 31 = 8
    · rw [if_pos h8] at H
      refine xp_ok htr 6 (d + 220) (kc + 4) (ks + 24) [eS (some 8)] 0 32 (xx_L0 i) [] (hM p σ τ) ⟨xn_in g0, h8, ?_⟩
      show xv l Ω (d + 220) (kc + 4) (ks + 24) 0 580 (xx_L0 i) [] (hM p σ τ) r
      exact xv_mono (Nat.le_refl _) (Nat.add_le_add_left (by decide : 4 ≤ 4) kc) (Nat.add_le_add_left (by decide : 24 ≤ 24) ks) (gL_8_ok htr d kc ks p i σ τ r H hk)
    rw [if_neg h8] at H
    by_cases h9 : xo_x Ω (Int32.toNatClampNeg i) &&& 31 = 9
    · rw [if_pos h9] at H
      refine xp_ok htr 6 (d + 220) (kc + 4) (ks + 24) [eS (some 9)] 0 32 (xx_L0 i) [] (hM p σ τ) ⟨xn_in g0, h9, ?_⟩
      show xv l Ω (d + 220) (kc + 4) (ks + 24) 0 656 (xx_L0 i) [] (hM p σ τ) r
      exact xv_mono (Nat.le_refl _) (Nat.add_le_add_left (by decide : 1 ≤ 4) kc) (Nat.add_le_add_left (by decide : 6 ≤ 24) ks) (gL_9_ok htr d kc ks p i σ τ r H hk)
    rw [if_neg h9] at H
    by_cases h10 : xo_x Ω (Int32.toNatClampNeg i) &&& 31 = 10
    · rw [if_pos h10] at H
      refine xp_ok htr 6 (d + 220) (kc + 4) (ks + 24) [eS (some 10)] 0 32 (xx_L0 i) [] (hM p σ τ) ⟨xn_in g0, h10, ?_⟩
      show xv l Ω (d + 220) (kc + 4) (ks + 24) 0 712 (xx_L0 i) [] (hM p σ τ) r
      exact xv_mono (Nat.le_refl _) (Nat.add_le_add_left (by decide : 1 ≤ 4) kc) (Nat.add_le_add_left (by decide : 6 ≤ 24) ks) (gL_10_ok htr d kc ks p i σ τ r H hk)
    rw [if_neg h10] at H
    by_cases h11 : xo_x Ω (Int32.toNatClampNeg i) &&& 31 = 11
    · rw [if_pos h11] at H
      refine xp_ok htr 6 (d + 220) (kc + 4) (ks + 24) [eS (some 11)] 0 32 (xx_L0 i) [] (hM p σ τ) ⟨xn_in g0, h11, ?_⟩
      show xv l Ω (d + 220) (kc + 4) (ks + 24) 0 768 (xx_L0 i) [] (hM p σ τ) r
      exact xv_mono (Nat.le_refl _) (Nat.add_le_add_left (by decide : 1 ≤ 4) kc) (Nat.add_le_add_left (by decide : 6 ≤ 24) ks) (gL_11_ok htr d kc ks p i σ τ r H hk)
    rw [if_neg h11] at H
    by_cases h12 : xo_x Ω (Int32.toNatClampNeg i) &&& 31 = 12
    · rw [if_pos h12] at H
      refine xp_ok htr 6 (d + 220) (kc + 4) (ks + 24) [eS (some 12)] 0 32 (xx_L0 i) [] (hM p σ τ) ⟨xn_in g0, h12, ?_⟩
      show xv l Ω (d + 220) (kc + 4) (ks + 24) 0 856 (xx_L0 i) [] (hM p σ τ) r
      exact xv_mono (Nat.le_refl _) (Nat.add_le_add_left (by decide : 2 ≤ 4) kc) (Nat.add_le_add_left (by decide : 12 ≤ 24) ks) (gL_12_ok htr d kc ks p i σ τ r H hk)
    rw [if_neg h12] at H
    by_cases h13 : xo_x Ω (Int32.toNatClampNeg i) &&& 31 = 13
    · rw [if_pos h13] at H
      refine xp_ok htr 6 (d + 220) (kc + 4) (ks + 24) [eS (some 13)] 0 32 (xx_L0 i) [] (hM p σ τ) ⟨xn_in g0, h13, ?_⟩
      show xv l Ω (d + 220) (kc + 4) (ks + 24) 0 956 (xx_L0 i) [] (hM p σ τ) r
      rcases hp with rfl | rfl
      · exact xv_mono (Nat.le_refl _) (Nat.add_le_add_left (by decide : 1 ≤ 4) kc) (Nat.add_le_add_left (by decide : 6 ≤ 24) ks) (gL_13_ok_23 htr d kc ks i σ τ r H hk)
      · exact xv_mono (Nat.le_refl _) (Nat.add_le_add_left (by decide : 1 ≤ 4) kc) (Nat.add_le_add_left (by decide : 6 ≤ 24) ks) (gL_13_ok_36 htr d kc ks i σ τ r H hk)
    rw [if_neg h13] at H
    by_cases h14 : xo_x Ω (Int32.toNatClampNeg i) &&& 31 = 14
    · rw [if_pos h14] at H
      refine xp_ok htr 6 (d + 220) (kc + 4) (ks + 24) [eS (some 14)] 0 32 (xx_L0 i) [] (hM p σ τ) ⟨xn_in g0, h14, ?_⟩
      show xv l Ω (d + 220) (kc + 4) (ks + 24) 0 1000 (xx_L0 i) [] (hM p σ τ) r
      exact xv_mono (Nat.le_refl _) (Nat.le_add_right _ _) (Nat.le_add_right _ _) (gL_14_ok htr d kc ks p i σ τ r H hk)
    rw [if_neg h14] at H
    by_cases h15 : xo_x Ω (Int32.toNatClampNeg i) &&& 31 = 15
    · rw [if_pos h15] at H
      refine xp_ok htr 6 (d + 220) (kc + 4) (ks + 24) [eS (some 15)] 0 32 (xx_L0 i) [] (hM p σ τ) ⟨xn_in g0, h15, ?_⟩
      show xv l Ω (d + 220) (kc + 4) (ks + 24) 0 1013 (xx_L0 i) [] (hM p σ τ) r
      rcases hp with rfl | rfl
      · exact xv_mono (Nat.le_refl _) (Nat.add_le_add_left (by decide : 3 ≤ 4) kc) (Nat.add_le_add_left (by decide : 18 ≤ 24) ks) (gL_15_ok_23 htr d kc ks i σ τ r H hk)
      · exact xv_mono (Nat.le_refl _) (Nat.add_le_add_left (by decide : 3 ≤ 4) kc) (Nat.add_le_add_left (by decide : 18 ≤ 24) ks) (gL_15_ok_36 htr d kc ks i σ τ r H hk)
    rw [if_neg h15] at H
    by_cases h16 : xo_x Ω (Int32.toNatClampNeg i) &&& 31 = 16
    · rw [if_pos h16] at H
      refine xp_ok htr 6 (d + 220) (kc + 4) (ks + 24) [eS (some 16)] 0 32 (xx_L0 i) [] (hM p σ τ) ⟨xn_in g0, h16, ?_⟩
      show xv l Ω (d + 220) (kc + 4) (ks + 24) 0 1105 (xx_L0 i) [] (hM p σ τ) r
      rcases hp with rfl | rfl
      · exact xv_mono (Nat.le_refl _) (Nat.add_le_add_left (by decide : 3 ≤ 4) kc) (Nat.add_le_add_left (by decide : 18 ≤ 24) ks) (gL_16_ok_23 htr d kc ks i σ τ r H hk)
      · exact xv_mono (Nat.le_refl _) (Nat.add_le_add_left (by decide : 3 ≤ 4) kc) (Nat.add_le_add_left (by decide : 18 ≤ 24) ks) (gL_16_ok_36 htr d kc ks i σ τ r H hk)
    rw [if_neg h16] at H
    by_cases h17 : xo_x Ω (Int32.toNatClampNeg i) &&& 31 = 17
    · rw [if_pos h17] at H
      refine xp_ok htr 6 (d + 220) (kc + 4) (ks + 24) [eS (some 17)] 0 32 (xx_L0 i) [] (hM p σ τ) ⟨xn_in g0, h17, ?_⟩
      show xv l Ω (d + 220) (kc + 4) (ks + 24) 0 1197 (xx_L0 i) [] (hM p σ τ) r
      exact xv_mono (Nat.le_refl _) (Nat.add_le_add_left (by decide : 2 ≤ 4) kc) (Nat.add_le_add_left (by decide : 12 ≤ 24) ks) (gL_17_ok htr d kc ks p i σ τ r H hk)
    rw [if_neg h17] at H
    by_cases h18 : xo_x Ω (Int32.toNatClampNeg i) &&& 31 = 18
    · rw [if_pos h18] at H
      refine xp_ok htr 6 (d + 220) (kc + 4) (ks + 24) [eS (some 18)] 0 32 (xx_L0 i) [] (hM p σ τ) ⟨xn_in g0, h18, ?_⟩
      show xv l Ω (d + 220) (kc + 4) (ks + 24) 0 1265 (xx_L0 i) [] (hM p σ τ) r
      exact xv_mono (Nat.le_refl _) (Nat.add_le_add_left (by decide : 2 ≤ 4) kc) (Nat.add_le_add_left (by decide : 12 ≤ 24) ks) (gL_18_ok htr d kc ks p i σ τ r H hk)
    rw [if_neg h18] at H
    by_cases h19 : xo_x Ω (Int32.toNatClampNeg i) &&& 31 = 19
    · rw [if_pos h19] at H
      refine xp_ok htr 6 (d + 220) (kc + 4) (ks + 24) [eS (some 19)] 0 32 (xx_L0 i) [] (hM p σ τ) ⟨xn_in g0, h19, ?_⟩
      show xv l Ω (d + 220) (kc + 4) (ks + 24) 0 1325 (xx_L0 i) [] (hM p σ τ) r
      exact xv_mono (Nat.le_refl _) (Nat.le_add_right _ _) (Nat.le_add_right _ _) (gL_19_ok htr d kc ks p i σ τ r H hk)
    rw [if_neg h19] at H
    cases H
    refine xp_ok htr 6 (d + 220) (kc + 4) (ks + 24) [eS none] 0 32 (xx_L0 i) [] (hM p σ τ) ⟨xn_in g0, xL_def _ ⟨h0, h1, h2, h3, h4, h5, h6, h7, h8, h9, h10, h11, h12, h13, h14, h15, h16, h17, h18, h19⟩, ?_⟩
    show xv l Ω (d + 220) (kc + 4) (ks + 24) 0 1338 (xx_L0 i) [] (hM p σ τ) r
    exact xp_ok htr 2 (d + 220) (kc + 4) (ks + 24) [] 0 1338 (xx_L0 i) [] (hM p σ τ) (xv_mono (Nat.le_refl _) (Nat.le_add_right _ _) (Nat.le_add_right _ _) hk)
