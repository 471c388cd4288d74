/-! the methods as functions: laid by program (wip/whole/dec.py) -/
/- AccessDeskModel.assign -/
def g159_42 (x1 : Int32) (x2 : Int32) (k1 : Int32) (σ : xS) : Option xQ := (if ((xh_ui σ 53 21 k1) 53 21) = 0 then (bif xn x1 8 then (match g154 (xh_ui (xh_ui σ 53 21 k1) 55 (Int32.toNatClampNeg x1) (((xh_ui σ 53 21 k1) 55 (Int32.toNatClampNeg x1)) ||| (1 <<< (x2 &&& 31)))) with | some (Sum.inl v7, s8) => (if v7 = 0 then some ((Sum.inl 0, s8)) else some ((Sum.inl 0, (xh_ui (xh_ui s8 55 (Int32.toNatClampNeg x1) ((s8 55 (Int32.toNatClampNeg x1)) &&& ((1 <<< (x2 &&& 31)) ^^^ (-1)))) 53 21 2)))) | some (Sum.inr v7, s8) => none | none => none) else none) else some ((Sum.inl 0, (xh_ui σ 53 21 k1))))
def g159_19 (x1 : Int32) (x2 : Int32) (σ : xS) : Option xQ := g159_42 x1 x2 1 σ
def g159 (a1 : Int32) (a2 : Int32) (σ : xS) : xO := (match g152 a1 8 σ with | some (Sum.inl v1, s2) => (if v1 = 0 then g159_19 a1 a2 s2 else (match g152 a2 12 s2 with | some (Sum.inl v11, s12) => (if v11 = 0 then g159_19 a1 a2 s12 else (bif xn a1 8 then (if (((s12 55 (Int32.toNatClampNeg a1)) >>> (a2 &&& 31)) &&& 1) = 1 then g159_42 a1 a2 2 s12 else g159_42 a1 a2 0 s12) else none)) | some (Sum.inr v11, s12) => none | none => none)) | some (Sum.inr v1, s2) => none | none => none)
theorem g159_42_ok {l : Launch} {Ω : xo_O} (htr : xH l) (d : Nat) (p : Nat) (τ : Nat → Nat → Int64) (x1 : Int32) (x2 : Int32) (k1 : Int32) (σ : xS) (r : xv_R) (H : xo (xB true p τ r) (g159_42 x1 x2 k1 σ)) : xv l Ω (d + 3) 0 0 159 42 [some (.ref 53), some (.int x1), some (.int x2)] [.int k1, .ref 53] (hM p σ τ) r := by
  unfold g159_42 at H
  by_cases h5 : ((xh_ui σ 53 21 k1) 53 21) = 0
  · rw [if_pos h5] at H
    refine xp_ok htr 4 (d + 3) 0 0 [eB true] 159 42 [some (.ref 53), some (.int x1), some (.int x2)] [.int k1, .ref 53] (hM p σ τ) ⟨h5, ?_⟩
    show xv l Ω (d + 3) 0 0 159 53 [some (.ref 53), some (.int x1), some (.int x2)] [] (hM p (xh_ui σ 53 21 k1) τ) r
    cases g6 : xn x1 8 with
    | false => rw [g6, cond_false] at H; exact False.elim H
    | true =>
      rw [g6, cond_true] at H
      refine xp_ok htr 8 (d + 3) 0 0 [] 159 53 [some (.ref 53), some (.int x1), some (.int x2)] [] (hM p (xh_ui σ 53 21 k1) τ) ⟨(xn_in g6), ?_⟩
      show xv l Ω (d + 3) 0 0 159 63 [some (.ref 53), some (.int x1), some (.int x2)] [.int (1 <<< (x2 &&& 31)), .int ((xh_ui σ 53 21 k1) 55 (Int32.toNatClampNeg x1)), .int x1, .ref 55] (hM p (xh_ui σ 53 21 k1) τ) r
      cases q9 : g154 (xh_ui (xh_ui σ 53 21 k1) 55 (Int32.toNatClampNeg x1) (((xh_ui σ 53 21 k1) 55 (Int32.toNatClampNeg x1)) ||| (1 <<< (x2 &&& 31)))) with
      | none => rw [q9] at H; exact False.elim H
      | some q90 =>
        obtain ⟨v7 | v7, s8⟩ := q90
        · rw [q9] at H; dsimp only at H
          have hc := g154_run (Ω := Ω) htr d p τ  (xh_ui (xh_ui σ 53 21 k1) 55 (Int32.toNatClampNeg x1) (((xh_ui σ 53 21 k1) 55 (Int32.toNatClampNeg x1)) ||| (1 <<< (x2 &&& 31)))) q9
          refine xp_ok htr 4 (d + 3) 0 0 [eC (some (.int v7)) (hM p s8 τ)] 159 63 [some (.ref 53), some (.int x1), some (.int x2)] [.int (1 <<< (x2 &&& 31)), .int ((xh_ui σ 53 21 k1) 55 (Int32.toNatClampNeg x1)), .int x1, .ref 55] (hM p (xh_ui σ 53 21 k1) τ) ⟨(xn_in g6), hc, ?_⟩
          show xv l Ω (d + 3) 0 0 159 69 [some (.ref 53), some (.int x1), some (.int x2)] [.int v7] (hM p s8 τ) r
          by_cases h10 : v7 = 0
          · rw [if_pos h10] at H
            refine xp_ok htr 1 (d + 3) 0 0 [eB false] 159 69 [some (.ref 53), some (.int x1), some (.int x2)] [.int v7] (hM p s8 τ) ⟨h10, ?_⟩
            show xv l Ω (d + 3) 0 0 159 72 [some (.ref 53), some (.int x1), some (.int x2)] [] (hM p s8 τ) r
            exact xp_ok htr 1 (d + 3) 0 0 [] 159 72 [some (.ref 53), some (.int x1), some (.int x2)] [] (hM p s8 τ) ⟨trivial, (Eq.symm H)⟩
          · rw [if_neg h10] at H
            refine xp_ok htr 1 (d + 3) 0 0 [eB true] 159 69 [some (.ref 53), some (.int x1), some (.int x2)] [.int v7] (hM p s8 τ) ⟨h10, ?_⟩
            show xv l Ω (d + 3) 0 0 159 73 [some (.ref 53), some (.int x1), some (.int x2)] [] (hM p s8 τ) r
            refine xp_ok htr 8 (d + 3) 0 0 [] 159 73 [some (.ref 53), some (.int x1), some (.int x2)] [] (hM p s8 τ) ⟨(xn_in g6), ?_⟩
            show xv l Ω (d + 3) 0 0 159 83 [some (.ref 53), some (.int x1), some (.int x2)] [.int (1 <<< (x2 &&& 31)), .int (s8 55 (Int32.toNatClampNeg x1)), .int x1, .ref 55] (hM p s8 τ) r
            exact xp_ok htr 8 (d + 3) 0 0 [] 159 83 [some (.ref 53), some (.int x1), some (.int x2)] [.int (1 <<< (x2 &&& 31)), .int (s8 55 (Int32.toNatClampNeg x1)), .int x1, .ref 55] (hM p s8 τ) ⟨(xn_in g6), trivial, (Eq.symm H)⟩
        · rw [q9] at H; exact False.elim H
  · rw [if_neg h5] at H
    refine xp_ok htr 4 (d + 3) 0 0 [eB false] 159 42 [some (.ref 53), some (.int x1), some (.int x2)] [.int k1, .ref 53] (hM p σ τ) ⟨h5, ?_⟩
    show xv l Ω (d + 3) 0 0 159 52 [some (.ref 53), some (.int x1), some (.int x2)] [] (hM p (xh_ui σ 53 21 k1) τ) r
    exact xp_ok htr 1 (d + 3) 0 0 [] 159 52 [some (.ref 53), some (.int x1), some (.int x2)] [] (hM p (xh_ui σ 53 21 k1) τ) ⟨trivial, (Eq.symm H)⟩
theorem g159_19_ok {l : Launch} {Ω : xo_O} (htr : xH l) (d : Nat) (p : Nat) (τ : Nat → Nat → Int64) (x1 : Int32) (x2 : Int32) (σ : xS) (r : xv_R) (H : xo (xB true p τ r) (g159_19 x1 x2 σ)) : xv l Ω (d + 3) 0 0 159 19 [some (.ref 53), some (.int x1), some (.int x2)] [.ref 53] (hM p σ τ) r := by
  unfold g159_19 at H
  refine xp_ok htr 2 (d + 3) 0 0 [] 159 19 [some (.ref 53), some (.int x1), some (.int x2)] [.ref 53] (hM p σ τ) ?_
  show xv l Ω (d + 3) 0 0 159 42 [some (.ref 53), some (.int x1), some (.int x2)] [.int 1, .ref 53] (hM p σ τ) r
  exact xv_sub (L' := [some (.ref 53), some (.int x1), some (.int x2)]) ⟨rfl, ⟨rfl, ⟨rfl, trivial⟩⟩⟩ (g159_42_ok htr d p τ x1 x2 1 σ r H)
theorem g159_run {l : Launch} {Ω : xo_O} (htr : xH l) (d : Nat) (p : Nat) (τ : Nat → Nat → Int64) (a1 : Int32) (a2 : Int32) (σ : xS) {q : xQ} (hq : g159 a1 a2 σ = some q) : xv l Ω (d + 3) 0 0 159 0 (xs_loc (xm_l 159) [.ref 53, .int a1, .int a2]) [] (hM p σ τ) (xq_R true p τ q) := by
  have H : xo (xB true p τ (xq_R true p τ q)) (g159 a1 a2 σ) := by rw [hq]; exact rfl
  generalize xq_R true p τ q = r at H ⊢
  show xv l Ω (d + 3) 0 0 159 0 [some (.ref 53), some (.int a1), some (.int a2)] [] (hM p σ τ) r
  unfold g159 at H
  cases q3 : g152 a1 8 σ with
  | none => rw [q3] at H; exact False.elim H
  | some q30 =>
    obtain ⟨v1 | v1, s2⟩ := q30
    · rw [q3] at H; dsimp only at H
      have hc := g152_run (Ω := Ω) htr (d + 2) p τ a1 8 σ q3
      refine xp_ok htr 4 (d + 3) 0 0 [eC (some (.int v1)) (hM p s2 τ)] 159 0 [some (.ref 53), some (.int a1), some (.int a2)] [] (hM p σ τ) ⟨hc, ?_⟩
      show xv l Ω (d + 3) 0 0 159 7 [some (.ref 53), some (.int a1), some (.int a2)] [.int v1, .ref 53] (hM p s2 τ) r
      by_cases h4 : v1 = 0
      · rw [if_pos h4] at H
        refine xp_ok htr 1 (d + 3) 0 0 [eB true] 159 7 [some (.ref 53), some (.int a1), some (.int a2)] [.int v1, .ref 53] (hM p s2 τ) ⟨h4, ?_⟩
        show xv l Ω (d + 3) 0 0 159 19 [some (.ref 53), some (.int a1), some (.int a2)] [.ref 53] (hM p s2 τ) r
        exact xv_sub (L' := [some (.ref 53), some (.int a1), some (.int a2)]) ⟨rfl, ⟨rfl, ⟨rfl, trivial⟩⟩⟩ (g159_19_ok htr d p τ a1 a2 s2 r H)
      · rw [if_neg h4] at H
        refine xp_ok htr 1 (d + 3) 0 0 [eB false] 159 7 [some (.ref 53), some (.int a1), some (.int a2)] [.int v1, .ref 53] (hM p s2 τ) ⟨h4, ?_⟩
        show xv l Ω (d + 3) 0 0 159 10 [some (.ref 53), some (.int a1), some (.int a2)] [.ref 53] (hM p s2 τ) r
        cases q13 : g152 a2 12 s2 with
        | none => rw [q13] at H; exact False.elim H
        | some q130 =>
          obtain ⟨v11 | v11, s12⟩ := q130
          · rw [q13] at H; dsimp only at H
            have hc := g152_run (Ω := Ω) htr (d + 2) p τ a2 12 s2 q13
            refine xp_ok htr 3 (d + 3) 0 0 [eC (some (.int v11)) (hM p s12 τ)] 159 10 [some (.ref 53), some (.int a1), some (.int a2)] [.ref 53] (hM p s2 τ) ⟨hc, ?_⟩
            show xv l Ω (d + 3) 0 0 159 16 [some (.ref 53), some (.int a1), some (.int a2)] [.int v11, .ref 53] (hM p s12 τ) r
            by_cases h14 : v11 = 0
            · rw [if_pos h14] at H
              refine xp_ok htr 1 (d + 3) 0 0 [eB false] 159 16 [some (.ref 53), some (.int a1), some (.int a2)] [.int v11, .ref 53] (hM p s12 τ) ⟨h14, ?_⟩
              show xv l Ω (d + 3) 0 0 159 19 [some (.ref 53), some (.int a1), some (.int a2)] [.ref 53] (hM p s12 τ) r
              exact xv_sub (L' := [some (.ref 53), some (.int a1), some (.int a2)]) ⟨rfl, ⟨rfl, ⟨rfl, trivial⟩⟩⟩ (g159_19_ok htr d p τ a1 a2 s12 r H)
            · rw [if_neg h14] at H
              refine xp_ok htr 1 (d + 3) 0 0 [eB true] 159 16 [some (.ref 53), some (.int a1), some (.int a2)] [.int v11, .ref 53] (hM p s12 τ) ⟨h14, ?_⟩
              show xv l Ω (d + 3) 0 0 159 23 [some (.ref 53), some (.int a1), some (.int a2)] [.ref 53] (hM p s12 τ) r
              cases g15 : xn a1 8 with
              | false => rw [g15, cond_false] at H; exact False.elim H
              | true =>
                rw [g15, cond_true] at H
                refine xp_ok htr 8 (d + 3) 0 0 [] 159 23 [some (.ref 53), some (.int a1), some (.int a2)] [.ref 53] (hM p s12 τ) ⟨(xn_in g15), ?_⟩
                show xv l Ω (d + 3) 0 0 159 33 [some (.ref 53), some (.int a1), some (.int a2)] [.int (((s12 55 (Int32.toNatClampNeg a1)) >>> (a2 &&& 31)) &&& 1), .ref 53] (hM p s12 τ) r
                by_cases h16 : (((s12 55 (Int32.toNatClampNeg a1)) >>> (a2 &&& 31)) &&& 1) = 1
                · rw [if_pos h16] at H
                  refine xp_ok htr 2 (d + 3) 0 0 [eB false] 159 33 [some (.ref 53), some (.int a1), some (.int a2)] [.int (((s12 55 (Int32.toNatClampNeg a1)) >>> (a2 &&& 31)) &&& 1), .ref 53] (hM p s12 τ) ⟨h16, ?_⟩
                  show xv l Ω (d + 3) 0 0 159 37 [some (.ref 53), some (.int a1), some (.int a2)] [.ref 53] (hM p s12 τ) r
                  refine xp_ok htr 2 (d + 3) 0 0 [] 159 37 [some (.ref 53), some (.int a1), some (.int a2)] [.ref 53] (hM p s12 τ) ?_
                  show xv l Ω (d + 3) 0 0 159 42 [some (.ref 53), some (.int a1), some (.int a2)] [.int 2, .ref 53] (hM p s12 τ) r
                  exact xv_sub (L' := [some (.ref 53), some (.int a1), some (.int a2)]) ⟨rfl, ⟨rfl, ⟨rfl, trivial⟩⟩⟩ (g159_42_ok htr d p τ a1 a2 2 s12 r H)
                · rw [if_neg h16] at H
                  refine xp_ok htr 2 (d + 3) 0 0 [eB true] 159 33 [some (.ref 53), some (.int a1), some (.int a2)] [.int (((s12 55 (Int32.toNatClampNeg a1)) >>> (a2 &&& 31)) &&& 1), .ref 53] (hM p s12 τ) ⟨h16, ?_⟩
                  show xv l Ω (d + 3) 0 0 159 41 [some (.ref 53), some (.int a1), some (.int a2)] [.ref 53] (hM p s12 τ) r
                  refine xp_ok htr 1 (d + 3) 0 0 [] 159 41 [some (.ref 53), some (.int a1), some (.int a2)] [.ref 53] (hM p s12 τ) ?_
                  show xv l Ω (d + 3) 0 0 159 42 [some (.ref 53), some (.int a1), some (.int a2)] [.int 0, .ref 53] (hM p s12 τ) r
                  exact xv_sub (L' := [some (.ref 53), some (.int a1), some (.int a2)]) ⟨rfl, ⟨rfl, ⟨rfl, trivial⟩⟩⟩ (g159_42_ok htr d p τ a1 a2 0 s12 r H)
          · rw [q13] at H; exact False.elim H
    · rw [q3] at H; exact False.elim H
/- AccessDeskModel.withdraw -/
def g160_41 (x1 : Int32) (x2 : Int32) (k1 : Int32) (σ : xS) : Option xQ := (if ((xh_ui σ 53 21 k1) 53 21) = 0 then (bif xn x1 8 then (match g158 (xh_ui (xh_ui σ 53 21 k1) 55 (Int32.toNatClampNeg x1) (((xh_ui σ 53 21 k1) 55 (Int32.toNatClampNeg x1)) &&& ((1 <<< (x2 &&& 31)) ^^^ (-1)))) with | some (Sum.inl v7, s8) => some ((Sum.inl 0, s8)) | some (Sum.inr v7, s8) => none | none => none) else none) else some ((Sum.inl 0, (xh_ui σ 53 21 k1))))
def g160_19 (x1 : Int32) (x2 : Int32) (σ : xS) : Option xQ := g160_41 x1 x2 1 σ
def g160 (a1 : Int32) (a2 : Int32) (σ : xS) : xO := (match g152 a1 8 σ with | some (Sum.inl v1, s2) => (if v1 = 0 then g160_19 a1 a2 s2 else (match g152 a2 12 s2 with | some (Sum.inl v10, s11) => (if v10 = 0 then g160_19 a1 a2 s11 else (bif xn a1 8 then (if (((s11 55 (Int32.toNatClampNeg a1)) >>> (a2 &&& 31)) &&& 1) = 0 then g160_41 a1 a2 2 s11 else g160_41 a1 a2 0 s11) else none)) | some (Sum.inr v10, s11) => none | none => none)) | some (Sum.inr v1, s2) => none | none => none)
theorem g160_41_ok {l : Launch} {Ω : xo_O} (htr : xH l) (d : Nat) (p : Nat) (τ : Nat → Nat → Int64) (x1 : Int32) (x2 : Int32) (k1 : Int32) (σ : xS) (r : xv_R) (H : xo (xB true p τ r) (g160_41 x1 x2 k1 σ)) : xv l Ω (d + 2) 0 0 160 41 [some (.ref 53), some (.int x1), some (.int x2)] [.int k1, .ref 53] (hM p σ τ) r := by
  unfold g160_41 at H
  by_cases h5 : ((xh_ui σ 53 21 k1) 53 21) = 0
  · rw [if_pos h5] at H
    refine xp_ok htr 4 (d + 2) 0 0 [eB true] 160 41 [some (.ref 53), some (.int x1), some (.int x2)] [.int k1, .ref 53] (hM p σ τ) ⟨h5, ?_⟩
    show xv l Ω (d + 2) 0 0 160 52 [some (.ref 53), some (.int x1), some (.int x2)] [] (hM p (xh_ui σ 53 21 k1) τ) r
    cases g6 : xn x1 8 with
    | false => rw [g6, cond_false] at H; exact False.elim H
    | true =>
      rw [g6, cond_true] at H
      refine xp_ok htr 8 (d + 2) 0 0 [] 160 52 [some (.ref 53), some (.int x1), some (.int x2)] [] (hM p (xh_ui σ 53 21 k1) τ) ⟨(xn_in g6), ?_⟩
      show xv l Ω (d + 2) 0 0 160 62 [some (.ref 53), some (.int x1), some (.int x2)] [.int (1 <<< (x2 &&& 31)), .int ((xh_ui σ 53 21 k1) 55 (Int32.toNatClampNeg x1)), .int x1, .ref 55] (hM p (xh_ui σ 53 21 k1) τ) r
      cases q9 : g158 (xh_ui (xh_ui σ 53 21 k1) 55 (Int32.toNatClampNeg x1) (((xh_ui σ 53 21 k1) 55 (Int32.toNatClampNeg x1)) &&& ((1 <<< (x2 &&& 31)) ^^^ (-1)))) with
      | none => rw [q9] at H; exact False.elim H
      | some q90 =>
        obtain ⟨v7 | v7, s8⟩ := q90
        · rw [q9] at H; dsimp only at H
          have hc := g158_run (Ω := Ω) htr d p τ  (xh_ui (xh_ui σ 53 21 k1) 55 (Int32.toNatClampNeg x1) (((xh_ui σ 53 21 k1) 55 (Int32.toNatClampNeg x1)) &&& ((1 <<< (x2 &&& 31)) ^^^ (-1)))) q9
          refine xp_ok htr 6 (d + 2) 0 0 [eC none (hM p s8 τ)] 160 62 [some (.ref 53), some (.int x1), some (.int x2)] [.int (1 <<< (x2 &&& 31)), .int ((xh_ui σ 53 21 k1) 55 (Int32.toNatClampNeg x1)), .int x1, .ref 55] (hM p (xh_ui σ 53 21 k1) τ) ⟨(xn_in g6), hc, ?_⟩
          show xv l Ω (d + 2) 0 0 160 70 [some (.ref 53), some (.int x1), some (.int x2)] [] (hM p s8 τ) r
          exact xp_ok htr 1 (d + 2) 0 0 [] 160 70 [some (.ref 53), some (.int x1), some (.int x2)] [] (hM p s8 τ) ⟨trivial, (Eq.symm H)⟩
        · rw [q9] at H; exact False.elim H
  · rw [if_neg h5] at H
    refine xp_ok htr 4 (d + 2) 0 0 [eB false] 160 41 [some (.ref 53), some (.int x1), some (.int x2)] [.int k1, .ref 53] (hM p σ τ) ⟨h5, ?_⟩
    show xv l Ω (d + 2) 0 0 160 51 [some (.ref 53), some (.int x1), some (.int x2)] [] (hM p (xh_ui σ 53 21 k1) τ) r
    exact xp_ok htr 1 (d + 2) 0 0 [] 160 51 [some (.ref 53), some (.int x1), some (.int x2)] [] (hM p (xh_ui σ 53 21 k1) τ) ⟨trivial, (Eq.symm H)⟩
theorem g160_19_ok {l : Launch} {Ω : xo_O} (htr : xH l) (d : Nat) (p : Nat) (τ : Nat → Nat → Int64) (x1 : Int32) (x2 : Int32) (σ : xS) (r : xv_R) (H : xo (xB true p τ r) (g160_19 x1 x2 σ)) : xv l Ω (d + 2) 0 0 160 19 [some (.ref 53), some (.int x1), some (.int x2)] [.ref 53] (hM p σ τ) r := by
  unfold g160_19 at H
  refine xp_ok htr 2 (d + 2) 0 0 [] 160 19 [some (.ref 53), some (.int x1), some (.int x2)] [.ref 53] (hM p σ τ) ?_
  show xv l Ω (d + 2) 0 0 160 41 [some (.ref 53), some (.int x1), some (.int x2)] [.int 1, .ref 53] (hM p σ τ) r
  exact xv_sub (L' := [some (.ref 53), some (.int x1), some (.int x2)]) ⟨rfl, ⟨rfl, ⟨rfl, trivial⟩⟩⟩ (g160_41_ok htr d p τ x1 x2 1 σ r H)
theorem g160_run {l : Launch} {Ω : xo_O} (htr : xH l) (d : Nat) (p : Nat) (τ : Nat → Nat → Int64) (a1 : Int32) (a2 : Int32) (σ : xS) {q : xQ} (hq : g160 a1 a2 σ = some q) : xv l Ω (d + 2) 0 0 160 0 (xs_loc (xm_l 160) [.ref 53, .int a1, .int a2]) [] (hM p σ τ) (xq_R true p τ q) := by
  have H : xo (xB true p τ (xq_R true p τ q)) (g160 a1 a2 σ) := by rw [hq]; exact rfl
  generalize xq_R true p τ q = r at H ⊢
  show xv l Ω (d + 2) 0 0 160 0 [some (.ref 53), some (.int a1), some (.int a2)] [] (hM p σ τ) r
  unfold g160 at H
  cases q3 : g152 a1 8 σ with
  | none => rw [q3] at H; exact False.elim H
  | some q30 =>
    obtain ⟨v1 | v1, s2⟩ := q30
    · rw [q3] at H; dsimp only at H
      have hc := g152_run (Ω := Ω) htr (d + 1) p τ a1 8 σ q3
      refine xp_ok htr 4 (d + 2) 0 0 [eC (some (.int v1)) (hM p s2 τ)] 160 0 [some (.ref 53), some (.int a1), some (.int a2)] [] (hM p σ τ) ⟨hc, ?_⟩
      show xv l Ω (d + 2) 0 0 160 7 [some (.ref 53), some (.int a1), some (.int a2)] [.int v1, .ref 53] (hM p s2 τ) r
      by_cases h4 : v1 = 0
      · rw [if_pos h4] at H
        refine xp_ok htr 1 (d + 2) 0 0 [eB true] 160 7 [some (.ref 53), some (.int a1), some (.int a2)] [.int v1, .ref 53] (hM p s2 τ) ⟨h4, ?_⟩
        show xv l Ω (d + 2) 0 0 160 19 [some (.ref 53), some (.int a1), some (.int a2)] [.ref 53] (hM p s2 τ) r
        exact xv_sub (L' := [some (.ref 53), some (.int a1), some (.int a2)]) ⟨rfl, ⟨rfl, ⟨rfl, trivial⟩⟩⟩ (g160_19_ok htr d p τ a1 a2 s2 r H)
      · rw [if_neg h4] at H
        refine xp_ok htr 1 (d + 2) 0 0 [eB false] 160 7 [some (.ref 53), some (.int a1), some (.int a2)] [.int v1, .ref 53] (hM p s2 τ) ⟨h4, ?_⟩
        show xv l Ω (d + 2) 0 0 160 10 [some (.ref 53), some (.int a1), some (.int a2)] [.ref 53] (hM p s2 τ) r
        cases q12 : g152 a2 12 s2 with
        | none => rw [q12] at H; exact False.elim H
        | some q120 =>
          obtain ⟨v10 | v10, s11⟩ := q120
          · rw [q12] at H; dsimp only at H
            have hc := g152_run (Ω := Ω) htr (d + 1) p τ a2 12 s2 q12
            refine xp_ok htr 3 (d + 2) 0 0 [eC (some (.int v10)) (hM p s11 τ)] 160 10 [some (.ref 53), some (.int a1), some (.int a2)] [.ref 53] (hM p s2 τ) ⟨hc, ?_⟩
            show xv l Ω (d + 2) 0 0 160 16 [some (.ref 53), some (.int a1), some (.int a2)] [.int v10, .ref 53] (hM p s11 τ) r
            by_cases h13 : v10 = 0
            · rw [if_pos h13] at H
              refine xp_ok htr 1 (d + 2) 0 0 [eB false] 160 16 [some (.ref 53), some (.int a1), some (.int a2)] [.int v10, .ref 53] (hM p s11 τ) ⟨h13, ?_⟩
              show xv l Ω (d + 2) 0 0 160 19 [some (.ref 53), some (.int a1), some (.int a2)] [.ref 53] (hM p s11 τ) r
              exact xv_sub (L' := [some (.ref 53), some (.int a1), some (.int a2)]) ⟨rfl, ⟨rfl, ⟨rfl, trivial⟩⟩⟩ (g160_19_ok htr d p τ a1 a2 s11 r H)
            · rw [if_neg h13] at H
              refine xp_ok htr 1 (d + 2) 0 0 [eB true] 160 16 [some (.ref 53), some (.int a1), some (.int a2)] [.int v10, .ref 53] (hM p s11 τ) ⟨h13, ?_⟩
              show xv l Ω (d + 2) 0 0 160 23 [some (.ref 53), some (.int a1), some (.int a2)] [.ref 53] (hM p s11 τ) r
              cases g14 : xn a1 8 with
              | false => rw [g14, cond_false] at H; exact False.elim H
              | true =>
                rw [g14, cond_true] at H
                refine xp_ok htr 8 (d + 2) 0 0 [] 160 23 [some (.ref 53), some (.int a1), some (.int a2)] [.ref 53] (hM p s11 τ) ⟨(xn_in g14), ?_⟩
                show xv l Ω (d + 2) 0 0 160 33 [some (.ref 53), some (.int a1), some (.int a2)] [.int (((s11 55 (Int32.toNatClampNeg a1)) >>> (a2 &&& 31)) &&& 1), .ref 53] (hM p s11 τ) r
                by_cases h15 : (((s11 55 (Int32.toNatClampNeg a1)) >>> (a2 &&& 31)) &&& 1) = 0
                · rw [if_pos h15] at H
                  refine xp_ok htr 1 (d + 2) 0 0 [eB false] 160 33 [some (.ref 53), some (.int a1), some (.int a2)] [.int (((s11 55 (Int32.toNatClampNeg a1)) >>> (a2 &&& 31)) &&& 1), .ref 53] (hM p s11 τ) ⟨h15, ?_⟩
                  show xv l Ω (d + 2) 0 0 160 36 [some (.ref 53), some (.int a1), some (.int a2)] [.ref 53] (hM p s11 τ) r
                  refine xp_ok htr 2 (d + 2) 0 0 [] 160 36 [some (.ref 53), some (.int a1), some (.int a2)] [.ref 53] (hM p s11 τ) ?_
                  show xv l Ω (d + 2) 0 0 160 41 [some (.ref 53), some (.int a1), some (.int a2)] [.int 2, .ref 53] (hM p s11 τ) r
                  exact xv_sub (L' := [some (.ref 53), some (.int a1), some (.int a2)]) ⟨rfl, ⟨rfl, ⟨rfl, trivial⟩⟩⟩ (g160_41_ok htr d p τ a1 a2 2 s11 r H)
                · rw [if_neg h15] at H
                  refine xp_ok htr 1 (d + 2) 0 0 [eB true] 160 33 [some (.ref 53), some (.int a1), some (.int a2)] [.int (((s11 55 (Int32.toNatClampNeg a1)) >>> (a2 &&& 31)) &&& 1), .ref 53] (hM p s11 τ) ⟨h15, ?_⟩
                  show xv l Ω (d + 2) 0 0 160 40 [some (.ref 53), some (.int a1), some (.int a2)] [.ref 53] (hM p s11 τ) r
                  refine xp_ok htr 1 (d + 2) 0 0 [] 160 40 [some (.ref 53), some (.int a1), some (.int a2)] [.ref 53] (hM p s11 τ) ?_
                  show xv l Ω (d + 2) 0 0 160 41 [some (.ref 53), some (.int a1), some (.int a2)] [.int 0, .ref 53] (hM p s11 τ) r
                  exact xv_sub (L' := [some (.ref 53), some (.int a1), some (.int a2)]) ⟨rfl, ⟨rfl, ⟨rfl, trivial⟩⟩⟩ (g160_41_ok htr d p τ a1 a2 0 s11 r H)
          · rw [q12] at H; exact False.elim H
    · rw [q3] at H; exact False.elim H
/- AccessDeskModel.bound -/
def g161_120 (k1 : Int32) (σ : xS) : Option xQ := (if ((xh_ui σ 53 21 k1) 53 21) = 0 then some ((Sum.inl (((xh_ui (xh_ui σ 53 21 k1) 53 8 (((xh_ui σ 53 21 k1) 53 8) + 1)) 53 8) - 1), (xh_ui (xh_ui σ 53 21 k1) 53 8 (((xh_ui σ 53 21 k1) 53 8) + 1)))) else some ((Sum.inl 0, (xh_ui σ 53 21 k1))))
def g161_61 (x1 : Int32) (x2 : Int32) (x3 : Int32) (k1 : Int32) (σ : xS) : Option xQ := (if ((xh_ui σ 53 21 k1) 53 21) = 0 then (bif xn ((xh_ui σ 53 21 k1) 53 8) 6 then (bif xn ((xh_ui (xh_ui σ 53 21 k1) 62 (Int32.toNatClampNeg ((xh_ui σ 53 21 k1) 53 8)) (vp_nar .boolean x1)) 53 8) 6 then (bif xn ((xh_ui (xh_ui (xh_ui σ 53 21 k1) 62 (Int32.toNatClampNeg ((xh_ui σ 53 21 k1) 53 8)) (vp_nar .boolean x1)) 63 (Int32.toNatClampNeg ((xh_ui (xh_ui σ 53 21 k1) 62 (Int32.toNatClampNeg ((xh_ui σ 53 21 k1) 53 8)) (vp_nar .boolean x1)) 53 8)) x2) 53 8) 6 then (match g155 ((xh_ui (xh_ui (xh_ui (xh_ui σ 53 21 k1) 62 (Int32.toNatClampNeg ((xh_ui σ 53 21 k1) 53 8)) (vp_nar .boolean x1)) 63 (Int32.toNatClampNeg ((xh_ui (xh_ui σ 53 21 k1) 62 (Int32.toNatClampNeg ((xh_ui σ 53 21 k1) 53 8)) (vp_nar .boolean x1)) 53 8)) x2) 64 (Int32.toNatClampNeg ((xh_ui (xh_ui (xh_ui σ 53 21 k1) 62 (Int32.toNatClampNeg ((xh_ui σ 53 21 k1) 53 8)) (vp_nar .boolean x1)) 63 (Int32.toNatClampNeg ((xh_ui (xh_ui σ 53 21 k1) 62 (Int32.toNatClampNeg ((xh_ui σ 53 21 k1) 53 8)) (vp_nar .boolean x1)) 53 8)) x2) 53 8)) x3) 53 8) (xh_ui (xh_ui (xh_ui (xh_ui σ 53 21 k1) 62 (Int32.toNatClampNeg ((xh_ui σ 53 21 k1) 53 8)) (vp_nar .boolean x1)) 63 (Int32.toNatClampNeg ((xh_ui (xh_ui σ 53 21 k1) 62 (Int32.toNatClampNeg ((xh_ui σ 53 21 k1) 53 8)) (vp_nar .boolean x1)) 53 8)) x2) 64 (Int32.toNatClampNeg ((xh_ui (xh_ui (xh_ui σ 53 21 k1) 62 (Int32.toNatClampNeg ((xh_ui σ 53 21 k1) 53 8)) (vp_nar .boolean x1)) 63 (Int32.toNatClampNeg ((xh_ui (xh_ui σ 53 21 k1) 62 (Int32.toNatClampNeg ((xh_ui σ 53 21 k1) 53 8)) (vp_nar .boolean x1)) 53 8)) x2) 53 8)) x3) with | some (Sum.inl v7, s8) => (if v7 = 0 then g161_120 0 s8 else g161_120 2 s8) | some (Sum.inr v7, s8) => none | none => none) else none) else none) else none) else some ((Sum.inl 0, (xh_ui σ 53 21 k1))))
def g161_43 (x1 : Int32) (x2 : Int32) (x3 : Int32) (σ : xS) : Option xQ := g161_61 x1 x2 x3 1 σ
def g161_27 (x1 : Int32) (x2 : Int32) (x3 : Int32) (k0 : Int32) (σ : xS) : Option xQ := (if k0 = 0 then g161_43 x1 x2 x3 σ else (match g156 x2 σ with | some (Sum.inl v12, s13) => (if x3 ≤ v12 then (if (s13 53 8) = 6 then g161_61 x1 x2 x3 2 s13 else g161_61 x1 x2 x3 0 s13) else g161_43 x1 x2 x3 s13) | some (Sum.inr v12, s13) => none | none => none))
def g161_26 (x1 : Int32) (x2 : Int32) (x3 : Int32) (σ : xS) : Option xQ := g161_27 x1 x2 x3 0 σ
def g161 (a1 : Int32) (a2 : Int32) (a3 : Int32) (σ : xS) : xO := (if a2 < 0 then g161_26 a1 a2 a3 σ else (if 4096 ≤ a2 then g161_26 a1 a2 a3 σ else (if a3 < 2 then g161_26 a1 a2 a3 σ else (if 6 < a3 then g161_26 a1 a2 a3 σ else g161_27 a1 a2 a3 1 σ))))
theorem g161_120_ok {l : Launch} {Ω : xo_O} (htr : xH l) (d : Nat) (p : Nat) (τ : Nat → Nat → Int64) (k1 : Int32) (σ : xS) (r : xv_R) (H : xo (xB false p τ r) (g161_120 k1 σ)) : xv l Ω (d + 2) 0 0 161 120 [some (.ref 53), none, none, none, none] [.int k1, .ref 53] (hM p σ τ) r := by
  unfold g161_120 at H
  by_cases h11 : ((xh_ui σ 53 21 k1) 53 21) = 0
  · rw [if_pos h11] at H
    refine xp_ok htr 4 (d + 2) 0 0 [eB true] 161 120 [some (.ref 53), none, none, none, none] [.int k1, .ref 53] (hM p σ τ) ⟨h11, ?_⟩
    show xv l Ω (d + 2) 0 0 161 132 [some (.ref 53), none, none, none, none] [] (hM p (xh_ui σ 53 21 k1) τ) r
    refine xp_ok htr 8 (d + 2) 0 0 [] 161 132 [some (.ref 53), none, none, none, none] [] (hM p (xh_ui σ 53 21 k1) τ) ?_
    show xv l Ω (d + 2) 0 0 161 146 [some (.ref 53), none, none, none, none] [.int ((xh_ui (xh_ui σ 53 21 k1) 53 8 (((xh_ui σ 53 21 k1) 53 8) + 1)) 53 8)] (hM p (xh_ui (xh_ui σ 53 21 k1) 53 8 (((xh_ui σ 53 21 k1) 53 8) + 1)) τ) r
    exact xp_ok htr 3 (d + 2) 0 0 [] 161 146 [some (.ref 53), none, none, none, none] [.int ((xh_ui (xh_ui σ 53 21 k1) 53 8 (((xh_ui σ 53 21 k1) 53 8) + 1)) 53 8)] (hM p (xh_ui (xh_ui σ 53 21 k1) 53 8 (((xh_ui σ 53 21 k1) 53 8) + 1)) τ) ⟨trivial, (Eq.symm H)⟩
  · rw [if_neg h11] at H
    refine xp_ok htr 4 (d + 2) 0 0 [eB false] 161 120 [some (.ref 53), none, none, none, none] [.int k1, .ref 53] (hM p σ τ) ⟨h11, ?_⟩
    show xv l Ω (d + 2) 0 0 161 130 [some (.ref 53), none, none, none, none] [] (hM p (xh_ui σ 53 21 k1) τ) r
    exact xp_ok htr 2 (d + 2) 0 0 [] 161 130 [some (.ref 53), none, none, none, none] [] (hM p (xh_ui σ 53 21 k1) τ) ⟨trivial, (Eq.symm H)⟩
theorem g161_61_ok {l : Launch} {Ω : xo_O} (htr : xH l) (d : Nat) (p : Nat) (τ : Nat → Nat → Int64) (x1 : Int32) (x2 : Int32) (x3 : Int32) (k1 : Int32) (σ : xS) (r : xv_R) (H : xo (xB false p τ r) (g161_61 x1 x2 x3 k1 σ)) : xv l Ω (d + 2) 0 0 161 61 [some (.ref 53), some (.int x1), some (.int x2), some (.int x3), none] [.int k1, .ref 53] (hM p σ τ) r := by
  unfold g161_61 at H
  by_cases h3 : ((xh_ui σ 53 21 k1) 53 21) = 0
  · rw [if_pos h3] at H
    refine xp_ok htr 4 (d + 2) 0 0 [eB true] 161 61 [some (.ref 53), some (.int x1), some (.int x2), some (.int x3), none] [.int k1, .ref 53] (hM p σ τ) ⟨h3, ?_⟩
    show xv l Ω (d + 2) 0 0 161 73 [some (.ref 53), some (.int x1), some (.int x2), some (.int x3), none] [] (hM p (xh_ui σ 53 21 k1) τ) r
    cases g4 : xn ((xh_ui σ 53 21 k1) 53 8) 6 with
    | false => rw [g4, cond_false] at H; exact False.elim H
    | true =>
      rw [g4, cond_true] at H
      refine xp_ok htr 8 (d + 2) 0 0 [] 161 73 [some (.ref 53), some (.int x1), some (.int x2), some (.int x3), none] [] (hM p (xh_ui σ 53 21 k1) τ) ⟨(xn_in g4), ?_⟩
      show xv l Ω (d + 2) 0 0 161 87 [some (.ref 53), some (.int x1), some (.int x2), some (.int x3), none] [.ref 63] (hM p (xh_ui (xh_ui σ 53 21 k1) 62 (Int32.toNatClampNeg ((xh_ui σ 53 21 k1) 53 8)) (vp_nar .boolean x1)) τ) r
      cases g5 : xn ((xh_ui (xh_ui σ 53 21 k1) 62 (Int32.toNatClampNeg ((xh_ui σ 53 21 k1) 53 8)) (vp_nar .boolean x1)) 53 8) 6 with
      | false => rw [g5, cond_false] at H; exact False.elim H
      | true =>
        rw [g5, cond_true] at H
        refine xp_ok htr 8 (d + 2) 0 0 [] 161 87 [some (.ref 53), some (.int x1), some (.int x2), some (.int x3), none] [.ref 63] (hM p (xh_ui (xh_ui σ 53 21 k1) 62 (Int32.toNatClampNeg ((xh_ui σ 53 21 k1) 53 8)) (vp_nar .boolean x1)) τ) ⟨(xn_in g5), ?_⟩
        show xv l Ω (d + 2) 0 0 161 101 [some (.ref 53), some (.int x1), some (.int x2), some (.int x3), none] [.int ((xh_ui (xh_ui (xh_ui σ 53 21 k1) 62 (Int32.toNatClampNeg ((xh_ui σ 53 21 k1) 53 8)) (vp_nar .boolean x1)) 63 (Int32.toNatClampNeg ((xh_ui (xh_ui σ 53 21 k1) 62 (Int32.toNatClampNeg ((xh_ui σ 53 21 k1) 53 8)) (vp_nar .boolean x1)) 53 8)) x2) 53 8), .ref 64] (hM p (xh_ui (xh_ui (xh_ui σ 53 21 k1) 62 (Int32.toNatClampNeg ((xh_ui σ 53 21 k1) 53 8)) (vp_nar .boolean x1)) 63 (Int32.toNatClampNeg ((xh_ui (xh_ui σ 53 21 k1) 62 (Int32.toNatClampNeg ((xh_ui σ 53 21 k1) 53 8)) (vp_nar .boolean x1)) 53 8)) x2) τ) r
        cases g6 : xn ((xh_ui (xh_ui (xh_ui σ 53 21 k1) 62 (Int32.toNatClampNeg ((xh_ui σ 53 21 k1) 53 8)) (vp_nar .boolean x1)) 63 (Int32.toNatClampNeg ((xh_ui (xh_ui σ 53 21 k1) 62 (Int32.toNatClampNeg ((xh_ui σ 53 21 k1) 53 8)) (vp_nar .boolean x1)) 53 8)) x2) 53 8) 6 with
        | false => rw [g6, cond_false] at H; exact False.elim H
        | true =>
          rw [g6, cond_true] at H
          cases q9 : g155 ((xh_ui (xh_ui (xh_ui (xh_ui σ 53 21 k1) 62 (Int32.toNatClampNeg ((xh_ui σ 53 21 k1) 53 8)) (vp_nar .boolean x1)) 63 (Int32.toNatClampNeg ((xh_ui (xh_ui σ 53 21 k1) 62 (Int32.toNatClampNeg ((xh_ui σ 53 21 k1) 53 8)) (vp_nar .boolean x1)) 53 8)) x2) 64 (Int32.toNatClampNeg ((xh_ui (xh_ui (xh_ui σ 53 21 k1) 62 (Int32.toNatClampNeg ((xh_ui σ 53 21 k1) 53 8)) (vp_nar .boolean x1)) 63 (Int32.toNatClampNeg ((xh_ui (xh_ui σ 53 21 k1) 62 (Int32.toNatClampNeg ((xh_ui σ 53 21 k1) 53 8)) (vp_nar .boolean x1)) 53 8)) x2) 53 8)) x3) 53 8) (xh_ui (xh_ui (xh_ui (xh_ui σ 53 21 k1) 62 (Int32.toNatClampNeg ((xh_ui σ 53 21 k1) 53 8)) (vp_nar .boolean x1)) 63 (Int32.toNatClampNeg ((xh_ui (xh_ui σ 53 21 k1) 62 (Int32.toNatClampNeg ((xh_ui σ 53 21 k1) 53 8)) (vp_nar .boolean x1)) 53 8)) x2) 64 (Int32.toNatClampNeg ((xh_ui (xh_ui (xh_ui σ 53 21 k1) 62 (Int32.toNatClampNeg ((xh_ui σ 53 21 k1) 53 8)) (vp_nar .boolean x1)) 63 (Int32.toNatClampNeg ((xh_ui (xh_ui σ 53 21 k1) 62 (Int32.toNatClampNeg ((xh_ui σ 53 21 k1) 53 8)) (vp_nar .boolean x1)) 53 8)) x2) 53 8)) x3) with
          | none => rw [q9] at H; exact False.elim H
          | some q90 =>
            obtain ⟨v7 | v7, s8⟩ := q90
            · rw [q9] at H; dsimp only at H
              have hc := g155_run (Ω := Ω) htr d p τ ((xh_ui (xh_ui (xh_ui (xh_ui σ 53 21 k1) 62 (Int32.toNatClampNeg ((xh_ui σ 53 21 k1) 53 8)) (vp_nar .boolean x1)) 63 (Int32.toNatClampNeg ((xh_ui (xh_ui σ 53 21 k1) 62 (Int32.toNatClampNeg ((xh_ui σ 53 21 k1) 53 8)) (vp_nar .boolean x1)) 53 8)) x2) 64 (Int32.toNatClampNeg ((xh_ui (xh_ui (xh_ui σ 53 21 k1) 62 (Int32.toNatClampNeg ((xh_ui σ 53 21 k1) 53 8)) (vp_nar .boolean x1)) 63 (Int32.toNatClampNeg ((xh_ui (xh_ui σ 53 21 k1) 62 (Int32.toNatClampNeg ((xh_ui σ 53 21 k1) 53 8)) (vp_nar .boolean x1)) 53 8)) x2) 53 8)) x3) 53 8) (xh_ui (xh_ui (xh_ui (xh_ui σ 53 21 k1) 62 (Int32.toNatClampNeg ((xh_ui σ 53 21 k1) 53 8)) (vp_nar .boolean x1)) 63 (Int32.toNatClampNeg ((xh_ui (xh_ui σ 53 21 k1) 62 (Int32.toNatClampNeg ((xh_ui σ 53 21 k1) 53 8)) (vp_nar .boolean x1)) 53 8)) x2) 64 (Int32.toNatClampNeg ((xh_ui (xh_ui (xh_ui σ 53 21 k1) 62 (Int32.toNatClampNeg ((xh_ui σ 53 21 k1) 53 8)) (vp_nar .boolean x1)) 63 (Int32.toNatClampNeg ((xh_ui (xh_ui σ 53 21 k1) 62 (Int32.toNatClampNeg ((xh_ui σ 53 21 k1) 53 8)) (vp_nar .boolean x1)) 53 8)) x2) 53 8)) x3) q9
              refine xp_ok htr 7 (d + 2) 0 0 [eC (some (.int v7)) (hM p s8 τ)] 161 101 [some (.ref 53), some (.int x1), some (.int x2), some (.int x3), none] [.int ((xh_ui (xh_ui (xh_ui σ 53 21 k1) 62 (Int32.toNatClampNeg ((xh_ui σ 53 21 k1) 53 8)) (vp_nar .boolean x1)) 63 (Int32.toNatClampNeg ((xh_ui (xh_ui σ 53 21 k1) 62 (Int32.toNatClampNeg ((xh_ui σ 53 21 k1) 53 8)) (vp_nar .boolean x1)) 53 8)) x2) 53 8), .ref 64] (hM p (xh_ui (xh_ui (xh_ui σ 53 21 k1) 62 (Int32.toNatClampNeg ((xh_ui σ 53 21 k1) 53 8)) (vp_nar .boolean x1)) 63 (Int32.toNatClampNeg ((xh_ui (xh_ui σ 53 21 k1) 62 (Int32.toNatClampNeg ((xh_ui σ 53 21 k1) 53 8)) (vp_nar .boolean x1)) 53 8)) x2) τ) ⟨(xn_in g6), hc, ?_⟩
              show xv l Ω (d + 2) 0 0 161 112 [some (.ref 53), some (.int x1), some (.int x2), some (.int x3), none] [.int v7, .ref 53] (hM p s8 τ) r
              by_cases h10 : v7 = 0
              · rw [if_pos h10] at H
                refine xp_ok htr 1 (d + 2) 0 0 [eB true] 161 112 [some (.ref 53), some (.int x1), some (.int x2), some (.int x3), none] [.int v7, .ref 53] (hM p s8 τ) ⟨h10, ?_⟩
                show xv l Ω (d + 2) 0 0 161 119 [some (.ref 53), some (.int x1), some (.int x2), some (.int x3), none] [.ref 53] (hM p s8 τ) r
                refine xp_ok htr 1 (d + 2) 0 0 [] 161 119 [some (.ref 53), some (.int x1), some (.int x2), some (.int x3), none] [.ref 53] (hM p s8 τ) ?_
                show xv l Ω (d + 2) 0 0 161 120 [some (.ref 53), some (.int x1), some (.int x2), some (.int x3), none] [.int 0, .ref 53] (hM p s8 τ) r
                exact xv_sub (L' := [some (.ref 53), none, none, none, none]) ⟨rfl, trivial⟩ (g161_120_ok htr d p τ 0 s8 r H)
              · rw [if_neg h10] at H
                refine xp_ok htr 1 (d + 2) 0 0 [eB false] 161 112 [some (.ref 53), some (.int x1), some (.int x2), some (.int x3), none] [.int v7, .ref 53] (hM p s8 τ) ⟨h10, ?_⟩
                show xv l Ω (d + 2) 0 0 161 115 [some (.ref 53), some (.int x1), some (.int x2), some (.int x3), none] [.ref 53] (hM p s8 τ) r
                refine xp_ok htr 2 (d + 2) 0 0 [] 161 115 [some (.ref 53), some (.int x1), some (.int x2), some (.int x3), none] [.ref 53] (hM p s8 τ) ?_
                show xv l Ω (d + 2) 0 0 161 120 [some (.ref 53), some (.int x1), some (.int x2), some (.int x3), none] [.int 2, .ref 53] (hM p s8 τ) r
                exact xv_sub (L' := [some (.ref 53), none, none, none, none]) ⟨rfl, trivial⟩ (g161_120_ok htr d p τ 2 s8 r H)
            · rw [q9] at H; exact False.elim H
  · rw [if_neg h3] at H
    refine xp_ok htr 4 (d + 2) 0 0 [eB false] 161 61 [some (.ref 53), some (.int x1), some (.int x2), some (.int x3), none] [.int k1, .ref 53] (hM p σ τ) ⟨h3, ?_⟩
    show xv l Ω (d + 2) 0 0 161 71 [some (.ref 53), some (.int x1), some (.int x2), some (.int x3), none] [] (hM p (xh_ui σ 53 21 k1) τ) r
    exact xp_ok htr 2 (d + 2) 0 0 [] 161 71 [some (.ref 53), some (.int x1), some (.int x2), some (.int x3), none] [] (hM p (xh_ui σ 53 21 k1) τ) ⟨trivial, (Eq.symm H)⟩
theorem g161_43_ok {l : Launch} {Ω : xo_O} (htr : xH l) (d : Nat) (p : Nat) (τ : Nat → Nat → Int64) (x1 : Int32) (x2 : Int32) (x3 : Int32) (σ : xS) (r : xv_R) (H : xo (xB false p τ r) (g161_43 x1 x2 x3 σ)) : xv l Ω (d + 2) 0 0 161 43 [some (.ref 53), some (.int x1), some (.int x2), some (.int x3), none] [.ref 53] (hM p σ τ) r := by
  unfold g161_43 at H
  refine xp_ok htr 2 (d + 2) 0 0 [] 161 43 [some (.ref 53), some (.int x1), some (.int x2), some (.int x3), none] [.ref 53] (hM p σ τ) ?_
  show xv l Ω (d + 2) 0 0 161 61 [some (.ref 53), some (.int x1), some (.int x2), some (.int x3), none] [.int 1, .ref 53] (hM p σ τ) r
  exact xv_sub (L' := [some (.ref 53), some (.int x1), some (.int x2), some (.int x3), none]) ⟨rfl, ⟨rfl, ⟨rfl, ⟨rfl, trivial⟩⟩⟩⟩ (g161_61_ok htr d p τ x1 x2 x3 1 σ r H)
theorem g161_27_ok {l : Launch} {Ω : xo_O} (htr : xH l) (d : Nat) (p : Nat) (τ : Nat → Nat → Int64) (x1 : Int32) (x2 : Int32) (x3 : Int32) (k0 : Int32) (σ : xS) (r : xv_R) (H : xo (xB false p τ r) (g161_27 x1 x2 x3 k0 σ)) : xv l Ω (d + 2) 0 0 161 27 [some (.ref 53), some (.int x1), some (.int x2), some (.int x3), none] [.int k0] (hM p σ τ) r := by
  unfold g161_27 at H
  by_cases h2 : k0 = 0
  · rw [if_pos h2] at H
    refine xp_ok htr 4 (d + 2) 0 0 [eB true] 161 27 [some (.ref 53), some (.int x1), some (.int x2), some (.int x3), none] [.int k0] (hM p σ τ) ⟨h2, ?_⟩
    show xv l Ω (d + 2) 0 0 161 43 [some (.ref 53), some (.int x1), some (.int x2), some (.int x3), some (.int k0)] [.ref 53] (hM p σ τ) r
    exact xv_sub (L' := [some (.ref 53), some (.int x1), some (.int x2), some (.int x3), none]) ⟨rfl, ⟨rfl, ⟨rfl, ⟨rfl, trivial⟩⟩⟩⟩ (g161_43_ok htr d p τ x1 x2 x3 σ r H)
  · rw [if_neg h2] at H
    refine xp_ok htr 4 (d + 2) 0 0 [eB false] 161 27 [some (.ref 53), some (.int x1), some (.int x2), some (.int x3), none] [.int k0] (hM p σ τ) ⟨h2, ?_⟩
    show xv l Ω (d + 2) 0 0 161 35 [some (.ref 53), some (.int x1), some (.int x2), some (.int x3), some (.int k0)] [.ref 53] (hM p σ τ) r
    cases q14 : g156 x2 σ with
    | none => rw [q14] at H; exact False.elim H
    | some q140 =>
      obtain ⟨v12 | v12, s13⟩ := q140
      · rw [q14] at H; dsimp only at H
        have hc := g156_run (Ω := Ω) htr (d + 1) p τ x2 σ q14
        refine xp_ok htr 2 (d + 2) 0 0 [eC (some (.int v12)) (hM p s13 τ)] 161 35 [some (.ref 53), some (.int x1), some (.int x2), some (.int x3), some (.int k0)] [.ref 53] (hM p σ τ) ⟨hc, ?_⟩
        show xv l Ω (d + 2) 0 0 161 39 [some (.ref 53), some (.int x1), some (.int x2), some (.int x3), some (.int k0)] [.int v12, .ref 53] (hM p s13 τ) r
        by_cases h15 : x3 ≤ v12
        · rw [if_pos h15] at H
          refine xp_ok htr 2 (d + 2) 0 0 [eB true] 161 39 [some (.ref 53), some (.int x1), some (.int x2), some (.int x3), some (.int k0)] [.int v12, .ref 53] (hM p s13 τ) ⟨h15, ?_⟩
          show xv l Ω (d + 2) 0 0 161 47 [some (.ref 53), some (.int x1), some (.int x2), some (.int x3), some (.int k0)] [.ref 53] (hM p s13 τ) r
          by_cases h16 : (s13 53 8) = 6
          · rw [if_pos h16] at H
            refine xp_ok htr 4 (d + 2) 0 0 [eB false] 161 47 [some (.ref 53), some (.int x1), some (.int x2), some (.int x3), some (.int k0)] [.ref 53] (hM p s13 τ) ⟨h16, ?_⟩
            show xv l Ω (d + 2) 0 0 161 56 [some (.ref 53), some (.int x1), some (.int x2), some (.int x3), some (.int k0)] [.ref 53] (hM p s13 τ) r
            refine xp_ok htr 2 (d + 2) 0 0 [] 161 56 [some (.ref 53), some (.int x1), some (.int x2), some (.int x3), some (.int k0)] [.ref 53] (hM p s13 τ) ?_
            show xv l Ω (d + 2) 0 0 161 61 [some (.ref 53), some (.int x1), some (.int x2), some (.int x3), some (.int k0)] [.int 2, .ref 53] (hM p s13 τ) r
            exact xv_sub (L' := [some (.ref 53), some (.int x1), some (.int x2), some (.int x3), none]) ⟨rfl, ⟨rfl, ⟨rfl, ⟨rfl, trivial⟩⟩⟩⟩ (g161_61_ok htr d p τ x1 x2 x3 2 s13 r H)
          · rw [if_neg h16] at H
            refine xp_ok htr 4 (d + 2) 0 0 [eB true] 161 47 [some (.ref 53), some (.int x1), some (.int x2), some (.int x3), some (.int k0)] [.ref 53] (hM p s13 τ) ⟨h16, ?_⟩
            show xv l Ω (d + 2) 0 0 161 60 [some (.ref 53), some (.int x1), some (.int x2), some (.int x3), some (.int k0)] [.ref 53] (hM p s13 τ) r
            refine xp_ok htr 1 (d + 2) 0 0 [] 161 60 [some (.ref 53), some (.int x1), some (.int x2), some (.int x3), some (.int k0)] [.ref 53] (hM p s13 τ) ?_
            show xv l Ω (d + 2) 0 0 161 61 [some (.ref 53), some (.int x1), some (.int x2), some (.int x3), some (.int k0)] [.int 0, .ref 53] (hM p s13 τ) r
            exact xv_sub (L' := [some (.ref 53), some (.int x1), some (.int x2), some (.int x3), none]) ⟨rfl, ⟨rfl, ⟨rfl, ⟨rfl, trivial⟩⟩⟩⟩ (g161_61_ok htr d p τ x1 x2 x3 0 s13 r H)
        · rw [if_neg h15] at H
          refine xp_ok htr 2 (d + 2) 0 0 [eB false] 161 39 [some (.ref 53), some (.int x1), some (.int x2), some (.int x3), some (.int k0)] [.int v12, .ref 53] (hM p s13 τ) ⟨h15, ?_⟩
          show xv l Ω (d + 2) 0 0 161 43 [some (.ref 53), some (.int x1), some (.int x2), some (.int x3), some (.int k0)] [.ref 53] (hM p s13 τ) r
          exact xv_sub (L' := [some (.ref 53), some (.int x1), some (.int x2), some (.int x3), none]) ⟨rfl, ⟨rfl, ⟨rfl, ⟨rfl, trivial⟩⟩⟩⟩ (g161_43_ok htr d p τ x1 x2 x3 s13 r H)
      · rw [q14] at H; exact False.elim H
theorem g161_26_ok {l : Launch} {Ω : xo_O} (htr : xH l) (d : Nat) (p : Nat) (τ : Nat → Nat → Int64) (x1 : Int32) (x2 : Int32) (x3 : Int32) (σ : xS) (r : xv_R) (H : xo (xB false p τ r) (g161_26 x1 x2 x3 σ)) : xv l Ω (d + 2) 0 0 161 26 [some (.ref 53), some (.int x1), some (.int x2), some (.int x3), none] [] (hM p σ τ) r := by
  unfold g161_26 at H
  refine xp_ok htr 1 (d + 2) 0 0 [] 161 26 [some (.ref 53), some (.int x1), some (.int x2), some (.int x3), none] [] (hM p σ τ) ?_
  show xv l Ω (d + 2) 0 0 161 27 [some (.ref 53), some (.int x1), some (.int x2), some (.int x3), none] [.int 0] (hM p σ τ) r
  exact xv_sub (L' := [some (.ref 53), some (.int x1), some (.int x2), some (.int x3), none]) ⟨rfl, ⟨rfl, ⟨rfl, ⟨rfl, trivial⟩⟩⟩⟩ (g161_27_ok htr d p τ x1 x2 x3 0 σ r H)
theorem g161_run {l : Launch} {Ω : xo_O} (htr : xH l) (d : Nat) (p : Nat) (τ : Nat → Nat → Int64) (a1 : Int32) (a2 : Int32) (a3 : Int32) (σ : xS) {q : xQ} (hq : g161 a1 a2 a3 σ = some q) : xv l Ω (d + 2) 0 0 161 0 (xs_loc (xm_l 161) [.ref 53, .int a1, .int a2, .int a3]) [] (hM p σ τ) (xq_R false p τ q) := by
  have H : xo (xB false p τ (xq_R false p τ q)) (g161 a1 a2 a3 σ) := by rw [hq]; exact rfl
  generalize xq_R false p τ q = r at H ⊢
  show xv l Ω (d + 2) 0 0 161 0 [some (.ref 53), some (.int a1), some (.int a2), some (.int a3), none] [] (hM p σ τ) r
  unfold g161 at H
  by_cases h1 : a2 < 0
  · rw [if_pos h1] at H
    refine xp_ok htr 2 (d + 2) 0 0 [eB true] 161 0 [some (.ref 53), some (.int a1), some (.int a2), some (.int a3), none] [] (hM p σ τ) ⟨h1, ?_⟩
    show xv l Ω (d + 2) 0 0 161 26 [some (.ref 53), some (.int a1), some (.int a2), some (.int a3), none] [] (hM p σ τ) r
    exact xv_sub (L' := [some (.ref 53), some (.int a1), some (.int a2), some (.int a3), none]) ⟨rfl, ⟨rfl, ⟨rfl, ⟨rfl, trivial⟩⟩⟩⟩ (g161_26_ok htr d p τ a1 a2 a3 σ r H)
  · rw [if_neg h1] at H
    refine xp_ok htr 2 (d + 2) 0 0 [eB false] 161 0 [some (.ref 53), some (.int a1), some (.int a2), some (.int a3), none] [] (hM p σ τ) ⟨h1, ?_⟩
    show xv l Ω (d + 2) 0 0 161 4 [some (.ref 53), some (.int a1), some (.int a2), some (.int a3), none] [] (hM p σ τ) r
    by_cases h17 : 4096 ≤ a2
    · rw [if_pos h17] at H
      refine xp_ok htr 3 (d + 2) 0 0 [eB true] 161 4 [some (.ref 53), some (.int a1), some (.int a2), some (.int a3), none] [] (hM p σ τ) ⟨h17, ?_⟩
      show xv l Ω (d + 2) 0 0 161 26 [some (.ref 53), some (.int a1), some (.int a2), some (.int a3), none] [] (hM p σ τ) r
      exact xv_sub (L' := [some (.ref 53), some (.int a1), some (.int a2), some (.int a3), none]) ⟨rfl, ⟨rfl, ⟨rfl, ⟨rfl, trivial⟩⟩⟩⟩ (g161_26_ok htr d p τ a1 a2 a3 σ r H)
    · rw [if_neg h17] at H
      refine xp_ok htr 3 (d + 2) 0 0 [eB false] 161 4 [some (.ref 53), some (.int a1), some (.int a2), some (.int a3), none] [] (hM p σ τ) ⟨h17, ?_⟩
      show xv l Ω (d + 2) 0 0 161 11 [some (.ref 53), some (.int a1), some (.int a2), some (.int a3), none] [] (hM p σ τ) r
      by_cases h18 : a3 < 2
      · rw [if_pos h18] at H
        refine xp_ok htr 3 (d + 2) 0 0 [eB true] 161 11 [some (.ref 53), some (.int a1), some (.int a2), some (.int a3), none] [] (hM p σ τ) ⟨h18, ?_⟩
        show xv l Ω (d + 2) 0 0 161 26 [some (.ref 53), some (.int a1), some (.int a2), some (.int a3), none] [] (hM p σ τ) r
        exact xv_sub (L' := [some (.ref 53), some (.int a1), some (.int a2), some (.int a3), none]) ⟨rfl, ⟨rfl, ⟨rfl, ⟨rfl, trivial⟩⟩⟩⟩ (g161_26_ok htr d p τ a1 a2 a3 σ r H)
      · rw [if_neg h18] at H
        refine xp_ok htr 3 (d + 2) 0 0 [eB false] 161 11 [some (.ref 53), some (.int a1), some (.int a2), some (.int a3), none] [] (hM p σ τ) ⟨h18, ?_⟩
        show xv l Ω (d + 2) 0 0 161 16 [some (.ref 53), some (.int a1), some (.int a2), some (.int a3), none] [] (hM p σ τ) r
        by_cases h19 : 6 < a3
        · rw [if_pos h19] at H
          refine xp_ok htr 3 (d + 2) 0 0 [eB true] 161 16 [some (.ref 53), some (.int a1), some (.int a2), some (.int a3), none] [] (hM p σ τ) ⟨h19, ?_⟩
          show xv l Ω (d + 2) 0 0 161 26 [some (.ref 53), some (.int a1), some (.int a2), some (.int a3), none] [] (hM p σ τ) r
          exact xv_sub (L' := [some (.ref 53), some (.int a1), some (.int a2), some (.int a3), none]) ⟨rfl, ⟨rfl, ⟨rfl, ⟨rfl, trivial⟩⟩⟩⟩ (g161_26_ok htr d p τ a1 a2 a3 σ r H)
        · rw [if_neg h19] at H
          refine xp_ok htr 3 (d + 2) 0 0 [eB false] 161 16 [some (.ref 53), some (.int a1), some (.int a2), some (.int a3), none] [] (hM p σ τ) ⟨h19, ?_⟩
          show xv l Ω (d + 2) 0 0 161 22 [some (.ref 53), some (.int a1), some (.int a2), some (.int a3), none] [] (hM p σ τ) r
          refine xp_ok htr 2 (d + 2) 0 0 [] 161 22 [some (.ref 53), some (.int a1), some (.int a2), some (.int a3), none] [] (hM p σ τ) ?_
          show xv l Ω (d + 2) 0 0 161 27 [some (.ref 53), some (.int a1), some (.int a2), some (.int a3), none] [.int 1] (hM p σ τ) r
          exact xv_sub (L' := [some (.ref 53), some (.int a1), some (.int a2), some (.int a3), none]) ⟨rfl, ⟨rfl, ⟨rfl, ⟨rfl, trivial⟩⟩⟩⟩ (g161_27_ok htr d p τ a1 a2 a3 1 σ r H)
/- AccessDeskModel.rank -/
def g162_40 (x1 : Int32) (x2 : Int32) (k1 : Int32) (k2 : Int32) (σ : xS) : Option xQ := (bif xn k1 8 then (bif xn x1 8 then some ((Sum.inl 0, (xh_ui (xh_ui σ 57 (Int32.toNatClampNeg k1) (vp_nar .boolean k2)) 56 (Int32.toNatClampNeg x1) x2))) else none) else none)
def g162_15 (x1 : Int32) (x2 : Int32) (x3 : Int32) (k1 : Int32) (σ : xS) : Option xQ := (if ((xh_ui σ 53 21 k1) 53 21) = 0 then (if x3 = 0 then g162_40 x1 x2 x1 1 (xh_ui σ 53 21 k1) else g162_40 x1 x2 x1 0 (xh_ui σ 53 21 k1)) else some ((Sum.inl 0, (xh_ui σ 53 21 k1))))
def g162 (a1 : Int32) (a2 : Int32) (a3 : Int32) (σ : xS) : xO := (match g152 a1 8 σ with | some (Sum.inl v1, s2) => (if v1 = 0 then g162_15 a1 a2 a3 1 s2 else g162_15 a1 a2 a3 0 s2) | some (Sum.inr v1, s2) => none | none => none)
theorem g162_40_ok {l : Launch} {Ω : xo_O} (htr : xH l) (d : Nat) (p : Nat) (τ : Nat → Nat → Int64) (x1 : Int32) (x2 : Int32) (k1 : Int32) (k2 : Int32) (σ : xS) (r : xv_R) (H : xo (xB true p τ r) (g162_40 x1 x2 k1 k2 σ)) : xv l Ω (d + 1) 0 0 162 40 [some (.ref 53), some (.int x1), some (.int x2), none] [.int k2, .int k1, .ref 57] (hM p σ τ) r := by
  unfold g162_40 at H
  cases g7 : xn k1 8 with
  | false => rw [g7, cond_false] at H; exact False.elim H
  | true =>
    rw [g7, cond_true] at H
    cases g8 : xn x1 8 with
    | false => rw [g8, cond_false] at H; exact False.elim H
    | true =>
      rw [g8, cond_true] at H
      exact xp_ok htr 7 (d + 1) 0 0 [] 162 40 [some (.ref 53), some (.int x1), some (.int x2), none] [.int k2, .int k1, .ref 57] (hM p σ τ) ⟨(xn_in g7), (xn_in g8), trivial, (Eq.symm H)⟩
theorem g162_15_ok {l : Launch} {Ω : xo_O} (htr : xH l) (d : Nat) (p : Nat) (τ : Nat → Nat → Int64) (x1 : Int32) (x2 : Int32) (x3 : Int32) (k1 : Int32) (σ : xS) (r : xv_R) (H : xo (xB true p τ r) (g162_15 x1 x2 x3 k1 σ)) : xv l Ω (d + 1) 0 0 162 15 [some (.ref 53), some (.int x1), some (.int x2), some (.int x3)] [.int k1, .ref 53] (hM p σ τ) r := by
  unfold g162_15 at H
  by_cases h5 : ((xh_ui σ 53 21 k1) 53 21) = 0
  · rw [if_pos h5] at H
    refine xp_ok htr 4 (d + 1) 0 0 [eB true] 162 15 [some (.ref 53), some (.int x1), some (.int x2), some (.int x3)] [.int k1, .ref 53] (hM p σ τ) ⟨h5, ?_⟩
    show xv l Ω (d + 1) 0 0 162 26 [some (.ref 53), some (.int x1), some (.int x2), some (.int x3)] [] (hM p (xh_ui σ 53 21 k1) τ) r
    by_cases h6 : x3 = 0
    · rw [if_pos h6] at H
      refine xp_ok htr 5 (d + 1) 0 0 [eB false] 162 26 [some (.ref 53), some (.int x1), some (.int x2), some (.int x3)] [] (hM p (xh_ui σ 53 21 k1) τ) ⟨h6, ?_⟩
      show xv l Ω (d + 1) 0 0 162 35 [some (.ref 53), some (.int x1), some (.int x2), some (.int x3)] [.int x1, .ref 57] (hM p (xh_ui σ 53 21 k1) τ) r
      refine xp_ok htr 2 (d + 1) 0 0 [] 162 35 [some (.ref 53), some (.int x1), some (.int x2), some (.int x3)] [.int x1, .ref 57] (hM p (xh_ui σ 53 21 k1) τ) ?_
      show xv l Ω (d + 1) 0 0 162 40 [some (.ref 53), some (.int x1), some (.int x2), some (.int x3)] [.int 1, .int x1, .ref 57] (hM p (xh_ui σ 53 21 k1) τ) r
      exact xv_sub (L' := [some (.ref 53), some (.int x1), some (.int x2), none]) ⟨rfl, ⟨rfl, ⟨rfl, trivial⟩⟩⟩ (g162_40_ok htr d p τ x1 x2 x1 1 (xh_ui σ 53 21 k1) r H)
    · rw [if_neg h6] at H
      refine xp_ok htr 5 (d + 1) 0 0 [eB true] 162 26 [some (.ref 53), some (.int x1), some (.int x2), some (.int x3)] [] (hM p (xh_ui σ 53 21 k1) τ) ⟨h6, ?_⟩
      show xv l Ω (d + 1) 0 0 162 39 [some (.ref 53), some (.int x1), some (.int x2), some (.int x3)] [.int x1, .ref 57] (hM p (xh_ui σ 53 21 k1) τ) r
      refine xp_ok htr 1 (d + 1) 0 0 [] 162 39 [some (.ref 53), some (.int x1), some (.int x2), some (.int x3)] [.int x1, .ref 57] (hM p (xh_ui σ 53 21 k1) τ) ?_
      show xv l Ω (d + 1) 0 0 162 40 [some (.ref 53), some (.int x1), some (.int x2), some (.int x3)] [.int 0, .int x1, .ref 57] (hM p (xh_ui σ 53 21 k1) τ) r
      exact xv_sub (L' := [some (.ref 53), some (.int x1), some (.int x2), none]) ⟨rfl, ⟨rfl, ⟨rfl, trivial⟩⟩⟩ (g162_40_ok htr d p τ x1 x2 x1 0 (xh_ui σ 53 21 k1) r H)
  · rw [if_neg h5] at H
    refine xp_ok htr 4 (d + 1) 0 0 [eB false] 162 15 [some (.ref 53), some (.int x1), some (.int x2), some (.int x3)] [.int k1, .ref 53] (hM p σ τ) ⟨h5, ?_⟩
    show xv l Ω (d + 1) 0 0 162 25 [some (.ref 53), some (.int x1), some (.int x2), some (.int x3)] [] (hM p (xh_ui σ 53 21 k1) τ) r
    exact xp_ok htr 1 (d + 1) 0 0 [] 162 25 [some (.ref 53), some (.int x1), some (.int x2), some (.int x3)] [] (hM p (xh_ui σ 53 21 k1) τ) ⟨trivial, (Eq.symm H)⟩
theorem g162_run {l : Launch} {Ω : xo_O} (htr : xH l) (d : Nat) (p : Nat) (τ : Nat → Nat → Int64) (a1 : Int32) (a2 : Int32) (a3 : Int32) (σ : xS) {q : xQ} (hq : g162 a1 a2 a3 σ = some q) : xv l Ω (d + 1) 0 0 162 0 (xs_loc (xm_l 162) [.ref 53, .int a1, .int a2, .int a3]) [] (hM p σ τ) (xq_R true p τ q) := by
  have H : xo (xB true p τ (xq_R true p τ q)) (g162 a1 a2 a3 σ) := by rw [hq]; exact rfl
  generalize xq_R true p τ q = r at H ⊢
  show xv l Ω (d + 1) 0 0 162 0 [some (.ref 53), some (.int a1), some (.int a2), some (.int a3)] [] (hM p σ τ) r
  unfold g162 at H
  cases q3 : g152 a1 8 σ with
  | none => rw [q3] at H; exact False.elim H
  | some q30 =>
    obtain ⟨v1 | v1, s2⟩ := q30
    · rw [q3] at H; dsimp only at H
      have hc := g152_run (Ω := Ω) htr d p τ a1 8 σ q3
      refine xp_ok htr 4 (d + 1) 0 0 [eC (some (.int v1)) (hM p s2 τ)] 162 0 [some (.ref 53), some (.int a1), some (.int a2), some (.int a3)] [] (hM p σ τ) ⟨hc, ?_⟩
      show xv l Ω (d + 1) 0 0 162 7 [some (.ref 53), some (.int a1), some (.int a2), some (.int a3)] [.int v1, .ref 53] (hM p s2 τ) r
      by_cases h4 : v1 = 0
      · rw [if_pos h4] at H
        refine xp_ok htr 1 (d + 1) 0 0 [eB true] 162 7 [some (.ref 53), some (.int a1), some (.int a2), some (.int a3)] [.int v1, .ref 53] (hM p s2 τ) ⟨h4, ?_⟩
        show xv l Ω (d + 1) 0 0 162 14 [some (.ref 53), some (.int a1), some (.int a2), some (.int a3)] [.ref 53] (hM p s2 τ) r
        refine xp_ok htr 1 (d + 1) 0 0 [] 162 14 [some (.ref 53), some (.int a1), some (.int a2), some (.int a3)] [.ref 53] (hM p s2 τ) ?_
        show xv l Ω (d + 1) 0 0 162 15 [some (.ref 53), some (.int a1), some (.int a2), some (.int a3)] [.int 1, .ref 53] (hM p s2 τ) r
        exact xv_sub (L' := [some (.ref 53), some (.int a1), some (.int a2), some (.int a3)]) ⟨rfl, ⟨rfl, ⟨rfl, ⟨rfl, trivial⟩⟩⟩⟩ (g162_15_ok htr d p τ a1 a2 a3 1 s2 r H)
      · rw [if_neg h4] at H
        refine xp_ok htr 1 (d + 1) 0 0 [eB false] 162 7 [some (.ref 53), some (.int a1), some (.int a2), some (.int a3)] [.int v1, .ref 53] (hM p s2 τ) ⟨h4, ?_⟩
        show xv l Ω (d + 1) 0 0 162 10 [some (.ref 53), some (.int a1), some (.int a2), some (.int a3)] [.ref 53] (hM p s2 τ) r
        refine xp_ok htr 2 (d + 1) 0 0 [] 162 10 [some (.ref 53), some (.int a1), some (.int a2), some (.int a3)] [.ref 53] (hM p s2 τ) ?_
        show xv l Ω (d + 1) 0 0 162 15 [some (.ref 53), some (.int a1), some (.int a2), some (.int a3)] [.int 0, .ref 53] (hM p s2 τ) r
        exact xv_sub (L' := [some (.ref 53), some (.int a1), some (.int a2), some (.int a3)]) ⟨rfl, ⟨rfl, ⟨rfl, ⟨rfl, trivial⟩⟩⟩⟩ (g162_15_ok htr d p τ a1 a2 a3 0 s2 r H)
    · rw [q3] at H; exact False.elim H
/- AccessDeskModel.open -/
def g163_37 (x1 : Int32) (x2 : Int32) (k1 : Int32) (σ : xS) : Option xQ := (if ((xh_ui σ 53 21 k1) 53 21) = 0 then (bif xn x1 6 then some ((Sum.inl 0, (xh_ui (xh_ui (xh_ui (xh_ui (xh_ui σ 53 21 k1) 58 (Int32.toNatClampNeg x1) (vp_nar .boolean 1)) 59 (Int32.toNatClampNeg x1) x2) 60 (Int32.toNatClampNeg x1) 0) 61 (Int32.toNatClampNeg x1) 0))) else none) else some ((Sum.inl 0, (xh_ui σ 53 21 k1))))
def g163_19 (x1 : Int32) (x2 : Int32) (σ : xS) : Option xQ := g163_37 x1 x2 1 σ
def g163 (a1 : Int32) (a2 : Int32) (σ : xS) : xO := (match g152 a1 6 σ with | some (Sum.inl v1, s2) => (if v1 = 0 then g163_19 a1 a2 s2 else (match g152 a2 8 s2 with | some (Sum.inl v7, s8) => (if v7 = 0 then g163_19 a1 a2 s8 else (bif xn a1 6 then (if (s8 58 (Int32.toNatClampNeg a1)) = 0 then g163_37 a1 a2 0 s8 else g163_37 a1 a2 2 s8) else none)) | some (Sum.inr v7, s8) => none | none => none)) | some (Sum.inr v1, s2) => none | none => none)
theorem g163_37_ok {l : Launch} {Ω : xo_O} (htr : xH l) (d : Nat) (p : Nat) (τ : Nat → Nat → Int64) (x1 : Int32) (x2 : Int32) (k1 : Int32) (σ : xS) (r : xv_R) (H : xo (xB true p τ r) (g163_37 x1 x2 k1 σ)) : xv l Ω (d + 1) 0 0 163 37 [some (.ref 53), some (.int x1), some (.int x2)] [.int k1, .ref 53] (hM p σ τ) r := by
  unfold g163_37 at H
  by_cases h5 : ((xh_ui σ 53 21 k1) 53 21) = 0
  · rw [if_pos h5] at H
    refine xp_ok htr 4 (d + 1) 0 0 [eB true] 163 37 [some (.ref 53), some (.int x1), some (.int x2)] [.int k1, .ref 53] (hM p σ τ) ⟨h5, ?_⟩
    show xv l Ω (d + 1) 0 0 163 48 [some (.ref 53), some (.int x1), some (.int x2)] [] (hM p (xh_ui σ 53 21 k1) τ) r
    cases g6 : xn x1 6 with
    | false => rw [g6, cond_false] at H; exact False.elim H
    | true =>
      rw [g6, cond_true] at H
      refine xp_ok htr 8 (d + 1) 0 0 [] 163 48 [some (.ref 53), some (.int x1), some (.int x2)] [] (hM p (xh_ui σ 53 21 k1) τ) ⟨(xn_in g6), ?_⟩
      show xv l Ω (d + 1) 0 0 163 60 [some (.ref 53), some (.int x1), some (.int x2)] [.int x1, .ref 59] (hM p (xh_ui (xh_ui σ 53 21 k1) 58 (Int32.toNatClampNeg x1) (vp_nar .boolean 1)) τ) r
      refine xp_ok htr 8 (d + 1) 0 0 [] 163 60 [some (.ref 53), some (.int x1), some (.int x2)] [.int x1, .ref 59] (hM p (xh_ui (xh_ui σ 53 21 k1) 58 (Int32.toNatClampNeg x1) (vp_nar .boolean 1)) τ) ⟨(xn_in g6), (xn_in g6), ?_⟩
      show xv l Ω (d + 1) 0 0 163 70 [some (.ref 53), some (.int x1), some (.int x2)] [.ref 53] (hM p (xh_ui (xh_ui (xh_ui (xh_ui σ 53 21 k1) 58 (Int32.toNatClampNeg x1) (vp_nar .boolean 1)) 59 (Int32.toNatClampNeg x1) x2) 60 (Int32.toNatClampNeg x1) 0) τ) r
      exact xp_ok htr 5 (d + 1) 0 0 [] 163 70 [some (.ref 53), some (.int x1), some (.int x2)] [.ref 53] (hM p (xh_ui (xh_ui (xh_ui (xh_ui σ 53 21 k1) 58 (Int32.toNatClampNeg x1) (vp_nar .boolean 1)) 59 (Int32.toNatClampNeg x1) x2) 60 (Int32.toNatClampNeg x1) 0) τ) ⟨(xn_in g6), trivial, (Eq.symm H)⟩
  · rw [if_neg h5] at H
    refine xp_ok htr 4 (d + 1) 0 0 [eB false] 163 37 [some (.ref 53), some (.int x1), some (.int x2)] [.int k1, .ref 53] (hM p σ τ) ⟨h5, ?_⟩
    show xv l Ω (d + 1) 0 0 163 47 [some (.ref 53), some (.int x1), some (.int x2)] [] (hM p (xh_ui σ 53 21 k1) τ) r
    exact xp_ok htr 1 (d + 1) 0 0 [] 163 47 [some (.ref 53), some (.int x1), some (.int x2)] [] (hM p (xh_ui σ 53 21 k1) τ) ⟨trivial, (Eq.symm H)⟩
theorem g163_19_ok {l : Launch} {Ω : xo_O} (htr : xH l) (d : Nat) (p : Nat) (τ : Nat → Nat → Int64) (x1 : Int32) (x2 : Int32) (σ : xS) (r : xv_R) (H : xo (xB true p τ r) (g163_19 x1 x2 σ)) : xv l Ω (d + 1) 0 0 163 19 [some (.ref 53), some (.int x1), some (.int x2)] [.ref 53] (hM p σ τ) r := by
  unfold g163_19 at H
  refine xp_ok htr 2 (d + 1) 0 0 [] 163 19 [some (.ref 53), some (.int x1), some (.int x2)] [.ref 53] (hM p σ τ) ?_
  show xv l Ω (d + 1) 0 0 163 37 [some (.ref 53), some (.int x1), some (.int x2)] [.int 1, .ref 53] (hM p σ τ) r
  exact xv_sub (L' := [some (.ref 53), some (.int x1), some (.int x2)]) ⟨rfl, ⟨rfl, ⟨rfl, trivial⟩⟩⟩ (g163_37_ok htr d p τ x1 x2 1 σ r H)
theorem g163_run {l : Launch} {Ω : xo_O} (htr : xH l) (d : Nat) (p : Nat) (τ : Nat → Nat → Int64) (a1 : Int32) (a2 : Int32) (σ : xS) {q : xQ} (hq : g163 a1 a2 σ = some q) : xv l Ω (d + 1) 0 0 163 0 (xs_loc (xm_l 163) [.ref 53, .int a1, .int a2]) [] (hM p σ τ) (xq_R true p τ q) := by
  have H : xo (xB true p τ (xq_R true p τ q)) (g163 a1 a2 σ) := by rw [hq]; exact rfl
  generalize xq_R true p τ q = r at H ⊢
  show xv l Ω (d + 1) 0 0 163 0 [some (.ref 53), some (.int a1), some (.int a2)] [] (hM p σ τ) r
  unfold g163 at H
  cases q3 : g152 a1 6 σ with
  | none => rw [q3] at H; exact False.elim H
  | some q30 =>
    obtain ⟨v1 | v1, s2⟩ := q30
    · rw [q3] at H; dsimp only at H
      have hc := g152_run (Ω := Ω) htr d p τ a1 6 σ q3
      refine xp_ok htr 4 (d + 1) 0 0 [eC (some (.int v1)) (hM p s2 τ)] 163 0 [some (.ref 53), some (.int a1), some (.int a2)] [] (hM p σ τ) ⟨hc, ?_⟩
      show xv l Ω (d + 1) 0 0 163 7 [some (.ref 53), some (.int a1), some (.int a2)] [.int v1, .ref 53] (hM p s2 τ) r
      by_cases h4 : v1 = 0
      · rw [if_pos h4] at H
        refine xp_ok htr 1 (d + 1) 0 0 [eB true] 163 7 [some (.ref 53), some (.int a1), some (.int a2)] [.int v1, .ref 53] (hM p s2 τ) ⟨h4, ?_⟩
        show xv l Ω (d + 1) 0 0 163 19 [some (.ref 53), some (.int a1), some (.int a2)] [.ref 53] (hM p s2 τ) r
        exact xv_sub (L' := [some (.ref 53), some (.int a1), some (.int a2)]) ⟨rfl, ⟨rfl, ⟨rfl, trivial⟩⟩⟩ (g163_19_ok htr d p τ a1 a2 s2 r H)
      · rw [if_neg h4] at H
        refine xp_ok htr 1 (d + 1) 0 0 [eB false] 163 7 [some (.ref 53), some (.int a1), some (.int a2)] [.int v1, .ref 53] (hM p s2 τ) ⟨h4, ?_⟩
        show xv l Ω (d + 1) 0 0 163 10 [some (.ref 53), some (.int a1), some (.int a2)] [.ref 53] (hM p s2 τ) r
        cases q9 : g152 a2 8 s2 with
        | none => rw [q9] at H; exact False.elim H
        | some q90 =>
          obtain ⟨v7 | v7, s8⟩ := q90
          · rw [q9] at H; dsimp only at H
            have hc := g152_run (Ω := Ω) htr d p τ a2 8 s2 q9
            refine xp_ok htr 3 (d + 1) 0 0 [eC (some (.int v7)) (hM p s8 τ)] 163 10 [some (.ref 53), some (.int a1), some (.int a2)] [.ref 53] (hM p s2 τ) ⟨hc, ?_⟩
            show xv l Ω (d + 1) 0 0 163 16 [some (.ref 53), some (.int a1), some (.int a2)] [.int v7, .ref 53] (hM p s8 τ) r
            by_cases h10 : v7 = 0
            · rw [if_pos h10] at H
              refine xp_ok htr 1 (d + 1) 0 0 [eB false] 163 16 [some (.ref 53), some (.int a1), some (.int a2)] [.int v7, .ref 53] (hM p s8 τ) ⟨h10, ?_⟩
              show xv l Ω (d + 1) 0 0 163 19 [some (.ref 53), some (.int a1), some (.int a2)] [.ref 53] (hM p s8 τ) r
              exact xv_sub (L' := [some (.ref 53), some (.int a1), some (.int a2)]) ⟨rfl, ⟨rfl, ⟨rfl, trivial⟩⟩⟩ (g163_19_ok htr d p τ a1 a2 s8 r H)
            · rw [if_neg h10] at H
              refine xp_ok htr 1 (d + 1) 0 0 [eB true] 163 16 [some (.ref 53), some (.int a1), some (.int a2)] [.int v7, .ref 53] (hM p s8 τ) ⟨h10, ?_⟩
              show xv l Ω (d + 1) 0 0 163 23 [some (.ref 53), some (.int a1), some (.int a2)] [.ref 53] (hM p s8 τ) r
              cases g11 : xn a1 6 with
              | false => rw [g11, cond_false] at H; exact False.elim H
              | true =>
                rw [g11, cond_true] at H
                by_cases h12 : (s8 58 (Int32.toNatClampNeg a1)) = 0
                · rw [if_pos h12] at H
                  refine xp_ok htr 5 (d + 1) 0 0 [eB true] 163 23 [some (.ref 53), some (.int a1), some (.int a2)] [.ref 53] (hM p s8 τ) ⟨(xn_in g11), h12, ?_⟩
                  show xv l Ω (d + 1) 0 0 163 36 [some (.ref 53), some (.int a1), some (.int a2)] [.ref 53] (hM p s8 τ) r
                  refine xp_ok htr 1 (d + 1) 0 0 [] 163 36 [some (.ref 53), some (.int a1), some (.int a2)] [.ref 53] (hM p s8 τ) ?_
                  show xv l Ω (d + 1) 0 0 163 37 [some (.ref 53), some (.int a1), some (.int a2)] [.int 0, .ref 53] (hM p s8 τ) r
                  exact xv_sub (L' := [some (.ref 53), some (.int a1), some (.int a2)]) ⟨rfl, ⟨rfl, ⟨rfl, trivial⟩⟩⟩ (g163_37_ok htr d p τ a1 a2 0 s8 r H)
                · rw [if_neg h12] at H
                  refine xp_ok htr 5 (d + 1) 0 0 [eB false] 163 23 [some (.ref 53), some (.int a1), some (.int a2)] [.ref 53] (hM p s8 τ) ⟨(xn_in g11), h12, ?_⟩
                  show xv l Ω (d + 1) 0 0 163 32 [some (.ref 53), some (.int a1), some (.int a2)] [.ref 53] (hM p s8 τ) r
                  refine xp_ok htr 2 (d + 1) 0 0 [] 163 32 [some (.ref 53), some (.int a1), some (.int a2)] [.ref 53] (hM p s8 τ) ?_
                  show xv l Ω (d + 1) 0 0 163 37 [some (.ref 53), some (.int a1), some (.int a2)] [.int 2, .ref 53] (hM p s8 τ) r
                  exact xv_sub (L' := [some (.ref 53), some (.int a1), some (.int a2)]) ⟨rfl, ⟨rfl, ⟨rfl, trivial⟩⟩⟩ (g163_37_ok htr d p τ a1 a2 2 s8 r H)
          · rw [q9] at H; exact False.elim H
    · rw [q3] at H; exact False.elim H
/- AccessDeskModel.close -/
def g164_28 (x1 : Int32) (k1 : Int32) (σ : xS) : Option xQ := (if ((xh_ui σ 53 21 k1) 53 21) = 0 then (bif xn x1 6 then some ((Sum.inl 0, (xh_ui (xh_ui σ 53 21 k1) 58 (Int32.toNatClampNeg x1) (vp_nar .boolean 0)))) else none) else some ((Sum.inl 0, (xh_ui σ 53 21 k1))))
def g164 (a1 : Int32) (σ : xS) : xO := (match g152 a1 6 σ with | some (Sum.inl v1, s2) => (if v1 = 0 then g164_28 a1 1 s2 else (bif xn a1 6 then (if (s2 58 (Int32.toNatClampNeg a1)) = 0 then g164_28 a1 2 s2 else g164_28 a1 0 s2) else none)) | some (Sum.inr v1, s2) => none | none => none)
theorem g164_28_ok {l : Launch} {Ω : xo_O} (htr : xH l) (d : Nat) (p : Nat) (τ : Nat → Nat → Int64) (x1 : Int32) (k1 : Int32) (σ : xS) (r : xv_R) (H : xo (xB true p τ r) (g164_28 x1 k1 σ)) : xv l Ω (d + 1) 0 0 164 28 [some (.ref 53), some (.int x1)] [.int k1, .ref 53] (hM p σ τ) r := by
  unfold g164_28 at H
  by_cases h5 : ((xh_ui σ 53 21 k1) 53 21) = 0
  · rw [if_pos h5] at H
    refine xp_ok htr 4 (d + 1) 0 0 [eB false] 164 28 [some (.ref 53), some (.int x1)] [.int k1, .ref 53] (hM p σ τ) ⟨h5, ?_⟩
    show xv l Ω (d + 1) 0 0 164 38 [some (.ref 53), some (.int x1)] [] (hM p (xh_ui σ 53 21 k1) τ) r
    cases g6 : xn x1 6 with
    | false => rw [g6, cond_false] at H; exact False.elim H
    | true =>
      rw [g6, cond_true] at H
      exact xp_ok htr 6 (d + 1) 0 0 [] 164 38 [some (.ref 53), some (.int x1)] [] (hM p (xh_ui σ 53 21 k1) τ) ⟨(xn_in g6), trivial, (Eq.symm H)⟩
  · rw [if_neg h5] at H
    refine xp_ok htr 4 (d + 1) 0 0 [eB true] 164 28 [some (.ref 53), some (.int x1)] [.int k1, .ref 53] (hM p σ τ) ⟨h5, ?_⟩
    show xv l Ω (d + 1) 0 0 164 45 [some (.ref 53), some (.int x1)] [] (hM p (xh_ui σ 53 21 k1) τ) r
    exact xp_ok htr 1 (d + 1) 0 0 [] 164 45 [some (.ref 53), some (.int x1)] [] (hM p (xh_ui σ 53 21 k1) τ) ⟨trivial, (Eq.symm H)⟩
theorem g164_run {l : Launch} {Ω : xo_O} (htr : xH l) (d : Nat) (p : Nat) (τ : Nat → Nat → Int64) (a1 : Int32) (σ : xS) {q : xQ} (hq : g164 a1 σ = some q) : xv l Ω (d + 1) 0 0 164 0 (xs_loc (xm_l 164) [.ref 53, .int a1]) [] (hM p σ τ) (xq_R true p τ q) := by
  have H : xo (xB true p τ (xq_R true p τ q)) (g164 a1 σ) := by rw [hq]; exact rfl
  generalize xq_R true p τ q = r at H ⊢
  show xv l Ω (d + 1) 0 0 164 0 [some (.ref 53), some (.int a1)] [] (hM p σ τ) r
  unfold g164 at H
  cases q3 : g152 a1 6 σ with
  | none => rw [q3] at H; exact False.elim H
  | some q30 =>
    obtain ⟨v1 | v1, s2⟩ := q30
    · rw [q3] at H; dsimp only at H
      have hc := g152_run (Ω := Ω) htr d p τ a1 6 σ q3
      refine xp_ok htr 4 (d + 1) 0 0 [eC (some (.int v1)) (hM p s2 τ)] 164 0 [some (.ref 53), some (.int a1)] [] (hM p σ τ) ⟨hc, ?_⟩
      show xv l Ω (d + 1) 0 0 164 7 [some (.ref 53), some (.int a1)] [.int v1, .ref 53] (hM p s2 τ) r
      by_cases h4 : v1 = 0
      · rw [if_pos h4] at H
        refine xp_ok htr 1 (d + 1) 0 0 [eB false] 164 7 [some (.ref 53), some (.int a1)] [.int v1, .ref 53] (hM p s2 τ) ⟨h4, ?_⟩
        show xv l Ω (d + 1) 0 0 164 10 [some (.ref 53), some (.int a1)] [.ref 53] (hM p s2 τ) r
        refine xp_ok htr 2 (d + 1) 0 0 [] 164 10 [some (.ref 53), some (.int a1)] [.ref 53] (hM p s2 τ) ?_
        show xv l Ω (d + 1) 0 0 164 28 [some (.ref 53), some (.int a1)] [.int 1, .ref 53] (hM p s2 τ) r
        exact xv_sub (L' := [some (.ref 53), some (.int a1)]) ⟨rfl, ⟨rfl, trivial⟩⟩ (g164_28_ok htr d p τ a1 1 s2 r H)
      · rw [if_neg h4] at H
        refine xp_ok htr 1 (d + 1) 0 0 [eB true] 164 7 [some (.ref 53), some (.int a1)] [.int v1, .ref 53] (hM p s2 τ) ⟨h4, ?_⟩
        show xv l Ω (d + 1) 0 0 164 14 [some (.ref 53), some (.int a1)] [.ref 53] (hM p s2 τ) r
        cases g7 : xn a1 6 with
        | false => rw [g7, cond_false] at H; exact False.elim H
        | true =>
          rw [g7, cond_true] at H
          by_cases h8 : (s2 58 (Int32.toNatClampNeg a1)) = 0
          · rw [if_pos h8] at H
            refine xp_ok htr 5 (d + 1) 0 0 [eB false] 164 14 [some (.ref 53), some (.int a1)] [.ref 53] (hM p s2 τ) ⟨(xn_in g7), h8, ?_⟩
            show xv l Ω (d + 1) 0 0 164 23 [some (.ref 53), some (.int a1)] [.ref 53] (hM p s2 τ) r
            refine xp_ok htr 2 (d + 1) 0 0 [] 164 23 [some (.ref 53), some (.int a1)] [.ref 53] (hM p s2 τ) ?_
            show xv l Ω (d + 1) 0 0 164 28 [some (.ref 53), some (.int a1)] [.int 2, .ref 53] (hM p s2 τ) r
            exact xv_sub (L' := [some (.ref 53), some (.int a1)]) ⟨rfl, ⟨rfl, trivial⟩⟩ (g164_28_ok htr d p τ a1 2 s2 r H)
          · rw [if_neg h8] at H
            refine xp_ok htr 5 (d + 1) 0 0 [eB true] 164 14 [some (.ref 53), some (.int a1)] [.ref 53] (hM p s2 τ) ⟨(xn_in g7), h8, ?_⟩
            show xv l Ω (d + 1) 0 0 164 27 [some (.ref 53), some (.int a1)] [.ref 53] (hM p s2 τ) r
            refine xp_ok htr 1 (d + 1) 0 0 [] 164 27 [some (.ref 53), some (.int a1)] [.ref 53] (hM p s2 τ) ?_
            show xv l Ω (d + 1) 0 0 164 28 [some (.ref 53), some (.int a1)] [.int 0, .ref 53] (hM p s2 τ) r
            exact xv_sub (L' := [some (.ref 53), some (.int a1)]) ⟨rfl, ⟨rfl, trivial⟩⟩ (g164_28_ok htr d p τ a1 0 s2 r H)
    · rw [q3] at H; exact False.elim H
/- AccessDeskModel.activate -/
def g165_116 (x1 : Int32) (x2 : Int32) (x3 : Int32) (k1 : Int32) (σ : xS) : Option xQ := (if ((xh_ui σ 53 21 k1) 53 21) = 0 then (bif xn x1 6 then (if x3 = 0 then some ((Sum.inl 0, (xh_ui (xh_ui σ 53 21 k1) 60 (Int32.toNatClampNeg x1) (((xh_ui σ 53 21 k1) 60 (Int32.toNatClampNeg x1)) ^^^ (1 <<< (x2 &&& 31)))))) else (match g154 (xh_ui (xh_ui σ 53 21 k1) 60 (Int32.toNatClampNeg x1) (((xh_ui σ 53 21 k1) 60 (Int32.toNatClampNeg x1)) ^^^ (1 <<< (x2 &&& 31)))) with | some (Sum.inl v14, s15) => (if v14 = 0 then some ((Sum.inl 0, s15)) else some ((Sum.inl 0, (xh_ui (xh_ui s15 60 (Int32.toNatClampNeg x1) ((s15 60 (Int32.toNatClampNeg x1)) ^^^ (1 <<< (x2 &&& 31)))) 53 21 2)))) | some (Sum.inr v14, s15) => none | none => none)) else none) else some ((Sum.inl 0, (xh_ui σ 53 21 k1))))
def g165_103 (x1 : Int32) (x2 : Int32) (x3 : Int32) (k0 : Int32) (σ : xS) : Option xQ := (if k0 = 0 then g165_116 x1 x2 x3 2 σ else g165_116 x1 x2 x3 0 σ)
def g165_102 (x1 : Int32) (x2 : Int32) (x3 : Int32) (σ : xS) : Option xQ := g165_103 x1 x2 x3 0 σ
def g165_98 (x1 : Int32) (x2 : Int32) (x3 : Int32) (σ : xS) : Option xQ := g165_103 x1 x2 x3 1 σ
def g165_54 (x1 : Int32) (x2 : Int32) (x3 : Int32) (k0 : Int32) (σ : xS) : Option xQ := (bif xn x1 6 then (if (σ 58 (Int32.toNatClampNeg x1)) = 0 then g165_102 x1 x2 x3 σ else (if k0 = x3 then g165_102 x1 x2 x3 σ else (if x3 = 0 then g165_98 x1 x2 x3 σ else (bif xn (σ 59 (Int32.toNatClampNeg x1)) 8 then (match g153 (σ 55 (Int32.toNatClampNeg (σ 59 (Int32.toNatClampNeg x1)))) σ with | some (Sum.inl v21, s22) => (if ((v21 >>> (x2 &&& 31)) &&& 1) = 1 then g165_98 x1 x2 x3 s22 else g165_102 x1 x2 x3 s22) | some (Sum.inr v21, s22) => none | none => none) else none)))) else none)
def g165_24 (x1 : Int32) (x2 : Int32) (x3 : Int32) (k1 : Int32) (σ : xS) : Option xQ := (if ((xh_ui σ 53 21 k1) 53 21) = 0 then (bif xn x1 6 then (if ((((xh_ui σ 53 21 k1) 60 (Int32.toNatClampNeg x1)) >>> (x2 &&& 31)) &&& 1) = 1 then g165_54 x1 x2 x3 1 (xh_ui σ 53 21 k1) else g165_54 x1 x2 x3 0 (xh_ui σ 53 21 k1)) else none) else some ((Sum.inl 0, (xh_ui σ 53 21 k1))))
def g165_19 (x1 : Int32) (x2 : Int32) (x3 : Int32) (σ : xS) : Option xQ := g165_24 x1 x2 x3 1 σ
def g165 (a1 : Int32) (a2 : Int32) (a3 : Int32) (σ : xS) : xO := (match g152 a1 6 σ with | some (Sum.inl v1, s2) => (if v1 = 0 then g165_19 a1 a2 a3 s2 else (match g152 a2 12 s2 with | some (Sum.inl v25, s26) => (if v25 = 0 then g165_19 a1 a2 a3 s26 else g165_24 a1 a2 a3 0 s26) | some (Sum.inr v25, s26) => none | none => none)) | some (Sum.inr v1, s2) => none | none => none)
theorem g165_116_ok {l : Launch} {Ω : xo_O} (htr : xH l) (d : Nat) (p : Nat) (τ : Nat → Nat → Int64) (x1 : Int32) (x2 : Int32) (x3 : Int32) (k1 : Int32) (σ : xS) (r : xv_R) (H : xo (xB true p τ r) (g165_116 x1 x2 x3 k1 σ)) : xv l Ω (d + 3) 0 0 165 116 [some (.ref 53), some (.int x1), some (.int x2), some (.int x3), none, none] [.int k1, .ref 53] (hM p σ τ) r := by
  unfold g165_116 at H
  by_cases h11 : ((xh_ui σ 53 21 k1) 53 21) = 0
  · rw [if_pos h11] at H
    refine xp_ok htr 4 (d + 3) 0 0 [eB true] 165 116 [some (.ref 53), some (.int x1), some (.int x2), some (.int x3), none, none] [.int k1, .ref 53] (hM p σ τ) ⟨h11, ?_⟩
    show xv l Ω (d + 3) 0 0 165 127 [some (.ref 53), some (.int x1), some (.int x2), some (.int x3), none, none] [] (hM p (xh_ui σ 53 21 k1) τ) r
    cases g12 : xn x1 6 with
    | false => rw [g12, cond_false] at H; exact False.elim H
    | true =>
      rw [g12, cond_true] at H
      refine xp_ok htr 8 (d + 3) 0 0 [] 165 127 [some (.ref 53), some (.int x1), some (.int x2), some (.int x3), none, none] [] (hM p (xh_ui σ 53 21 k1) τ) ⟨(xn_in g12), ?_⟩
      show xv l Ω (d + 3) 0 0 165 137 [some (.ref 53), some (.int x1), some (.int x2), some (.int x3), none, none] [.int (1 <<< (x2 &&& 31)), .int ((xh_ui σ 53 21 k1) 60 (Int32.toNatClampNeg x1)), .int x1, .ref 60] (hM p (xh_ui σ 53 21 k1) τ) r
      by_cases h13 : x3 = 0
      · rw [if_pos h13] at H
        refine xp_ok htr 4 (d + 3) 0 0 [eB true] 165 137 [some (.ref 53), some (.int x1), some (.int x2), some (.int x3), none, none] [.int (1 <<< (x2 &&& 31)), .int ((xh_ui σ 53 21 k1) 60 (Int32.toNatClampNeg x1)), .int x1, .ref 60] (hM p (xh_ui σ 53 21 k1) τ) ⟨(xn_in g12), h13, ?_⟩
        show xv l Ω (d + 3) 0 0 165 150 [some (.ref 53), some (.int x1), some (.int x2), some (.int x3), none, none] [] (hM p (xh_ui (xh_ui σ 53 21 k1) 60 (Int32.toNatClampNeg x1) (((xh_ui σ 53 21 k1) 60 (Int32.toNatClampNeg x1)) ^^^ (1 <<< (x2 &&& 31)))) τ) r
        exact xp_ok htr 1 (d + 3) 0 0 [] 165 150 [some (.ref 53), some (.int x1), some (.int x2), some (.int x3), none, none] [] (hM p (xh_ui (xh_ui σ 53 21 k1) 60 (Int32.toNatClampNeg x1) (((xh_ui σ 53 21 k1) 60 (Int32.toNatClampNeg x1)) ^^^ (1 <<< (x2 &&& 31)))) τ) ⟨trivial, (Eq.symm H)⟩
      · rw [if_neg h13] at H
        refine xp_ok htr 4 (d + 3) 0 0 [eB false] 165 137 [some (.ref 53), some (.int x1), some (.int x2), some (.int x3), none, none] [.int (1 <<< (x2 &&& 31)), .int ((xh_ui σ 53 21 k1) 60 (Int32.toNatClampNeg x1)), .int x1, .ref 60] (hM p (xh_ui σ 53 21 k1) τ) ⟨(xn_in g12), h13, ?_⟩
        show xv l Ω (d + 3) 0 0 165 143 [some (.ref 53), some (.int x1), some (.int x2), some (.int x3), none, none] [] (hM p (xh_ui (xh_ui σ 53 21 k1) 60 (Int32.toNatClampNeg x1) (((xh_ui σ 53 21 k1) 60 (Int32.toNatClampNeg x1)) ^^^ (1 <<< (x2 &&& 31)))) τ) r
        cases q16 : g154 (xh_ui (xh_ui σ 53 21 k1) 60 (Int32.toNatClampNeg x1) (((xh_ui σ 53 21 k1) 60 (Int32.toNatClampNeg x1)) ^^^ (1 <<< (x2 &&& 31)))) with
        | none => rw [q16] at H; exact False.elim H
        | some q160 =>
          obtain ⟨v14 | v14, s15⟩ := q160
          · rw [q16] at H; dsimp only at H
            have hc := g154_run (Ω := Ω) htr d p τ  (xh_ui (xh_ui σ 53 21 k1) 60 (Int32.toNatClampNeg x1) (((xh_ui σ 53 21 k1) 60 (Int32.toNatClampNeg x1)) ^^^ (1 <<< (x2 &&& 31)))) q16
            refine xp_ok htr 2 (d + 3) 0 0 [eC (some (.int v14)) (hM p s15 τ)] 165 143 [some (.ref 53), some (.int x1), some (.int x2), some (.int x3), none, none] [] (hM p (xh_ui (xh_ui σ 53 21 k1) 60 (Int32.toNatClampNeg x1) (((xh_ui σ 53 21 k1) 60 (Int32.toNatClampNeg x1)) ^^^ (1 <<< (x2 &&& 31)))) τ) ⟨hc, ?_⟩
            show xv l Ω (d + 3) 0 0 165 147 [some (.ref 53), some (.int x1), some (.int x2), some (.int x3), none, none] [.int v14] (hM p s15 τ) r
            by_cases h17 : v14 = 0
            · rw [if_pos h17] at H
              refine xp_ok htr 1 (d + 3) 0 0 [eB false] 165 147 [some (.ref 53), some (.int x1), some (.int x2), some (.int x3), none, none] [.int v14] (hM p s15 τ) ⟨h17, ?_⟩
              show xv l Ω (d + 3) 0 0 165 150 [some (.ref 53), some (.int x1), some (.int x2), some (.int x3), none, none] [] (hM p s15 τ) r
              exact xp_ok htr 1 (d + 3) 0 0 [] 165 150 [some (.ref 53), some (.int x1), some (.int x2), some (.int x3), none, none] [] (hM p s15 τ) ⟨trivial, (Eq.symm H)⟩
            · rw [if_neg h17] at H
              refine xp_ok htr 1 (d + 3) 0 0 [eB true] 165 147 [some (.ref 53), some (.int x1), some (.int x2), some (.int x3), none, none] [.int v14] (hM p s15 τ) ⟨h17, ?_⟩
              show xv l Ω (d + 3) 0 0 165 151 [some (.ref 53), some (.int x1), some (.int x2), some (.int x3), none, none] [] (hM p s15 τ) r
              refine xp_ok htr 8 (d + 3) 0 0 [] 165 151 [some (.ref 53), some (.int x1), some (.int x2), some (.int x3), none, none] [] (hM p s15 τ) ⟨(xn_in g12), ?_⟩
              show xv l Ω (d + 3) 0 0 165 161 [some (.ref 53), some (.int x1), some (.int x2), some (.int x3), none, none] [.int (1 <<< (x2 &&& 31)), .int (s15 60 (Int32.toNatClampNeg x1)), .int x1, .ref 60] (hM p s15 τ) r
              exact xp_ok htr 6 (d + 3) 0 0 [] 165 161 [some (.ref 53), some (.int x1), some (.int x2), some (.int x3), none, none] [.int (1 <<< (x2 &&& 31)), .int (s15 60 (Int32.toNatClampNeg x1)), .int x1, .ref 60] (hM p s15 τ) ⟨(xn_in g12), trivial, (Eq.symm H)⟩
          · rw [q16] at H; exact False.elim H
  · rw [if_neg h11] at H
    refine xp_ok htr 4 (d + 3) 0 0 [eB false] 165 116 [some (.ref 53), some (.int x1), some (.int x2), some (.int x3), none, none] [.int k1, .ref 53] (hM p σ τ) ⟨h11, ?_⟩
    show xv l Ω (d + 3) 0 0 165 126 [some (.ref 53), some (.int x1), some (.int x2), some (.int x3), none, none] [] (hM p (xh_ui σ 53 21 k1) τ) r
    exact xp_ok htr 1 (d + 3) 0 0 [] 165 126 [some (.ref 53), some (.int x1), some (.int x2), some (.int x3), none, none] [] (hM p (xh_ui σ 53 21 k1) τ) ⟨trivial, (Eq.symm H)⟩
theorem g165_103_ok {l : Launch} {Ω : xo_O} (htr : xH l) (d : Nat) (p : Nat) (τ : Nat → Nat → Int64) (x1 : Int32) (x2 : Int32) (x3 : Int32) (k0 : Int32) (σ : xS) (r : xv_R) (H : xo (xB true p τ r) (g165_103 x1 x2 x3 k0 σ)) : xv l Ω (d + 3) 0 0 165 103 [some (.ref 53), some (.int x1), some (.int x2), some (.int x3), none, none] [.int k0] (hM p σ τ) r := by
  unfold g165_103 at H
  by_cases h10 : k0 = 0
  · rw [if_pos h10] at H
    refine xp_ok htr 4 (d + 3) 0 0 [eB true] 165 103 [some (.ref 53), some (.int x1), some (.int x2), some (.int x3), none, none] [.int k0] (hM p σ τ) ⟨h10, ?_⟩
    show xv l Ω (d + 3) 0 0 165 115 [some (.ref 53), some (.int x1), some (.int x2), some (.int x3), none, some (.int k0)] [.ref 53] (hM p σ τ) r
    refine xp_ok htr 1 (d + 3) 0 0 [] 165 115 [some (.ref 53), some (.int x1), some (.int x2), some (.int x3), none, some (.int k0)] [.ref 53] (hM p σ τ) ?_
    show xv l Ω (d + 3) 0 0 165 116 [some (.ref 53), some (.int x1), some (.int x2), some (.int x3), none, some (.int k0)] [.int 2, .ref 53] (hM p σ τ) r
    exact xv_sub (L' := [some (.ref 53), some (.int x1), some (.int x2), some (.int x3), none, none]) ⟨rfl, ⟨rfl, ⟨rfl, ⟨rfl, trivial⟩⟩⟩⟩ (g165_116_ok htr d p τ x1 x2 x3 2 σ r H)
  · rw [if_neg h10] at H
    refine xp_ok htr 4 (d + 3) 0 0 [eB false] 165 103 [some (.ref 53), some (.int x1), some (.int x2), some (.int x3), none, none] [.int k0] (hM p σ τ) ⟨h10, ?_⟩
    show xv l Ω (d + 3) 0 0 165 111 [some (.ref 53), some (.int x1), some (.int x2), some (.int x3), none, some (.int k0)] [.ref 53] (hM p σ τ) r
    refine xp_ok htr 2 (d + 3) 0 0 [] 165 111 [some (.ref 53), some (.int x1), some (.int x2), some (.int x3), none, some (.int k0)] [.ref 53] (hM p σ τ) ?_
    show xv l Ω (d + 3) 0 0 165 116 [some (.ref 53), some (.int x1), some (.int x2), some (.int x3), none, some (.int k0)] [.int 0, .ref 53] (hM p σ τ) r
    exact xv_sub (L' := [some (.ref 53), some (.int x1), some (.int x2), some (.int x3), none, none]) ⟨rfl, ⟨rfl, ⟨rfl, ⟨rfl, trivial⟩⟩⟩⟩ (g165_116_ok htr d p τ x1 x2 x3 0 σ r H)
theorem g165_102_ok {l : Launch} {Ω : xo_O} (htr : xH l) (d : Nat) (p : Nat) (τ : Nat → Nat → Int64) (x1 : Int32) (x2 : Int32) (x3 : Int32) (σ : xS) (r : xv_R) (H : xo (xB true p τ r) (g165_102 x1 x2 x3 σ)) : xv l Ω (d + 3) 0 0 165 102 [some (.ref 53), some (.int x1), some (.int x2), some (.int x3), none, none] [] (hM p σ τ) r := by
  unfold g165_102 at H
  refine xp_ok htr 1 (d + 3) 0 0 [] 165 102 [some (.ref 53), some (.int x1), some (.int x2), some (.int x3), none, none] [] (hM p σ τ) ?_
  show xv l Ω (d + 3) 0 0 165 103 [some (.ref 53), some (.int x1), some (.int x2), some (.int x3), none, none] [.int 0] (hM p σ τ) r
  exact xv_sub (L' := [some (.ref 53), some (.int x1), some (.int x2), some (.int x3), none, none]) ⟨rfl, ⟨rfl, ⟨rfl, ⟨rfl, trivial⟩⟩⟩⟩ (g165_103_ok htr d p τ x1 x2 x3 0 σ r H)
theorem g165_98_ok {l : Launch} {Ω : xo_O} (htr : xH l) (d : Nat) (p : Nat) (τ : Nat → Nat → Int64) (x1 : Int32) (x2 : Int32) (x3 : Int32) (σ : xS) (r : xv_R) (H : xo (xB true p τ r) (g165_98 x1 x2 x3 σ)) : xv l Ω (d + 3) 0 0 165 98 [some (.ref 53), some (.int x1), some (.int x2), some (.int x3), none, none] [] (hM p σ τ) r := by
  unfold g165_98 at H
  refine xp_ok htr 2 (d + 3) 0 0 [] 165 98 [some (.ref 53), some (.int x1), some (.int x2), some (.int x3), none, none] [] (hM p σ τ) ?_
  show xv l Ω (d + 3) 0 0 165 103 [some (.ref 53), some (.int x1), some (.int x2), some (.int x3), none, none] [.int 1] (hM p σ τ) r
  exact xv_sub (L' := [some (.ref 53), some (.int x1), some (.int x2), some (.int x3), none, none]) ⟨rfl, ⟨rfl, ⟨rfl, ⟨rfl, trivial⟩⟩⟩⟩ (g165_103_ok htr d p τ x1 x2 x3 1 σ r H)
theorem g165_54_ok {l : Launch} {Ω : xo_O} (htr : xH l) (d : Nat) (p : Nat) (τ : Nat → Nat → Int64) (x1 : Int32) (x2 : Int32) (x3 : Int32) (k0 : Int32) (σ : xS) (r : xv_R) (H : xo (xB true p τ r) (g165_54 x1 x2 x3 k0 σ)) : xv l Ω (d + 3) 0 0 165 54 [some (.ref 53), some (.int x1), some (.int x2), some (.int x3), none, none] [.int k0] (hM p σ τ) r := by
  unfold g165_54 at H
  cases g8 : xn x1 6 with
  | false => rw [g8, cond_false] at H; exact False.elim H
  | true =>
    rw [g8, cond_true] at H
    by_cases h9 : (σ 58 (Int32.toNatClampNeg x1)) = 0
    · rw [if_pos h9] at H
      refine xp_ok htr 6 (d + 3) 0 0 [eB true] 165 54 [some (.ref 53), some (.int x1), some (.int x2), some (.int x3), none, none] [.int k0] (hM p σ τ) ⟨(xn_in g8), h9, ?_⟩
      show xv l Ω (d + 3) 0 0 165 102 [some (.ref 53), some (.int x1), some (.int x2), some (.int x3), some (.int k0), none] [] (hM p σ τ) r
      exact xv_sub (L' := [some (.ref 53), some (.int x1), some (.int x2), some (.int x3), none, none]) ⟨rfl, ⟨rfl, ⟨rfl, ⟨rfl, trivial⟩⟩⟩⟩ (g165_102_ok htr d p τ x1 x2 x3 σ r H)
    · rw [if_neg h9] at H
      refine xp_ok htr 6 (d + 3) 0 0 [eB false] 165 54 [some (.ref 53), some (.int x1), some (.int x2), some (.int x3), none, none] [.int k0] (hM p σ τ) ⟨(xn_in g8), h9, ?_⟩
      show xv l Ω (d + 3) 0 0 165 65 [some (.ref 53), some (.int x1), some (.int x2), some (.int x3), some (.int k0), none] [] (hM p σ τ) r
      by_cases h18 : k0 = x3
      · rw [if_pos h18] at H
        refine xp_ok htr 3 (d + 3) 0 0 [eB true] 165 65 [some (.ref 53), some (.int x1), some (.int x2), some (.int x3), some (.int k0), none] [] (hM p σ τ) ⟨h18, ?_⟩
        show xv l Ω (d + 3) 0 0 165 102 [some (.ref 53), some (.int x1), some (.int x2), some (.int x3), some (.int k0), none] [] (hM p σ τ) r
        exact xv_sub (L' := [some (.ref 53), some (.int x1), some (.int x2), some (.int x3), none, none]) ⟨rfl, ⟨rfl, ⟨rfl, ⟨rfl, trivial⟩⟩⟩⟩ (g165_102_ok htr d p τ x1 x2 x3 σ r H)
      · rw [if_neg h18] at H
        refine xp_ok htr 3 (d + 3) 0 0 [eB false] 165 65 [some (.ref 53), some (.int x1), some (.int x2), some (.int x3), some (.int k0), none] [] (hM p σ τ) ⟨h18, ?_⟩
        show xv l Ω (d + 3) 0 0 165 71 [some (.ref 53), some (.int x1), some (.int x2), some (.int x3), some (.int k0), none] [] (hM p σ τ) r
        by_cases h19 : x3 = 0
        · rw [if_pos h19] at H
          refine xp_ok htr 2 (d + 3) 0 0 [eB true] 165 71 [some (.ref 53), some (.int x1), some (.int x2), some (.int x3), some (.int k0), none] [] (hM p σ τ) ⟨h19, ?_⟩
          show xv l Ω (d + 3) 0 0 165 98 [some (.ref 53), some (.int x1), some (.int x2), some (.int x3), some (.int k0), none] [] (hM p σ τ) r
          exact xv_sub (L' := [some (.ref 53), some (.int x1), some (.int x2), some (.int x3), none, none]) ⟨rfl, ⟨rfl, ⟨rfl, ⟨rfl, trivial⟩⟩⟩⟩ (g165_98_ok htr d p τ x1 x2 x3 σ r H)
        · rw [if_neg h19] at H
          refine xp_ok htr 2 (d + 3) 0 0 [eB false] 165 71 [some (.ref 53), some (.int x1), some (.int x2), some (.int x3), some (.int k0), none] [] (hM p σ τ) ⟨h19, ?_⟩
          show xv l Ω (d + 3) 0 0 165 75 [some (.ref 53), some (.int x1), some (.int x2), some (.int x3), some (.int k0), none] [] (hM p σ τ) r
          cases g20 : xn (σ 59 (Int32.toNatClampNeg x1)) 8 with
          | false => rw [g20, cond_false] at H; exact False.elim H
          | true =>
            rw [g20, cond_true] at H
            refine xp_ok htr 8 (d + 3) 0 0 [] 165 75 [some (.ref 53), some (.int x1), some (.int x2), some (.int x3), some (.int k0), none] [] (hM p σ τ) ⟨(xn_in g8), (xn_in g20), ?_⟩
            show xv l Ω (d + 3) 0 0 165 87 [some (.ref 53), some (.int x1), some (.int x2), some (.int x3), some (.int k0), none] [.int (σ 55 (Int32.toNatClampNeg (σ 59 (Int32.toNatClampNeg x1)))), .ref 53] (hM p σ τ) r
            cases q23 : g153 (σ 55 (Int32.toNatClampNeg (σ 59 (Int32.toNatClampNeg x1)))) σ with
            | none => rw [q23] at H; exact False.elim H
            | some q230 =>
              obtain ⟨v21 | v21, s22⟩ := q230
              · rw [q23] at H; dsimp only at H
                have hc := g153_run (Ω := Ω) htr (d + 2) p τ (σ 55 (Int32.toNatClampNeg (σ 59 (Int32.toNatClampNeg x1)))) σ q23
                refine xp_ok htr 1 (d + 3) 0 0 [eC (some (.int v21)) (hM p s22 τ)] 165 87 [some (.ref 53), some (.int x1), some (.int x2), some (.int x3), some (.int k0), none] [.int (σ 55 (Int32.toNatClampNeg (σ 59 (Int32.toNatClampNeg x1)))), .ref 53] (hM p σ τ) ⟨hc, ?_⟩
                show xv l Ω (d + 3) 0 0 165 90 [some (.ref 53), some (.int x1), some (.int x2), some (.int x3), some (.int k0), none] [.int v21] (hM p s22 τ) r
                by_cases h24 : ((v21 >>> (x2 &&& 31)) &&& 1) = 1
                · rw [if_pos h24] at H
                  refine xp_ok htr 6 (d + 3) 0 0 [eB false] 165 90 [some (.ref 53), some (.int x1), some (.int x2), some (.int x3), some (.int k0), none] [.int v21] (hM p s22 τ) ⟨h24, ?_⟩
                  show xv l Ω (d + 3) 0 0 165 98 [some (.ref 53), some (.int x1), some (.int x2), some (.int x3), some (.int k0), none] [] (hM p s22 τ) r
                  exact xv_sub (L' := [some (.ref 53), some (.int x1), some (.int x2), some (.int x3), none, none]) ⟨rfl, ⟨rfl, ⟨rfl, ⟨rfl, trivial⟩⟩⟩⟩ (g165_98_ok htr d p τ x1 x2 x3 s22 r H)
                · rw [if_neg h24] at H
                  refine xp_ok htr 6 (d + 3) 0 0 [eB true] 165 90 [some (.ref 53), some (.int x1), some (.int x2), some (.int x3), some (.int k0), none] [.int v21] (hM p s22 τ) ⟨h24, ?_⟩
                  show xv l Ω (d + 3) 0 0 165 102 [some (.ref 53), some (.int x1), some (.int x2), some (.int x3), some (.int k0), none] [] (hM p s22 τ) r
                  exact xv_sub (L' := [some (.ref 53), some (.int x1), some (.int x2), some (.int x3), none, none]) ⟨rfl, ⟨rfl, ⟨rfl, ⟨rfl, trivial⟩⟩⟩⟩ (g165_102_ok htr d p τ x1 x2 x3 s22 r H)
              · rw [q23] at H; exact False.elim H
theorem g165_24_ok {l : Launch} {Ω : xo_O} (htr : xH l) (d : Nat) (p : Nat) (τ : Nat → Nat → Int64) (x1 : Int32) (x2 : Int32) (x3 : Int32) (k1 : Int32) (σ : xS) (r : xv_R) (H : xo (xB true p τ r) (g165_24 x1 x2 x3 k1 σ)) : xv l Ω (d + 3) 0 0 165 24 [some (.ref 53), some (.int x1), some (.int x2), some (.int x3), none, none] [.int k1, .ref 53] (hM p σ τ) r := by
  unfold g165_24 at H
  by_cases h5 : ((xh_ui σ 53 21 k1) 53 21) = 0
  · rw [if_pos h5] at H
    refine xp_ok htr 4 (d + 3) 0 0 [eB true] 165 24 [some (.ref 53), some (.int x1), some (.int x2), some (.int x3), none, none] [.int k1, .ref 53] (hM p σ τ) ⟨h5, ?_⟩
    show xv l Ω (d + 3) 0 0 165 35 [some (.ref 53), some (.int x1), some (.int x2), some (.int x3), none, none] [] (hM p (xh_ui σ 53 21 k1) τ) r
    cases g6 : xn x1 6 with
    | false => rw [g6, cond_false] at H; exact False.elim H
    | true =>
      rw [g6, cond_true] at H
      refine xp_ok htr 8 (d + 3) 0 0 [] 165 35 [some (.ref 53), some (.int x1), some (.int x2), some (.int x3), none, none] [] (hM p (xh_ui σ 53 21 k1) τ) ⟨(xn_in g6), ?_⟩
      show xv l Ω (d + 3) 0 0 165 45 [some (.ref 53), some (.int x1), some (.int x2), some (.int x3), none, none] [.int ((((xh_ui σ 53 21 k1) 60 (Int32.toNatClampNeg x1)) >>> (x2 &&& 31)) &&& 1)] (hM p (xh_ui σ 53 21 k1) τ) r
      by_cases h7 : ((((xh_ui σ 53 21 k1) 60 (Int32.toNatClampNeg x1)) >>> (x2 &&& 31)) &&& 1) = 1
      · rw [if_pos h7] at H
        refine xp_ok htr 2 (d + 3) 0 0 [eB false] 165 45 [some (.ref 53), some (.int x1), some (.int x2), some (.int x3), none, none] [.int ((((xh_ui σ 53 21 k1) 60 (Int32.toNatClampNeg x1)) >>> (x2 &&& 31)) &&& 1)] (hM p (xh_ui σ 53 21 k1) τ) ⟨h7, ?_⟩
        show xv l Ω (d + 3) 0 0 165 49 [some (.ref 53), some (.int x1), some (.int x2), some (.int x3), none, none] [] (hM p (xh_ui σ 53 21 k1) τ) r
        refine xp_ok htr 2 (d + 3) 0 0 [] 165 49 [some (.ref 53), some (.int x1), some (.int x2), some (.int x3), none, none] [] (hM p (xh_ui σ 53 21 k1) τ) ?_
        show xv l Ω (d + 3) 0 0 165 54 [some (.ref 53), some (.int x1), some (.int x2), some (.int x3), none, none] [.int 1] (hM p (xh_ui σ 53 21 k1) τ) r
        exact xv_sub (L' := [some (.ref 53), some (.int x1), some (.int x2), some (.int x3), none, none]) ⟨rfl, ⟨rfl, ⟨rfl, ⟨rfl, trivial⟩⟩⟩⟩ (g165_54_ok htr d p τ x1 x2 x3 1 (xh_ui σ 53 21 k1) r H)
      · rw [if_neg h7] at H
        refine xp_ok htr 2 (d + 3) 0 0 [eB true] 165 45 [some (.ref 53), some (.int x1), some (.int x2), some (.int x3), none, none] [.int ((((xh_ui σ 53 21 k1) 60 (Int32.toNatClampNeg x1)) >>> (x2 &&& 31)) &&& 1)] (hM p (xh_ui σ 53 21 k1) τ) ⟨h7, ?_⟩
        show xv l Ω (d + 3) 0 0 165 53 [some (.ref 53), some (.int x1), some (.int x2), some (.int x3), none, none] [] (hM p (xh_ui σ 53 21 k1) τ) r
        refine xp_ok htr 1 (d + 3) 0 0 [] 165 53 [some (.ref 53), some (.int x1), some (.int x2), some (.int x3), none, none] [] (hM p (xh_ui σ 53 21 k1) τ) ?_
        show xv l Ω (d + 3) 0 0 165 54 [some (.ref 53), some (.int x1), some (.int x2), some (.int x3), none, none] [.int 0] (hM p (xh_ui σ 53 21 k1) τ) r
        exact xv_sub (L' := [some (.ref 53), some (.int x1), some (.int x2), some (.int x3), none, none]) ⟨rfl, ⟨rfl, ⟨rfl, ⟨rfl, trivial⟩⟩⟩⟩ (g165_54_ok htr d p τ x1 x2 x3 0 (xh_ui σ 53 21 k1) r H)
  · rw [if_neg h5] at H
    refine xp_ok htr 4 (d + 3) 0 0 [eB false] 165 24 [some (.ref 53), some (.int x1), some (.int x2), some (.int x3), none, none] [.int k1, .ref 53] (hM p σ τ) ⟨h5, ?_⟩
    show xv l Ω (d + 3) 0 0 165 34 [some (.ref 53), some (.int x1), some (.int x2), some (.int x3), none, none] [] (hM p (xh_ui σ 53 21 k1) τ) r
    exact xp_ok htr 1 (d + 3) 0 0 [] 165 34 [some (.ref 53), some (.int x1), some (.int x2), some (.int x3), none, none] [] (hM p (xh_ui σ 53 21 k1) τ) ⟨trivial, (Eq.symm H)⟩
theorem g165_19_ok {l : Launch} {Ω : xo_O} (htr : xH l) (d : Nat) (p : Nat) (τ : Nat → Nat → Int64) (x1 : Int32) (x2 : Int32) (x3 : Int32) (σ : xS) (r : xv_R) (H : xo (xB true p τ r) (g165_19 x1 x2 x3 σ)) : xv l Ω (d + 3) 0 0 165 19 [some (.ref 53), some (.int x1), some (.int x2), some (.int x3), none, none] [.ref 53] (hM p σ τ) r := by
  unfold g165_19 at H
  refine xp_ok htr 2 (d + 3) 0 0 [] 165 19 [some (.ref 53), some (.int x1), some (.int x2), some (.int x3), none, none] [.ref 53] (hM p σ τ) ?_
  show xv l Ω (d + 3) 0 0 165 24 [some (.ref 53), some (.int x1), some (.int x2), some (.int x3), none, none] [.int 1, .ref 53] (hM p σ τ) r
  exact xv_sub (L' := [some (.ref 53), some (.int x1), some (.int x2), some (.int x3), none, none]) ⟨rfl, ⟨rfl, ⟨rfl, ⟨rfl, trivial⟩⟩⟩⟩ (g165_24_ok htr d p τ x1 x2 x3 1 σ r H)
theorem g165_run {l : Launch} {Ω : xo_O} (htr : xH l) (d : Nat) (p : Nat) (τ : Nat → Nat → Int64) (a1 : Int32) (a2 : Int32) (a3 : Int32) (σ : xS) {q : xQ} (hq : g165 a1 a2 a3 σ = some q) : xv l Ω (d + 3) 0 0 165 0 (xs_loc (xm_l 165) [.ref 53, .int a1, .int a2, .int a3]) [] (hM p σ τ) (xq_R true p τ q) := by
  have H : xo (xB true p τ (xq_R true p τ q)) (g165 a1 a2 a3 σ) := by rw [hq]; exact rfl
  generalize xq_R true p τ q = r at H ⊢
  show xv l Ω (d + 3) 0 0 165 0 [some (.ref 53), some (.int a1), some (.int a2), some (.int a3), none, none] [] (hM p σ τ) r
  unfold g165 at H
  cases q3 : g152 a1 6 σ with
  | none => rw [q3] at H; exact False.elim H
  | some q30 =>
    obtain ⟨v1 | v1, s2⟩ := q30
    · rw [q3] at H; dsimp only at H
      have hc := g152_run (Ω := Ω) htr (d + 2) p τ a1 6 σ q3
      refine xp_ok htr 4 (d + 3) 0 0 [eC (some (.int v1)) (hM p s2 τ)] 165 0 [some (.ref 53), some (.int a1), some (.int a2), some (.int a3), none, none] [] (hM p σ τ) ⟨hc, ?_⟩
      show xv l Ω (d + 3) 0 0 165 7 [some (.ref 53), some (.int a1), some (.int a2), some (.int a3), none, none] [.int v1, .ref 53] (hM p s2 τ) r
      by_cases h4 : v1 = 0
      · rw [if_pos h4] at H
        refine xp_ok htr 1 (d + 3) 0 0 [eB true] 165 7 [some (.ref 53), some (.int a1), some (.int a2), some (.int a3), none, none] [.int v1, .ref 53] (hM p s2 τ) ⟨h4, ?_⟩
        show xv l Ω (d + 3) 0 0 165 19 [some (.ref 53), some (.int a1), some (.int a2), some (.int a3), none, none] [.ref 53] (hM p s2 τ) r
        exact xv_sub (L' := [some (.ref 53), some (.int a1), some (.int a2), some (.int a3), none, none]) ⟨rfl, ⟨rfl, ⟨rfl, ⟨rfl, trivial⟩⟩⟩⟩ (g165_19_ok htr d p τ a1 a2 a3 s2 r H)
      · rw [if_neg h4] at H
        refine xp_ok htr 1 (d + 3) 0 0 [eB false] 165 7 [some (.ref 53), some (.int a1), some (.int a2), some (.int a3), none, none] [.int v1, .ref 53] (hM p s2 τ) ⟨h4, ?_⟩
        show xv l Ω (d + 3) 0 0 165 10 [some (.ref 53), some (.int a1), some (.int a2), some (.int a3), none, none] [.ref 53] (hM p s2 τ) r
        cases q27 : g152 a2 12 s2 with
        | none => rw [q27] at H; exact False.elim H
        | some q270 =>
          obtain ⟨v25 | v25, s26⟩ := q270
          · rw [q27] at H; dsimp only at H
            have hc := g152_run (Ω := Ω) htr (d + 2) p τ a2 12 s2 q27
            refine xp_ok htr 3 (d + 3) 0 0 [eC (some (.int v25)) (hM p s26 τ)] 165 10 [some (.ref 53), some (.int a1), some (.int a2), some (.int a3), none, none] [.ref 53] (hM p s2 τ) ⟨hc, ?_⟩
            show xv l Ω (d + 3) 0 0 165 16 [some (.ref 53), some (.int a1), some (.int a2), some (.int a3), none, none] [.int v25, .ref 53] (hM p s26 τ) r
            by_cases h28 : v25 = 0
            · rw [if_pos h28] at H
              refine xp_ok htr 1 (d + 3) 0 0 [eB false] 165 16 [some (.ref 53), some (.int a1), some (.int a2), some (.int a3), none, none] [.int v25, .ref 53] (hM p s26 τ) ⟨h28, ?_⟩
              show xv l Ω (d + 3) 0 0 165 19 [some (.ref 53), some (.int a1), some (.int a2), some (.int a3), none, none] [.ref 53] (hM p s26 τ) r
              exact xv_sub (L' := [some (.ref 53), some (.int a1), some (.int a2), some (.int a3), none, none]) ⟨rfl, ⟨rfl, ⟨rfl, ⟨rfl, trivial⟩⟩⟩⟩ (g165_19_ok htr d p τ a1 a2 a3 s26 r H)
            · rw [if_neg h28] at H
              refine xp_ok htr 1 (d + 3) 0 0 [eB true] 165 16 [some (.ref 53), some (.int a1), some (.int a2), some (.int a3), none, none] [.int v25, .ref 53] (hM p s26 τ) ⟨h28, ?_⟩
              show xv l Ω (d + 3) 0 0 165 23 [some (.ref 53), some (.int a1), some (.int a2), some (.int a3), none, none] [.ref 53] (hM p s26 τ) r
              refine xp_ok htr 1 (d + 3) 0 0 [] 165 23 [some (.ref 53), some (.int a1), some (.int a2), some (.int a3), none, none] [.ref 53] (hM p s26 τ) ?_
              show xv l Ω (d + 3) 0 0 165 24 [some (.ref 53), some (.int a1), some (.int a2), some (.int a3), none, none] [.int 0, .ref 53] (hM p s26 τ) r
              exact xv_sub (L' := [some (.ref 53), some (.int a1), some (.int a2), some (.int a3), none, none]) ⟨rfl, ⟨rfl, ⟨rfl, ⟨rfl, trivial⟩⟩⟩⟩ (g165_24_ok htr d p τ a1 a2 a3 0 s26 r H)
          · rw [q27] at H; exact False.elim H
    · rw [q3] at H; exact False.elim H
/- AccessDeskModel.holds -/
def g166_15 (x1 : Int32) (k1 : Int32) (σ : xS) : Option xQ := (if ((xh_ui σ 53 21 k1) 53 21) = 0 then (bif xn x1 6 then (if ((xh_ui σ 53 21 k1) 58 (Int32.toNatClampNeg x1)) = 0 then some ((Sum.inl (-1), (xh_ui σ 53 21 k1))) else (match g153 ((xh_ui σ 53 21 k1) 60 (Int32.toNatClampNeg x1)) (xh_ui σ 53 21 k1) with | some (Sum.inl v8, s9) => some ((Sum.inl v8, s9)) | some (Sum.inr v8, s9) => none | none => none)) else none) else some ((Sum.inl 0, (xh_ui σ 53 21 k1))))
def g166 (a1 : Int32) (σ : xS) : xO := (match g152 a1 6 σ with | some (Sum.inl v1, s2) => (if v1 = 0 then g166_15 a1 1 s2 else g166_15 a1 0 s2) | some (Sum.inr v1, s2) => none | none => none)
theorem g166_15_ok {l : Launch} {Ω : xo_O} (htr : xH l) (d : Nat) (p : Nat) (τ : Nat → Nat → Int64) (x1 : Int32) (k1 : Int32) (σ : xS) (r : xv_R) (H : xo (xB false p τ r) (g166_15 x1 k1 σ)) : xv l Ω (d + 1) 0 0 166 15 [some (.ref 53), some (.int x1)] [.int k1, .ref 53] (hM p σ τ) r := by
  unfold g166_15 at H
  by_cases h5 : ((xh_ui σ 53 21 k1) 53 21) = 0
  · rw [if_pos h5] at H
    refine xp_ok htr 4 (d + 1) 0 0 [eB true] 166 15 [some (.ref 53), some (.int x1)] [.int k1, .ref 53] (hM p σ τ) ⟨h5, ?_⟩
    show xv l Ω (d + 1) 0 0 166 27 [some (.ref 53), some (.int x1)] [] (hM p (xh_ui σ 53 21 k1) τ) r
    cases g6 : xn x1 6 with
    | false => rw [g6, cond_false] at H; exact False.elim H
    | true =>
      rw [g6, cond_true] at H
      by_cases h7 : ((xh_ui σ 53 21 k1) 58 (Int32.toNatClampNeg x1)) = 0
      · rw [if_pos h7] at H
        refine xp_ok htr 5 (d + 1) 0 0 [eB true] 166 27 [some (.ref 53), some (.int x1)] [] (hM p (xh_ui σ 53 21 k1) τ) ⟨(xn_in g6), h7, ?_⟩
        show xv l Ω (d + 1) 0 0 166 49 [some (.ref 53), some (.int x1)] [] (hM p (xh_ui σ 53 21 k1) τ) r
        exact xp_ok htr 2 (d + 1) 0 0 [] 166 49 [some (.ref 53), some (.int x1)] [] (hM p (xh_ui σ 53 21 k1) τ) ⟨trivial, (Eq.symm H)⟩
      · rw [if_neg h7] at H
        refine xp_ok htr 5 (d + 1) 0 0 [eB false] 166 27 [some (.ref 53), some (.int x1)] [] (hM p (xh_ui σ 53 21 k1) τ) ⟨(xn_in g6), h7, ?_⟩
        show xv l Ω (d + 1) 0 0 166 36 [some (.ref 53), some (.int x1)] [] (hM p (xh_ui σ 53 21 k1) τ) r
        cases q10 : g153 ((xh_ui σ 53 21 k1) 60 (Int32.toNatClampNeg x1)) (xh_ui σ 53 21 k1) with
        | none => rw [q10] at H; exact False.elim H
        | some q100 =>
          obtain ⟨v8 | v8, s9⟩ := q100
          · rw [q10] at H; dsimp only at H
            have hc := g153_run (Ω := Ω) htr d p τ ((xh_ui σ 53 21 k1) 60 (Int32.toNatClampNeg x1)) (xh_ui σ 53 21 k1) q10
            refine xp_ok htr 6 (d + 1) 0 0 [eC (some (.int v8)) (hM p s9 τ)] 166 36 [some (.ref 53), some (.int x1)] [] (hM p (xh_ui σ 53 21 k1) τ) ⟨(xn_in g6), hc, ?_⟩
            show xv l Ω (d + 1) 0 0 166 46 [some (.ref 53), some (.int x1)] [.int v8] (hM p s9 τ) r
            exact xp_ok htr 2 (d + 1) 0 0 [] 166 46 [some (.ref 53), some (.int x1)] [.int v8] (hM p s9 τ) ⟨trivial, (Eq.symm H)⟩
          · rw [q10] at H; exact False.elim H
  · rw [if_neg h5] at H
    refine xp_ok htr 4 (d + 1) 0 0 [eB false] 166 15 [some (.ref 53), some (.int x1)] [.int k1, .ref 53] (hM p σ τ) ⟨h5, ?_⟩
    show xv l Ω (d + 1) 0 0 166 25 [some (.ref 53), some (.int x1)] [] (hM p (xh_ui σ 53 21 k1) τ) r
    exact xp_ok htr 2 (d + 1) 0 0 [] 166 25 [some (.ref 53), some (.int x1)] [] (hM p (xh_ui σ 53 21 k1) τ) ⟨trivial, (Eq.symm H)⟩
theorem g166_run {l : Launch} {Ω : xo_O} (htr : xH l) (d : Nat) (p : Nat) (τ : Nat → Nat → Int64) (a1 : Int32) (σ : xS) {q : xQ} (hq : g166 a1 σ = some q) : xv l Ω (d + 1) 0 0 166 0 (xs_loc (xm_l 166) [.ref 53, .int a1]) [] (hM p σ τ) (xq_R false p τ q) := by
  have H : xo (xB false p τ (xq_R false p τ q)) (g166 a1 σ) := by rw [hq]; exact rfl
  generalize xq_R false p τ q = r at H ⊢
  show xv l Ω (d + 1) 0 0 166 0 [some (.ref 53), some (.int a1)] [] (hM p σ τ) r
  unfold g166 at H
  cases q3 : g152 a1 6 σ with
  | none => rw [q3] at H; exact False.elim H
  | some q30 =>
    obtain ⟨v1 | v1, s2⟩ := q30
    · rw [q3] at H; dsimp only at H
      have hc := g152_run (Ω := Ω) htr d p τ a1 6 σ q3
      refine xp_ok htr 4 (d + 1) 0 0 [eC (some (.int v1)) (hM p s2 τ)] 166 0 [some (.ref 53), some (.int a1)] [] (hM p σ τ) ⟨hc, ?_⟩
      show xv l Ω (d + 1) 0 0 166 7 [some (.ref 53), some (.int a1)] [.int v1, .ref 53] (hM p s2 τ) r
      by_cases h4 : v1 = 0
      · rw [if_pos h4] at H
        refine xp_ok htr 1 (d + 1) 0 0 [eB true] 166 7 [some (.ref 53), some (.int a1)] [.int v1, .ref 53] (hM p s2 τ) ⟨h4, ?_⟩
        show xv l Ω (d + 1) 0 0 166 14 [some (.ref 53), some (.int a1)] [.ref 53] (hM p s2 τ) r
        refine xp_ok htr 1 (d + 1) 0 0 [] 166 14 [some (.ref 53), some (.int a1)] [.ref 53] (hM p s2 τ) ?_
        show xv l Ω (d + 1) 0 0 166 15 [some (.ref 53), some (.int a1)] [.int 1, .ref 53] (hM p s2 τ) r
        exact xv_sub (L' := [some (.ref 53), some (.int a1)]) ⟨rfl, ⟨rfl, trivial⟩⟩ (g166_15_ok htr d p τ a1 1 s2 r H)
      · rw [if_neg h4] at H
        refine xp_ok htr 1 (d + 1) 0 0 [eB false] 166 7 [some (.ref 53), some (.int a1)] [.int v1, .ref 53] (hM p s2 τ) ⟨h4, ?_⟩
        show xv l Ω (d + 1) 0 0 166 10 [some (.ref 53), some (.int a1)] [.ref 53] (hM p s2 τ) r
        refine xp_ok htr 2 (d + 1) 0 0 [] 166 10 [some (.ref 53), some (.int a1)] [.ref 53] (hM p s2 τ) ?_
        show xv l Ω (d + 1) 0 0 166 15 [some (.ref 53), some (.int a1)] [.int 0, .ref 53] (hM p s2 τ) r
        exact xv_sub (L' := [some (.ref 53), some (.int a1)]) ⟨rfl, ⟨rfl, trivial⟩⟩ (g166_15_ok htr d p τ a1 0 s2 r H)
    · rw [q3] at H; exact False.elim H
/- AccessDeskModel.authorized -/
def g167_15 (x1 : Int32) (k1 : Int32) (σ : xS) : Option xQ := (if ((xh_ui σ 53 21 k1) 53 21) = 0 then (bif xn x1 8 then (match g153 ((xh_ui σ 53 21 k1) 55 (Int32.toNatClampNeg x1)) (xh_ui σ 53 21 k1) with | some (Sum.inl v7, s8) => some ((Sum.inl v7, s8)) | some (Sum.inr v7, s8) => none | none => none) else none) else some ((Sum.inl 0, (xh_ui σ 53 21 k1))))
def g167 (a1 : Int32) (σ : xS) : xO := (match g152 a1 8 σ with | some (Sum.inl v1, s2) => (if v1 = 0 then g167_15 a1 1 s2 else g167_15 a1 0 s2) | some (Sum.inr v1, s2) => none | none => none)
theorem g167_15_ok {l : Launch} {Ω : xo_O} (htr : xH l) (d : Nat) (p : Nat) (τ : Nat → Nat → Int64) (x1 : Int32) (k1 : Int32) (σ : xS) (r : xv_R) (H : xo (xB false p τ r) (g167_15 x1 k1 σ)) : xv l Ω (d + 1) 0 0 167 15 [some (.ref 53), some (.int x1)] [.int k1, .ref 53] (hM p σ τ) r := by
  unfold g167_15 at H
  by_cases h5 : ((xh_ui σ 53 21 k1) 53 21) = 0
  · rw [if_pos h5] at H
    refine xp_ok htr 4 (d + 1) 0 0 [eB true] 167 15 [some (.ref 53), some (.int x1)] [.int k1, .ref 53] (hM p σ τ) ⟨h5, ?_⟩
    show xv l Ω (d + 1) 0 0 167 29 [some (.ref 53), some (.int x1)] [] (hM p (xh_ui σ 53 21 k1) τ) r
    cases g6 : xn x1 8 with
    | false => rw [g6, cond_false] at H; exact False.elim H
    | true =>
      rw [g6, cond_true] at H
      cases q9 : g153 ((xh_ui σ 53 21 k1) 55 (Int32.toNatClampNeg x1)) (xh_ui σ 53 21 k1) with
      | none => rw [q9] at H; exact False.elim H
      | some q90 =>
        obtain ⟨v7 | v7, s8⟩ := q90
        · rw [q9] at H; dsimp only at H
          have hc := g153_run (Ω := Ω) htr d p τ ((xh_ui σ 53 21 k1) 55 (Int32.toNatClampNeg x1)) (xh_ui σ 53 21 k1) q9
          refine xp_ok htr 6 (d + 1) 0 0 [eC (some (.int v7)) (hM p s8 τ)] 167 29 [some (.ref 53), some (.int x1)] [] (hM p (xh_ui σ 53 21 k1) τ) ⟨(xn_in g6), hc, ?_⟩
          show xv l Ω (d + 1) 0 0 167 39 [some (.ref 53), some (.int x1)] [.int v7] (hM p s8 τ) r
          exact xp_ok htr 1 (d + 1) 0 0 [] 167 39 [some (.ref 53), some (.int x1)] [.int v7] (hM p s8 τ) ⟨trivial, (Eq.symm H)⟩
        · rw [q9] at H; exact False.elim H
  · rw [if_neg h5] at H
    refine xp_ok htr 4 (d + 1) 0 0 [eB false] 167 15 [some (.ref 53), some (.int x1)] [.int k1, .ref 53] (hM p σ τ) ⟨h5, ?_⟩
    show xv l Ω (d + 1) 0 0 167 25 [some (.ref 53), some (.int x1)] [] (hM p (xh_ui σ 53 21 k1) τ) r
    exact xp_ok htr 3 (d + 1) 0 0 [] 167 25 [some (.ref 53), some (.int x1)] [] (hM p (xh_ui σ 53 21 k1) τ) ⟨trivial, (Eq.symm H)⟩
theorem g167_run {l : Launch} {Ω : xo_O} (htr : xH l) (d : Nat) (p : Nat) (τ : Nat → Nat → Int64) (a1 : Int32) (σ : xS) {q : xQ} (hq : g167 a1 σ = some q) : xv l Ω (d + 1) 0 0 167 0 (xs_loc (xm_l 167) [.ref 53, .int a1]) [] (hM p σ τ) (xq_R false p τ q) := by
  have H : xo (xB false p τ (xq_R false p τ q)) (g167 a1 σ) := by rw [hq]; exact rfl
  generalize xq_R false p τ q = r at H ⊢
  show xv l Ω (d + 1) 0 0 167 0 [some (.ref 53), some (.int a1)] [] (hM p σ τ) r
  unfold g167 at H
  cases q3 : g152 a1 8 σ with
  | none => rw [q3] at H; exact False.elim H
  | some q30 =>
    obtain ⟨v1 | v1, s2⟩ := q30
    · rw [q3] at H; dsimp only at H
      have hc := g152_run (Ω := Ω) htr d p τ a1 8 σ q3
      refine xp_ok htr 4 (d + 1) 0 0 [eC (some (.int v1)) (hM p s2 τ)] 167 0 [some (.ref 53), some (.int a1)] [] (hM p σ τ) ⟨hc, ?_⟩
      show xv l Ω (d + 1) 0 0 167 7 [some (.ref 53), some (.int a1)] [.int v1, .ref 53] (hM p s2 τ) r
      by_cases h4 : v1 = 0
      · rw [if_pos h4] at H
        refine xp_ok htr 1 (d + 1) 0 0 [eB true] 167 7 [some (.ref 53), some (.int a1)] [.int v1, .ref 53] (hM p s2 τ) ⟨h4, ?_⟩
        show xv l Ω (d + 1) 0 0 167 14 [some (.ref 53), some (.int a1)] [.ref 53] (hM p s2 τ) r
        refine xp_ok htr 1 (d + 1) 0 0 [] 167 14 [some (.ref 53), some (.int a1)] [.ref 53] (hM p s2 τ) ?_
        show xv l Ω (d + 1) 0 0 167 15 [some (.ref 53), some (.int a1)] [.int 1, .ref 53] (hM p s2 τ) r
        exact xv_sub (L' := [some (.ref 53), some (.int a1)]) ⟨rfl, ⟨rfl, trivial⟩⟩ (g167_15_ok htr d p τ a1 1 s2 r H)
      · rw [if_neg h4] at H
        refine xp_ok htr 1 (d + 1) 0 0 [eB false] 167 7 [some (.ref 53), some (.int a1)] [.int v1, .ref 53] (hM p s2 τ) ⟨h4, ?_⟩
        show xv l Ω (d + 1) 0 0 167 10 [some (.ref 53), some (.int a1)] [.ref 53] (hM p s2 τ) r
        refine xp_ok htr 2 (d + 1) 0 0 [] 167 10 [some (.ref 53), some (.int a1)] [.ref 53] (hM p s2 τ) ?_
        show xv l Ω (d + 1) 0 0 167 15 [some (.ref 53), some (.int a1)] [.int 0, .ref 53] (hM p s2 τ) r
        exact xv_sub (L' := [some (.ref 53), some (.int a1)]) ⟨rfl, ⟨rfl, trivial⟩⟩ (g167_15_ok htr d p τ a1 0 s2 r H)
    · rw [q3] at H; exact False.elim H
/- AccessDeskModel.object -/
def g168_57 (x1 : Int32) (x3 : Int32) (k1 : Int32) (k2 : Int32) (σ : xS) : Option xQ := (bif xn k1 16 then (bif xn x1 16 then some ((Sum.inl 0, (xh_ui (xh_ui σ 67 (Int32.toNatClampNeg k1) (vp_nar .boolean k2)) 66 (Int32.toNatClampNeg x1) x3))) else none) else none)
def g168_24 (x1 : Int32) (x2 : Int32) (x3 : Int32) (x4 : Int32) (k1 : Int32) (σ : xS) : Option xQ := (if ((xh_ui σ 53 21 k1) 53 21) = 0 then (bif xn x1 16 then (if x4 = 0 then g168_57 x1 x3 x1 1 (xh_ui (xh_ui σ 53 21 k1) 65 (Int32.toNatClampNeg x1) x2) else g168_57 x1 x3 x1 0 (xh_ui (xh_ui σ 53 21 k1) 65 (Int32.toNatClampNeg x1) x2)) else none) else some ((Sum.inl 0, (xh_ui σ 53 21 k1))))
def g168_23 (x1 : Int32) (x2 : Int32) (x3 : Int32) (x4 : Int32) (σ : xS) : Option xQ := g168_24 x1 x2 x3 x4 1 σ
def g168 (a1 : Int32) (a2 : Int32) (a3 : Int32) (a4 : Int32) (σ : xS) : xO := (match g152 a1 16 σ with | some (Sum.inl v1, s2) => (if v1 = 0 then g168_23 a1 a2 a3 a4 s2 else (match g152 a2 10 s2 with | some (Sum.inl v10, s11) => (if v10 = 0 then g168_23 a1 a2 a3 a4 s11 else g168_24 a1 a2 a3 a4 0 s11) | some (Sum.inr v10, s11) => none | none => none)) | some (Sum.inr v1, s2) => none | none => none)
theorem g168_57_ok {l : Launch} {Ω : xo_O} (htr : xH l) (d : Nat) (p : Nat) (τ : Nat → Nat → Int64) (x1 : Int32) (x3 : Int32) (k1 : Int32) (k2 : Int32) (σ : xS) (r : xv_R) (H : xo (xB true p τ r) (g168_57 x1 x3 k1 k2 σ)) : xv l Ω (d + 1) 0 0 168 57 [some (.ref 53), some (.int x1), none, some (.int x3), none] [.int k2, .int k1, .ref 67] (hM p σ τ) r := by
  unfold g168_57 at H
  cases g8 : xn k1 16 with
  | false => rw [g8, cond_false] at H; exact False.elim H
  | true =>
    rw [g8, cond_true] at H
    cases g9 : xn x1 16 with
    | false => rw [g9, cond_false] at H; exact False.elim H
    | true =>
      rw [g9, cond_true] at H
      exact xp_ok htr 7 (d + 1) 0 0 [] 168 57 [some (.ref 53), some (.int x1), none, some (.int x3), none] [.int k2, .int k1, .ref 67] (hM p σ τ) ⟨(xn_in g8), (xn_in g9), trivial, (Eq.symm H)⟩
theorem g168_24_ok {l : Launch} {Ω : xo_O} (htr : xH l) (d : Nat) (p : Nat) (τ : Nat → Nat → Int64) (x1 : Int32) (x2 : Int32) (x3 : Int32) (x4 : Int32) (k1 : Int32) (σ : xS) (r : xv_R) (H : xo (xB true p τ r) (g168_24 x1 x2 x3 x4 k1 σ)) : xv l Ω (d + 1) 0 0 168 24 [some (.ref 53), some (.int x1), some (.int x2), some (.int x3), some (.int x4)] [.int k1, .ref 53] (hM p σ τ) r := by
  unfold g168_24 at H
  by_cases h5 : ((xh_ui σ 53 21 k1) 53 21) = 0
  · rw [if_pos h5] at H
    refine xp_ok htr 4 (d + 1) 0 0 [eB true] 168 24 [some (.ref 53), some (.int x1), some (.int x2), some (.int x3), some (.int x4)] [.int k1, .ref 53] (hM p σ τ) ⟨h5, ?_⟩
    show xv l Ω (d + 1) 0 0 168 35 [some (.ref 53), some (.int x1), some (.int x2), some (.int x3), some (.int x4)] [] (hM p (xh_ui σ 53 21 k1) τ) r
    cases g6 : xn x1 16 with
    | false => rw [g6, cond_false] at H; exact False.elim H
    | true =>
      rw [g6, cond_true] at H
      refine xp_ok htr 8 (d + 1) 0 0 [] 168 35 [some (.ref 53), some (.int x1), some (.int x2), some (.int x3), some (.int x4)] [] (hM p (xh_ui σ 53 21 k1) τ) ⟨(xn_in g6), ?_⟩
      show xv l Ω (d + 1) 0 0 168 47 [some (.ref 53), some (.int x1), some (.int x2), some (.int x3), some (.int x4)] [.int x1, .ref 67] (hM p (xh_ui (xh_ui σ 53 21 k1) 65 (Int32.toNatClampNeg x1) x2) τ) r
      by_cases h7 : x4 = 0
      · rw [if_pos h7] at H
        refine xp_ok htr 2 (d + 1) 0 0 [eB false] 168 47 [some (.ref 53), some (.int x1), some (.int x2), some (.int x3), some (.int x4)] [.int x1, .ref 67] (hM p (xh_ui (xh_ui σ 53 21 k1) 65 (Int32.toNatClampNeg x1) x2) τ) ⟨h7, ?_⟩
        show xv l Ω (d + 1) 0 0 168 52 [some (.ref 53), some (.int x1), some (.int x2), some (.int x3), some (.int x4)] [.int x1, .ref 67] (hM p (xh_ui (xh_ui σ 53 21 k1) 65 (Int32.toNatClampNeg x1) x2) τ) r
        refine xp_ok htr 2 (d + 1) 0 0 [] 168 52 [some (.ref 53), some (.int x1), some (.int x2), some (.int x3), some (.int x4)] [.int x1, .ref 67] (hM p (xh_ui (xh_ui σ 53 21 k1) 65 (Int32.toNatClampNeg x1) x2) τ) ?_
        show xv l Ω (d + 1) 0 0 168 57 [some (.ref 53), some (.int x1), some (.int x2), some (.int x3), some (.int x4)] [.int 1, .int x1, .ref 67] (hM p (xh_ui (xh_ui σ 53 21 k1) 65 (Int32.toNatClampNeg x1) x2) τ) r
        exact xv_sub (L' := [some (.ref 53), some (.int x1), none, some (.int x3), none]) ⟨rfl, ⟨rfl, ⟨rfl, trivial⟩⟩⟩ (g168_57_ok htr d p τ x1 x3 x1 1 (xh_ui (xh_ui σ 53 21 k1) 65 (Int32.toNatClampNeg x1) x2) r H)
      · rw [if_neg h7] at H
        refine xp_ok htr 2 (d + 1) 0 0 [eB true] 168 47 [some (.ref 53), some (.int x1), some (.int x2), some (.int x3), some (.int x4)] [.int x1, .ref 67] (hM p (xh_ui (xh_ui σ 53 21 k1) 65 (Int32.toNatClampNeg x1) x2) τ) ⟨h7, ?_⟩
        show xv l Ω (d + 1) 0 0 168 56 [some (.ref 53), some (.int x1), some (.int x2), some (.int x3), some (.int x4)] [.int x1, .ref 67] (hM p (xh_ui (xh_ui σ 53 21 k1) 65 (Int32.toNatClampNeg x1) x2) τ) r
        refine xp_ok htr 1 (d + 1) 0 0 [] 168 56 [some (.ref 53), some (.int x1), some (.int x2), some (.int x3), some (.int x4)] [.int x1, .ref 67] (hM p (xh_ui (xh_ui σ 53 21 k1) 65 (Int32.toNatClampNeg x1) x2) τ) ?_
        show xv l Ω (d + 1) 0 0 168 57 [some (.ref 53), some (.int x1), some (.int x2), some (.int x3), some (.int x4)] [.int 0, .int x1, .ref 67] (hM p (xh_ui (xh_ui σ 53 21 k1) 65 (Int32.toNatClampNeg x1) x2) τ) r
        exact xv_sub (L' := [some (.ref 53), some (.int x1), none, some (.int x3), none]) ⟨rfl, ⟨rfl, ⟨rfl, trivial⟩⟩⟩ (g168_57_ok htr d p τ x1 x3 x1 0 (xh_ui (xh_ui σ 53 21 k1) 65 (Int32.toNatClampNeg x1) x2) r H)
  · rw [if_neg h5] at H
    refine xp_ok htr 4 (d + 1) 0 0 [eB false] 168 24 [some (.ref 53), some (.int x1), some (.int x2), some (.int x3), some (.int x4)] [.int k1, .ref 53] (hM p σ τ) ⟨h5, ?_⟩
    show xv l Ω (d + 1) 0 0 168 34 [some (.ref 53), some (.int x1), some (.int x2), some (.int x3), some (.int x4)] [] (hM p (xh_ui σ 53 21 k1) τ) r
    exact xp_ok htr 1 (d + 1) 0 0 [] 168 34 [some (.ref 53), some (.int x1), some (.int x2), some (.int x3), some (.int x4)] [] (hM p (xh_ui σ 53 21 k1) τ) ⟨trivial, (Eq.symm H)⟩
theorem g168_23_ok {l : Launch} {Ω : xo_O} (htr : xH l) (d : Nat) (p : Nat) (τ : Nat → Nat → Int64) (x1 : Int32) (x2 : Int32) (x3 : Int32) (x4 : Int32) (σ : xS) (r : xv_R) (H : xo (xB true p τ r) (g168_23 x1 x2 x3 x4 σ)) : xv l Ω (d + 1) 0 0 168 23 [some (.ref 53), some (.int x1), some (.int x2), some (.int x3), some (.int x4)] [.ref 53] (hM p σ τ) r := by
  unfold g168_23 at H
  refine xp_ok htr 1 (d + 1) 0 0 [] 168 23 [some (.ref 53), some (.int x1), some (.int x2), some (.int x3), some (.int x4)] [.ref 53] (hM p σ τ) ?_
  show xv l Ω (d + 1) 0 0 168 24 [some (.ref 53), some (.int x1), some (.int x2), some (.int x3), some (.int x4)] [.int 1, .ref 53] (hM p σ τ) r
  exact xv_sub (L' := [some (.ref 53), some (.int x1), some (.int x2), some (.int x3), some (.int x4)]) ⟨rfl, ⟨rfl, ⟨rfl, ⟨rfl, ⟨rfl, trivial⟩⟩⟩⟩⟩ (g168_24_ok htr d p τ x1 x2 x3 x4 1 σ r H)
theorem g168_run {l : Launch} {Ω : xo_O} (htr : xH l) (d : Nat) (p : Nat) (τ : Nat → Nat → Int64) (a1 : Int32) (a2 : Int32) (a3 : Int32) (a4 : Int32) (σ : xS) {q : xQ} (hq : g168 a1 a2 a3 a4 σ = some q) : xv l Ω (d + 1) 0 0 168 0 (xs_loc (xm_l 168) [.ref 53, .int a1, .int a2, .int a3, .int a4]) [] (hM p σ τ) (xq_R true p τ q) := by
  have H : xo (xB true p τ (xq_R true p τ q)) (g168 a1 a2 a3 a4 σ) := by rw [hq]; exact rfl
  generalize xq_R true p τ q = r at H ⊢
  show xv l Ω (d + 1) 0 0 168 0 [some (.ref 53), some (.int a1), some (.int a2), some (.int a3), some (.int a4)] [] (hM p σ τ) r
  unfold g168 at H
  cases q3 : g152 a1 16 σ with
  | none => rw [q3] at H; exact False.elim H
  | some q30 =>
    obtain ⟨v1 | v1, s2⟩ := q30
    · rw [q3] at H; dsimp only at H
      have hc := g152_run (Ω := Ω) htr d p τ a1 16 σ q3
      refine xp_ok htr 4 (d + 1) 0 0 [eC (some (.int v1)) (hM p s2 τ)] 168 0 [some (.ref 53), some (.int a1), some (.int a2), some (.int a3), some (.int a4)] [] (hM p σ τ) ⟨hc, ?_⟩
      show xv l Ω (d + 1) 0 0 168 7 [some (.ref 53), some (.int a1), some (.int a2), some (.int a3), some (.int a4)] [.int v1, .ref 53] (hM p s2 τ) r
      by_cases h4 : v1 = 0
      · rw [if_pos h4] at H
        refine xp_ok htr 1 (d + 1) 0 0 [eB true] 168 7 [some (.ref 53), some (.int a1), some (.int a2), some (.int a3), some (.int a4)] [.int v1, .ref 53] (hM p s2 τ) ⟨h4, ?_⟩
        show xv l Ω (d + 1) 0 0 168 23 [some (.ref 53), some (.int a1), some (.int a2), some (.int a3), some (.int a4)] [.ref 53] (hM p s2 τ) r
        exact xv_sub (L' := [some (.ref 53), some (.int a1), some (.int a2), some (.int a3), some (.int a4)]) ⟨rfl, ⟨rfl, ⟨rfl, ⟨rfl, ⟨rfl, trivial⟩⟩⟩⟩⟩ (g168_23_ok htr d p τ a1 a2 a3 a4 s2 r H)
      · rw [if_neg h4] at H
        refine xp_ok htr 1 (d + 1) 0 0 [eB false] 168 7 [some (.ref 53), some (.int a1), some (.int a2), some (.int a3), some (.int a4)] [.int v1, .ref 53] (hM p s2 τ) ⟨h4, ?_⟩
        show xv l Ω (d + 1) 0 0 168 10 [some (.ref 53), some (.int a1), some (.int a2), some (.int a3), some (.int a4)] [.ref 53] (hM p s2 τ) r
        cases q12 : g152 a2 10 s2 with
        | none => rw [q12] at H; exact False.elim H
        | some q120 =>
          obtain ⟨v10 | v10, s11⟩ := q120
          · rw [q12] at H; dsimp only at H
            have hc := g152_run (Ω := Ω) htr d p τ a2 10 s2 q12
            refine xp_ok htr 3 (d + 1) 0 0 [eC (some (.int v10)) (hM p s11 τ)] 168 10 [some (.ref 53), some (.int a1), some (.int a2), some (.int a3), some (.int a4)] [.ref 53] (hM p s2 τ) ⟨hc, ?_⟩
            show xv l Ω (d + 1) 0 0 168 16 [some (.ref 53), some (.int a1), some (.int a2), some (.int a3), some (.int a4)] [.int v10, .ref 53] (hM p s11 τ) r
            by_cases h13 : v10 = 0
            · rw [if_pos h13] at H
              refine xp_ok htr 1 (d + 1) 0 0 [eB true] 168 16 [some (.ref 53), some (.int a1), some (.int a2), some (.int a3), some (.int a4)] [.int v10, .ref 53] (hM p s11 τ) ⟨h13, ?_⟩
              show xv l Ω (d + 1) 0 0 168 23 [some (.ref 53), some (.int a1), some (.int a2), some (.int a3), some (.int a4)] [.ref 53] (hM p s11 τ) r
              exact xv_sub (L' := [some (.ref 53), some (.int a1), some (.int a2), some (.int a3), some (.int a4)]) ⟨rfl, ⟨rfl, ⟨rfl, ⟨rfl, ⟨rfl, trivial⟩⟩⟩⟩⟩ (g168_23_ok htr d p τ a1 a2 a3 a4 s11 r H)
            · rw [if_neg h13] at H
              refine xp_ok htr 1 (d + 1) 0 0 [eB false] 168 16 [some (.ref 53), some (.int a1), some (.int a2), some (.int a3), some (.int a4)] [.int v10, .ref 53] (hM p s11 τ) ⟨h13, ?_⟩
              show xv l Ω (d + 1) 0 0 168 19 [some (.ref 53), some (.int a1), some (.int a2), some (.int a3), some (.int a4)] [.ref 53] (hM p s11 τ) r
              refine xp_ok htr 2 (d + 1) 0 0 [] 168 19 [some (.ref 53), some (.int a1), some (.int a2), some (.int a3), some (.int a4)] [.ref 53] (hM p s11 τ) ?_
              show xv l Ω (d + 1) 0 0 168 24 [some (.ref 53), some (.int a1), some (.int a2), some (.int a3), some (.int a4)] [.int 0, .ref 53] (hM p s11 τ) r
              exact xv_sub (L' := [some (.ref 53), some (.int a1), some (.int a2), some (.int a3), some (.int a4)]) ⟨rfl, ⟨rfl, ⟨rfl, ⟨rfl, ⟨rfl, trivial⟩⟩⟩⟩⟩ (g168_24_ok htr d p τ a1 a2 a3 a4 0 s11 r H)
          · rw [q12] at H; exact False.elim H
    · rw [q3] at H; exact False.elim H
/- AccessDeskModel.feed -/
def g169_50b (x1 : Int64) (x4 : Int32) (σ : xS) : Option ((Int64 × Int32 × xS) ⊕ xQ) := (if x4 < 0 then some (Sum.inr ((Sum.inl (σ 53 17), σ))) else (bif xn (σ 53 17) 300 then some (Sum.inl (x1, (x4 + (-1)), (xh_ui (xh_ui σ 69 (Int32.toNatClampNeg (σ 53 17)) ((Int64.toInt32 (Int64.toUInt64 x1 >>> (Int64.toUInt64 (Int32.toInt64 (8 * x4)) &&& Int64.toUInt64 63)).toInt64) &&& 255)) 53 17 (((xh_ui σ 69 (Int32.toNatClampNeg (σ 53 17)) ((Int64.toInt32 (Int64.toUInt64 x1 >>> (Int64.toUInt64 (Int32.toInt64 (8 * x4)) &&& Int64.toUInt64 63)).toInt64) &&& 255)) 53 17) + 1)))) else none))
def g169_50 (x1 : Int64) (x4 : Int32) (σ : xS) : Option xQ := xlo (fun a : Int64 × Int32 × xS => g169_50b a.1 a.2.1 a.2.2) 1000 (x1, x4, σ)
def g169_33 (x1 : Int64) (x3 : Int32) (k1 : Int32) (σ : xS) : Option xQ := (if ((xh_ui σ 53 21 k1) 53 21) = 0 then g169_50 x1 (x3 - 1) (xh_ui σ 53 21 k1) else some ((Sum.inl 0, (xh_ui σ 53 21 k1))))
def g169_12 (x1 : Int64) (x3 : Int32) (σ : xS) : Option xQ := g169_33 x1 x3 1 σ
def g169 (a1 : Int64) (a3 : Int32) (σ : xS) : xO := (if a3 < 1 then g169_12 a1 a3 σ else (if a3 ≤ 8 then (if ((σ 53 17) + a3) ≤ 300 then g169_33 a1 a3 0 σ else g169_33 a1 a3 2 σ) else g169_12 a1 a3 σ))
def a169_50 (l : Launch) (Ω : xo_O) (d p : Nat) (τ : Nat → Nat → Int64) (r : xv_R) : Int64 × Int32 × xS → Prop := fun a => xv l Ω d 0 0 169 50 [some (.ref 53), some (.long a.1), none, none, some (.int a.2.1)] [] (hM p a.2.2 τ) r
theorem g169_50b_ok {l : Launch} {Ω : xo_O} (htr : xH l) (d : Nat) (p : Nat) (τ : Nat → Nat → Int64) (x1 : Int64) (x4 : Int32) (σ : xS) (r : xv_R) (H : xo (xd (a169_50 l Ω d p τ r) (xB false p τ r)) (g169_50b x1 x4 σ)) : xv l Ω d 0 0 169 50 [some (.ref 53), some (.long x1), none, none, some (.int x4)] [] (hM p σ τ) r := by
  unfold g169_50b at H
  by_cases h3 : x4 < 0
  · rw [if_pos h3] at H
    refine xp_ok htr 2 d 0 0 [eB true] 169 50 [some (.ref 53), some (.long x1), none, none, some (.int x4)] [] (hM p σ τ) ⟨h3, ?_⟩
    show xv l Ω d 0 0 169 92 [some (.ref 53), some (.long x1), none, none, some (.int x4)] [] (hM p σ τ) r
    exact xp_ok htr 3 d 0 0 [] 169 92 [some (.ref 53), some (.long x1), none, none, some (.int x4)] [] (hM p σ τ) ⟨trivial, (Eq.symm H)⟩
  · rw [if_neg h3] at H
    refine xp_ok htr 2 d 0 0 [eB false] 169 50 [some (.ref 53), some (.long x1), none, none, some (.int x4)] [] (hM p σ τ) ⟨h3, ?_⟩
    show xv l Ω d 0 0 169 55 [some (.ref 53), some (.long x1), none, none, some (.int x4)] [] (hM p σ τ) r
    refine xp_ok htr 8 d 0 0 [] 169 55 [some (.ref 53), some (.long x1), none, none, some (.int x4)] [] (hM p σ τ) ?_
    show xv l Ω d 0 0 169 69 [some (.ref 53), some (.long x1), none, none, some (.int x4)] [.int (8 * x4), .long x1, .int (σ 53 17), .ref 69] (hM p σ τ) r
    cases g4 : xn (σ 53 17) 300 with
    | false => rw [g4, cond_false] at H; exact False.elim H
    | true =>
      rw [g4, cond_true] at H
      refine xp_ok htr 8 d 0 0 [] 169 69 [some (.ref 53), some (.long x1), none, none, some (.int x4)] [.int (8 * x4), .long x1, .int (σ 53 17), .ref 69] (hM p σ τ) ⟨(xn_in g4), ?_⟩
      show xv l Ω d 0 0 169 81 [some (.ref 53), some (.long x1), none, none, some (.int x4)] [.int ((xh_ui σ 69 (Int32.toNatClampNeg (σ 53 17)) ((Int64.toInt32 (Int64.toUInt64 x1 >>> (Int64.toUInt64 (Int32.toInt64 (8 * x4)) &&& Int64.toUInt64 63)).toInt64) &&& 255)) 53 17), .ref 53] (hM p (xh_ui σ 69 (Int32.toNatClampNeg (σ 53 17)) ((Int64.toInt32 (Int64.toUInt64 x1 >>> (Int64.toUInt64 (Int32.toInt64 (8 * x4)) &&& Int64.toUInt64 63)).toInt64) &&& 255)) τ) r
      refine xp_ok htr 5 d 0 0 [] 169 81 [some (.ref 53), some (.long x1), none, none, some (.int x4)] [.int ((xh_ui σ 69 (Int32.toNatClampNeg (σ 53 17)) ((Int64.toInt32 (Int64.toUInt64 x1 >>> (Int64.toUInt64 (Int32.toInt64 (8 * x4)) &&& Int64.toUInt64 63)).toInt64) &&& 255)) 53 17), .ref 53] (hM p (xh_ui σ 69 (Int32.toNatClampNeg (σ 53 17)) ((Int64.toInt32 (Int64.toUInt64 x1 >>> (Int64.toUInt64 (Int32.toInt64 (8 * x4)) &&& Int64.toUInt64 63)).toInt64) &&& 255)) τ) ?_
      show xv l Ω d 0 0 169 50 [some (.ref 53), some (.long x1), none, none, some (.int (x4 + (-1)))] [] (hM p (xh_ui (xh_ui σ 69 (Int32.toNatClampNeg (σ 53 17)) ((Int64.toInt32 (Int64.toUInt64 x1 >>> (Int64.toUInt64 (Int32.toInt64 (8 * x4)) &&& Int64.toUInt64 63)).toInt64) &&& 255)) 53 17 (((xh_ui σ 69 (Int32.toNatClampNeg (σ 53 17)) ((Int64.toInt32 (Int64.toUInt64 x1 >>> (Int64.toUInt64 (Int32.toInt64 (8 * x4)) &&& Int64.toUInt64 63)).toInt64) &&& 255)) 53 17) + 1)) τ) r
      exact xv_sub (L' := [some (.ref 53), some (.long x1), none, none, some (.int (x4 + (-1)))]) ⟨rfl, ⟨rfl, ⟨rfl, trivial⟩⟩⟩ H
theorem g169_50_ok {l : Launch} {Ω : xo_O} (htr : xH l) (d : Nat) (p : Nat) (τ : Nat → Nat → Int64) (x1 : Int64) (x4 : Int32) (σ : xS) (r : xv_R) (H : xo (xB false p τ r) (g169_50 x1 x4 σ)) : xv l Ω d 0 0 169 50 [some (.ref 53), some (.long x1), none, none, some (.int x4)] [] (hM p σ τ) r :=
  xlo_ok (A := a169_50 l Ω d p τ r) (fun a H => g169_50b_ok htr d p τ a.1 a.2.1 a.2.2 r H) 1000 (x1, x4, σ) H
theorem g169_33_ok {l : Launch} {Ω : xo_O} (htr : xH l) (d : Nat) (p : Nat) (τ : Nat → Nat → Int64) (x1 : Int64) (x3 : Int32) (k1 : Int32) (σ : xS) (r : xv_R) (H : xo (xB false p τ r) (g169_33 x1 x3 k1 σ)) : xv l Ω d 0 0 169 33 [some (.ref 53), some (.long x1), none, some (.int x3), none] [.int k1, .ref 53] (hM p σ τ) r := by
  unfold g169_33 at H
  by_cases h2 : ((xh_ui σ 53 21 k1) 53 21) = 0
  · rw [if_pos h2] at H
    refine xp_ok htr 4 d 0 0 [eB true] 169 33 [some (.ref 53), some (.long x1), none, some (.int x3), none] [.int k1, .ref 53] (hM p σ τ) ⟨h2, ?_⟩
    show xv l Ω d 0 0 169 45 [some (.ref 53), some (.long x1), none, some (.int x3), none] [] (hM p (xh_ui σ 53 21 k1) τ) r
    refine xp_ok htr 4 d 0 0 [] 169 45 [some (.ref 53), some (.long x1), none, some (.int x3), none] [] (hM p (xh_ui σ 53 21 k1) τ) ?_
    show xv l Ω d 0 0 169 50 [some (.ref 53), some (.long x1), none, some (.int x3), some (.int (x3 - 1))] [] (hM p (xh_ui σ 53 21 k1) τ) r
    exact xv_sub (L' := [some (.ref 53), some (.long x1), none, none, some (.int (x3 - 1))]) ⟨rfl, ⟨rfl, ⟨rfl, trivial⟩⟩⟩ (g169_50_ok htr d p τ x1 (x3 - 1) (xh_ui σ 53 21 k1) r H)
  · rw [if_neg h2] at H
    refine xp_ok htr 4 d 0 0 [eB false] 169 33 [some (.ref 53), some (.long x1), none, some (.int x3), none] [.int k1, .ref 53] (hM p σ τ) ⟨h2, ?_⟩
    show xv l Ω d 0 0 169 43 [some (.ref 53), some (.long x1), none, some (.int x3), none] [] (hM p (xh_ui σ 53 21 k1) τ) r
    exact xp_ok htr 2 d 0 0 [] 169 43 [some (.ref 53), some (.long x1), none, some (.int x3), none] [] (hM p (xh_ui σ 53 21 k1) τ) ⟨trivial, (Eq.symm H)⟩
theorem g169_12_ok {l : Launch} {Ω : xo_O} (htr : xH l) (d : Nat) (p : Nat) (τ : Nat → Nat → Int64) (x1 : Int64) (x3 : Int32) (σ : xS) (r : xv_R) (H : xo (xB false p τ r) (g169_12 x1 x3 σ)) : xv l Ω d 0 0 169 12 [some (.ref 53), some (.long x1), none, some (.int x3), none] [.ref 53] (hM p σ τ) r := by
  unfold g169_12 at H
  refine xp_ok htr 2 d 0 0 [] 169 12 [some (.ref 53), some (.long x1), none, some (.int x3), none] [.ref 53] (hM p σ τ) ?_
  show xv l Ω d 0 0 169 33 [some (.ref 53), some (.long x1), none, some (.int x3), none] [.int 1, .ref 53] (hM p σ τ) r
  exact xv_sub (L' := [some (.ref 53), some (.long x1), none, some (.int x3), none]) ⟨rfl, ⟨rfl, ⟨rfl, trivial⟩⟩⟩ (g169_33_ok htr d p τ x1 x3 1 σ r H)
theorem g169_run {l : Launch} {Ω : xo_O} (htr : xH l) (d : Nat) (p : Nat) (τ : Nat → Nat → Int64) (a1 : Int64) (a3 : Int32) (σ : xS) {q : xQ} (hq : g169 a1 a3 σ = some q) : xv l Ω d 0 0 169 0 (xs_loc (xm_l 169) [.ref 53, .long a1, .int a3]) [] (hM p σ τ) (xq_R false p τ q) := by
  have H : xo (xB false p τ (xq_R false p τ q)) (g169 a1 a3 σ) := by rw [hq]; exact rfl
  generalize xq_R false p τ q = r at H ⊢
  show xv l Ω d 0 0 169 0 [some (.ref 53), some (.long a1), none, some (.int a3), none] [] (hM p σ τ) r
  unfold g169 at H
  by_cases h1 : a3 < 1
  · rw [if_pos h1] at H
    refine xp_ok htr 4 d 0 0 [eB true] 169 0 [some (.ref 53), some (.long a1), none, some (.int a3), none] [] (hM p σ τ) ⟨h1, ?_⟩
    show xv l Ω d 0 0 169 12 [some (.ref 53), some (.long a1), none, some (.int a3), none] [.ref 53] (hM p σ τ) r
    exact xv_sub (L' := [some (.ref 53), some (.long a1), none, some (.int a3), none]) ⟨rfl, ⟨rfl, ⟨rfl, trivial⟩⟩⟩ (g169_12_ok htr d p τ a1 a3 σ r H)
  · rw [if_neg h1] at H
    refine xp_ok htr 4 d 0 0 [eB false] 169 0 [some (.ref 53), some (.long a1), none, some (.int a3), none] [] (hM p σ τ) ⟨h1, ?_⟩
    show xv l Ω d 0 0 169 6 [some (.ref 53), some (.long a1), none, some (.int a3), none] [.ref 53] (hM p σ τ) r
    by_cases h5 : a3 ≤ 8
    · rw [if_pos h5] at H
      refine xp_ok htr 3 d 0 0 [eB true] 169 6 [some (.ref 53), some (.long a1), none, some (.int a3), none] [.ref 53] (hM p σ τ) ⟨h5, ?_⟩
      show xv l Ω d 0 0 169 16 [some (.ref 53), some (.long a1), none, some (.int a3), none] [.ref 53] (hM p σ τ) r
      by_cases h6 : ((σ 53 17) + a3) ≤ 300
      · rw [if_pos h6] at H
        refine xp_ok htr 6 d 0 0 [eB true] 169 16 [some (.ref 53), some (.long a1), none, some (.int a3), none] [.ref 53] (hM p σ τ) ⟨h6, ?_⟩
        show xv l Ω d 0 0 169 32 [some (.ref 53), some (.long a1), none, some (.int a3), none] [.ref 53] (hM p σ τ) r
        refine xp_ok htr 1 d 0 0 [] 169 32 [some (.ref 53), some (.long a1), none, some (.int a3), none] [.ref 53] (hM p σ τ) ?_
        show xv l Ω d 0 0 169 33 [some (.ref 53), some (.long a1), none, some (.int a3), none] [.int 0, .ref 53] (hM p σ τ) r
        exact xv_sub (L' := [some (.ref 53), some (.long a1), none, some (.int a3), none]) ⟨rfl, ⟨rfl, ⟨rfl, trivial⟩⟩⟩ (g169_33_ok htr d p τ a1 a3 0 σ r H)
      · rw [if_neg h6] at H
        refine xp_ok htr 6 d 0 0 [eB false] 169 16 [some (.ref 53), some (.long a1), none, some (.int a3), none] [.ref 53] (hM p σ τ) ⟨h6, ?_⟩
        show xv l Ω d 0 0 169 28 [some (.ref 53), some (.long a1), none, some (.int a3), none] [.ref 53] (hM p σ τ) r
        refine xp_ok htr 2 d 0 0 [] 169 28 [some (.ref 53), some (.long a1), none, some (.int a3), none] [.ref 53] (hM p σ τ) ?_
        show xv l Ω d 0 0 169 33 [some (.ref 53), some (.long a1), none, some (.int a3), none] [.int 2, .ref 53] (hM p σ τ) r
        exact xv_sub (L' := [some (.ref 53), some (.long a1), none, some (.int a3), none]) ⟨rfl, ⟨rfl, ⟨rfl, trivial⟩⟩⟩ (g169_33_ok htr d p τ a1 a3 2 σ r H)
    · rw [if_neg h5] at H
      refine xp_ok htr 3 d 0 0 [eB false] 169 6 [some (.ref 53), some (.long a1), none, some (.int a3), none] [.ref 53] (hM p σ τ) ⟨h5, ?_⟩
      show xv l Ω d 0 0 169 12 [some (.ref 53), some (.long a1), none, some (.int a3), none] [.ref 53] (hM p σ τ) r
      exact xv_sub (L' := [some (.ref 53), some (.long a1), none, some (.int a3), none]) ⟨rfl, ⟨rfl, ⟨rfl, trivial⟩⟩⟩ (g169_12_ok htr d p τ a1 a3 σ r H)
/- AccessDeskModel.right -/
def g171  (σ : xS) : xO := (if 0 ≤ (σ 53 20) then some ((Sum.inl 0, σ)) else some ((Sum.inl 1, σ)))
theorem g171_run {l : Launch} {Ω : xo_O} (htr : xH l) (d : Nat) (p : Nat) (τ : Nat → Nat → Int64)  (σ : xS) {q : xQ} (hq : g171  σ = some q) : xv l Ω d 0 0 171 0 (xs_loc (xm_l 171) [.ref 53]) [] (hM p σ τ) (xq_R false p τ q) := by
  have H : xo (xB false p τ (xq_R false p τ q)) (g171  σ) := by rw [hq]; exact rfl
  generalize xq_R false p τ q = r at H ⊢
  show xv l Ω d 0 0 171 0 [some (.ref 53)] [] (hM p σ τ) r
  unfold g171 at H
  by_cases h1 : 0 ≤ (σ 53 20)
  · rw [if_pos h1] at H
    refine xp_ok htr 3 d 0 0 [eB true] 171 0 [some (.ref 53)] [] (hM p σ τ) ⟨h1, ?_⟩
    show xv l Ω d 0 0 171 11 [some (.ref 53)] [] (hM p σ τ) r
    exact xp_ok htr 2 d 0 0 [] 171 11 [some (.ref 53)] [] (hM p σ τ) ⟨Or.inl rfl, (Eq.symm H)⟩
  · rw [if_neg h1] at H
    refine xp_ok htr 3 d 0 0 [eB false] 171 0 [some (.ref 53)] [] (hM p σ τ) ⟨h1, ?_⟩
    show xv l Ω d 0 0 171 7 [some (.ref 53)] [] (hM p σ τ) r
    exact xp_ok htr 3 d 0 0 [] 171 7 [some (.ref 53)] [] (hM p σ τ) ⟨Or.inr rfl, (Eq.symm H)⟩
/- AccessDeskModel.here -/
def g173  (σ : xS) : xO := (if (σ 53 18) ≤ (σ 53 19) then some ((Sum.inl (-1), σ)) else (bif xn (σ 53 19) 300 then some ((Sum.inl (σ 69 (Int32.toNatClampNeg (σ 53 19))), σ)) else none))
theorem g173_run {l : Launch} {Ω : xo_O} (htr : xH l) (d : Nat) (p : Nat) (τ : Nat → Nat → Int64)  (σ : xS) {q : xQ} (hq : g173  σ = some q) : xv l Ω d 0 0 173 0 (xs_loc (xm_l 173) [.ref 53]) [] (hM p σ τ) (xq_R false p τ q) := by
  have H : xo (xB false p τ (xq_R false p τ q)) (g173  σ) := by rw [hq]; exact rfl
  generalize xq_R false p τ q = r at H ⊢
  show xv l Ω d 0 0 173 0 [some (.ref 53)] [] (hM p σ τ) r
  unfold g173 at H
  by_cases h1 : (σ 53 18) ≤ (σ 53 19)
  · rw [if_pos h1] at H
    refine xp_ok htr 5 d 0 0 [eB true] 173 0 [some (.ref 53)] [] (hM p σ τ) ⟨h1, ?_⟩
    show xv l Ω d 0 0 173 23 [some (.ref 53)] [] (hM p σ τ) r
    exact xp_ok htr 2 d 0 0 [] 173 23 [some (.ref 53)] [] (hM p σ τ) ⟨trivial, (Eq.symm H)⟩
  · rw [if_neg h1] at H
    refine xp_ok htr 5 d 0 0 [eB false] 173 0 [some (.ref 53)] [] (hM p σ τ) ⟨h1, ?_⟩
    show xv l Ω d 0 0 173 11 [some (.ref 53)] [] (hM p σ τ) r
    cases g2 : xn (σ 53 19) 300 with
    | false => rw [g2, cond_false] at H; exact False.elim H
    | true =>
      rw [g2, cond_true] at H
      exact xp_ok htr 7 d 0 0 [] 173 11 [some (.ref 53)] [] (hM p σ τ) ⟨(xn_in g2), trivial, (Eq.symm H)⟩
/- AccessDeskModel.isPolicy -/
def g174 (a0 : Int32) (σ : xS) : xO := (if a0 = 68 then some ((Sum.inl 1, σ)) else (if a0 = 80 then some ((Sum.inl 1, σ)) else (if a0 = 70 then some ((Sum.inl 1, σ)) else (if a0 = 88 then some ((Sum.inl 1, σ)) else (if a0 = 89 then some ((Sum.inl 1, σ)) else (if a0 = 79 then some ((Sum.inl 1, σ)) else some ((Sum.inl 0, σ))))))))
theorem g174_run {l : Launch} {Ω : xo_O} (htr : xH l) (d : Nat) (p : Nat) (τ : Nat → Nat → Int64) (a0 : Int32) (σ : xS) {q : xQ} (hq : g174 a0 σ = some q) : xv l Ω d 0 0 174 0 (xs_loc (xm_l 174) [.int a0]) [] (hM p σ τ) (xq_R false p τ q) := by
  have H : xo (xB false p τ (xq_R false p τ q)) (g174 a0 σ) := by rw [hq]; exact rfl
  generalize xq_R false p τ q = r at H ⊢
  show xv l Ω d 0 0 174 0 [some (.int a0)] [] (hM p σ τ) r
  unfold g174 at H
  by_cases h1 : a0 = 68
  · rw [if_pos h1] at H
    refine xp_ok htr 3 d 0 0 [eB true] 174 0 [some (.int a0)] [] (hM p σ τ) ⟨h1, ?_⟩
    show xv l Ω d 0 0 174 36 [some (.int a0)] [] (hM p σ τ) r
    exact xp_ok htr 3 d 0 0 [] 174 36 [some (.int a0)] [] (hM p σ τ) ⟨Or.inr rfl, (Eq.symm H)⟩
  · rw [if_neg h1] at H
    refine xp_ok htr 3 d 0 0 [eB false] 174 0 [some (.int a0)] [] (hM p σ τ) ⟨h1, ?_⟩
    show xv l Ω d 0 0 174 6 [some (.int a0)] [] (hM p σ τ) r
    by_cases h2 : a0 = 80
    · rw [if_pos h2] at H
      refine xp_ok htr 3 d 0 0 [eB true] 174 6 [some (.int a0)] [] (hM p σ τ) ⟨h2, ?_⟩
      show xv l Ω d 0 0 174 36 [some (.int a0)] [] (hM p σ τ) r
      exact xp_ok htr 3 d 0 0 [] 174 36 [some (.int a0)] [] (hM p σ τ) ⟨Or.inr rfl, (Eq.symm H)⟩
    · rw [if_neg h2] at H
      refine xp_ok htr 3 d 0 0 [eB false] 174 6 [some (.int a0)] [] (hM p σ τ) ⟨h2, ?_⟩
      show xv l Ω d 0 0 174 12 [some (.int a0)] [] (hM p σ τ) r
      by_cases h3 : a0 = 70
      · rw [if_pos h3] at H
        refine xp_ok htr 3 d 0 0 [eB true] 174 12 [some (.int a0)] [] (hM p σ τ) ⟨h3, ?_⟩
        show xv l Ω d 0 0 174 36 [some (.int a0)] [] (hM p σ τ) r
        exact xp_ok htr 3 d 0 0 [] 174 36 [some (.int a0)] [] (hM p σ τ) ⟨Or.inr rfl, (Eq.symm H)⟩
      · rw [if_neg h3] at H
        refine xp_ok htr 3 d 0 0 [eB false] 174 12 [some (.int a0)] [] (hM p σ τ) ⟨h3, ?_⟩
        show xv l Ω d 0 0 174 18 [some (.int a0)] [] (hM p σ τ) r
        by_cases h4 : a0 = 88
        · rw [if_pos h4] at H
          refine xp_ok htr 3 d 0 0 [eB true] 174 18 [some (.int a0)] [] (hM p σ τ) ⟨h4, ?_⟩
          show xv l Ω d 0 0 174 36 [some (.int a0)] [] (hM p σ τ) r
          exact xp_ok htr 3 d 0 0 [] 174 36 [some (.int a0)] [] (hM p σ τ) ⟨Or.inr rfl, (Eq.symm H)⟩
        · rw [if_neg h4] at H
          refine xp_ok htr 3 d 0 0 [eB false] 174 18 [some (.int a0)] [] (hM p σ τ) ⟨h4, ?_⟩
          show xv l Ω d 0 0 174 24 [some (.int a0)] [] (hM p σ τ) r
          by_cases h5 : a0 = 89
          · rw [if_pos h5] at H
            refine xp_ok htr 3 d 0 0 [eB true] 174 24 [some (.int a0)] [] (hM p σ τ) ⟨h5, ?_⟩
            show xv l Ω d 0 0 174 36 [some (.int a0)] [] (hM p σ τ) r
            exact xp_ok htr 3 d 0 0 [] 174 36 [some (.int a0)] [] (hM p σ τ) ⟨Or.inr rfl, (Eq.symm H)⟩
          · rw [if_neg h5] at H
            refine xp_ok htr 3 d 0 0 [eB false] 174 24 [some (.int a0)] [] (hM p σ τ) ⟨h5, ?_⟩
            show xv l Ω d 0 0 174 30 [some (.int a0)] [] (hM p σ τ) r
            by_cases h6 : a0 = 79
            · rw [if_pos h6] at H
              refine xp_ok htr 3 d 0 0 [eB false] 174 30 [some (.int a0)] [] (hM p σ τ) ⟨h6, ?_⟩
              show xv l Ω d 0 0 174 36 [some (.int a0)] [] (hM p σ τ) r
              exact xp_ok htr 3 d 0 0 [] 174 36 [some (.int a0)] [] (hM p σ τ) ⟨Or.inr rfl, (Eq.symm H)⟩
            · rw [if_neg h6] at H
              refine xp_ok htr 3 d 0 0 [eB true] 174 30 [some (.int a0)] [] (hM p σ τ) ⟨h6, ?_⟩
              show xv l Ω d 0 0 174 40 [some (.int a0)] [] (hM p σ τ) r
              exact xp_ok htr 2 d 0 0 [] 174 40 [some (.int a0)] [] (hM p σ τ) ⟨Or.inl rfl, (Eq.symm H)⟩
/- AccessDeskModel.fail -/
def g175  (σ : xS) : xO := (if 0 ≤ (σ 53 20) then some ((Sum.inl 0, σ)) else some ((Sum.inl 0, (xh_ui σ 53 20 (σ 53 19)))))
theorem g175_run {l : Launch} {Ω : xo_O} (htr : xH l) (d : Nat) (p : Nat) (τ : Nat → Nat → Int64)  (σ : xS) {q : xQ} (hq : g175  σ = some q) : xv l Ω d 0 0 175 0 (xs_loc (xm_l 175) [.ref 53]) [] (hM p σ τ) (xq_R true p τ q) := by
  have H : xo (xB true p τ (xq_R true p τ q)) (g175  σ) := by rw [hq]; exact rfl
  generalize xq_R true p τ q = r at H ⊢
  show xv l Ω d 0 0 175 0 [some (.ref 53)] [] (hM p σ τ) r
  unfold g175 at H
  by_cases h1 : 0 ≤ (σ 53 20)
  · rw [if_pos h1] at H
    refine xp_ok htr 3 d 0 0 [eB true] 175 0 [some (.ref 53)] [] (hM p σ τ) ⟨h1, ?_⟩
    show xv l Ω d 0 0 175 15 [some (.ref 53)] [] (hM p σ τ) r
    exact xp_ok htr 1 d 0 0 [] 175 15 [some (.ref 53)] [] (hM p σ τ) ⟨trivial, (Eq.symm H)⟩
  · rw [if_neg h1] at H
    refine xp_ok htr 3 d 0 0 [eB false] 175 0 [some (.ref 53)] [] (hM p σ τ) ⟨h1, ?_⟩
    show xv l Ω d 0 0 175 7 [some (.ref 53)] [] (hM p σ τ) r
    exact xp_ok htr 5 d 0 0 [] 175 7 [some (.ref 53)] [] (hM p σ τ) ⟨trivial, (Eq.symm H)⟩
/- AccessDeskModel.isAttribute -/
def g178 (a0 : Int32) (σ : xS) : xO := (if a0 = 97 then some ((Sum.inl 1, σ)) else (if a0 = 99 then some ((Sum.inl 1, σ)) else (if a0 = 108 then some ((Sum.inl 1, σ)) else (if a0 = 104 then some ((Sum.inl 1, σ)) else (if a0 = 117 then some ((Sum.inl 1, σ)) else (if a0 = 115 then some ((Sum.inl 1, σ)) else (if a0 = 114 then some ((Sum.inl 1, σ)) else (if a0 = 76 then some ((Sum.inl 1, σ)) else (if a0 = 83 then some ((Sum.inl 1, σ)) else some ((Sum.inl 0, σ)))))))))))
theorem g178_run {l : Launch} {Ω : xo_O} (htr : xH l) (d : Nat) (p : Nat) (τ : Nat → Nat → Int64) (a0 : Int32) (σ : xS) {q : xQ} (hq : g178 a0 σ = some q) : xv l Ω d 0 0 178 0 (xs_loc (xm_l 178) [.int a0]) [] (hM p σ τ) (xq_R false p τ q) := by
  have H : xo (xB false p τ (xq_R false p τ q)) (g178 a0 σ) := by rw [hq]; exact rfl
  generalize xq_R false p τ q = r at H ⊢
  show xv l Ω d 0 0 178 0 [some (.int a0)] [] (hM p σ τ) r
  unfold g178 at H
  by_cases h1 : a0 = 97
  · rw [if_pos h1] at H
    refine xp_ok htr 3 d 0 0 [eB true] 178 0 [some (.int a0)] [] (hM p σ τ) ⟨h1, ?_⟩
    show xv l Ω d 0 0 178 54 [some (.int a0)] [] (hM p σ τ) r
    exact xp_ok htr 3 d 0 0 [] 178 54 [some (.int a0)] [] (hM p σ τ) ⟨Or.inr rfl, (Eq.symm H)⟩
  · rw [if_neg h1] at H
    refine xp_ok htr 3 d 0 0 [eB false] 178 0 [some (.int a0)] [] (hM p σ τ) ⟨h1, ?_⟩
    show xv l Ω d 0 0 178 6 [some (.int a0)] [] (hM p σ τ) r
    by_cases h2 : a0 = 99
    · rw [if_pos h2] at H
      refine xp_ok htr 3 d 0 0 [eB true] 178 6 [some (.int a0)] [] (hM p σ τ) ⟨h2, ?_⟩
      show xv l Ω d 0 0 178 54 [some (.int a0)] [] (hM p σ τ) r
      exact xp_ok htr 3 d 0 0 [] 178 54 [some (.int a0)] [] (hM p σ τ) ⟨Or.inr rfl, (Eq.symm H)⟩
    · rw [if_neg h2] at H
      refine xp_ok htr 3 d 0 0 [eB false] 178 6 [some (.int a0)] [] (hM p σ τ) ⟨h2, ?_⟩
      show xv l Ω d 0 0 178 12 [some (.int a0)] [] (hM p σ τ) r
      by_cases h3 : a0 = 108
      · rw [if_pos h3] at H
        refine xp_ok htr 3 d 0 0 [eB true] 178 12 [some (.int a0)] [] (hM p σ τ) ⟨h3, ?_⟩
        show xv l Ω d 0 0 178 54 [some (.int a0)] [] (hM p σ τ) r
        exact xp_ok htr 3 d 0 0 [] 178 54 [some (.int a0)] [] (hM p σ τ) ⟨Or.inr rfl, (Eq.symm H)⟩
      · rw [if_neg h3] at H
        refine xp_ok htr 3 d 0 0 [eB false] 178 12 [some (.int a0)] [] (hM p σ τ) ⟨h3, ?_⟩
        show xv l Ω d 0 0 178 18 [some (.int a0)] [] (hM p σ τ) r
        by_cases h4 : a0 = 104
        · rw [if_pos h4] at H
          refine xp_ok htr 3 d 0 0 [eB true] 178 18 [some (.int a0)] [] (hM p σ τ) ⟨h4, ?_⟩
          show xv l Ω d 0 0 178 54 [some (.int a0)] [] (hM p σ τ) r
          exact xp_ok htr 3 d 0 0 [] 178 54 [some (.int a0)] [] (hM p σ τ) ⟨Or.inr rfl, (Eq.symm H)⟩
        · rw [if_neg h4] at H
          refine xp_ok htr 3 d 0 0 [eB false] 178 18 [some (.int a0)] [] (hM p σ τ) ⟨h4, ?_⟩
          show xv l Ω d 0 0 178 24 [some (.int a0)] [] (hM p σ τ) r
          by_cases h5 : a0 = 117
          · rw [if_pos h5] at H
            refine xp_ok htr 3 d 0 0 [eB true] 178 24 [some (.int a0)] [] (hM p σ τ) ⟨h5, ?_⟩
            show xv l Ω d 0 0 178 54 [some (.int a0)] [] (hM p σ τ) r
            exact xp_ok htr 3 d 0 0 [] 178 54 [some (.int a0)] [] (hM p σ τ) ⟨Or.inr rfl, (Eq.symm H)⟩
          · rw [if_neg h5] at H
            refine xp_ok htr 3 d 0 0 [eB false] 178 24 [some (.int a0)] [] (hM p σ τ) ⟨h5, ?_⟩
            show xv l Ω d 0 0 178 30 [some (.int a0)] [] (hM p σ τ) r
            by_cases h6 : a0 = 115
            · rw [if_pos h6] at H
              refine xp_ok htr 3 d 0 0 [eB true] 178 30 [some (.int a0)] [] (hM p σ τ) ⟨h6, ?_⟩
              show xv l Ω d 0 0 178 54 [some (.int a0)] [] (hM p σ τ) r
              exact xp_ok htr 3 d 0 0 [] 178 54 [some (.int a0)] [] (hM p σ τ) ⟨Or.inr rfl, (Eq.symm H)⟩
            · rw [if_neg h6] at H
              refine xp_ok htr 3 d 0 0 [eB false] 178 30 [some (.int a0)] [] (hM p σ τ) ⟨h6, ?_⟩
              show xv l Ω d 0 0 178 36 [some (.int a0)] [] (hM p σ τ) r
              by_cases h7 : a0 = 114
              · rw [if_pos h7] at H
                refine xp_ok htr 3 d 0 0 [eB true] 178 36 [some (.int a0)] [] (hM p σ τ) ⟨h7, ?_⟩
                show xv l Ω d 0 0 178 54 [some (.int a0)] [] (hM p σ τ) r
                exact xp_ok htr 3 d 0 0 [] 178 54 [some (.int a0)] [] (hM p σ τ) ⟨Or.inr rfl, (Eq.symm H)⟩
              · rw [if_neg h7] at H
                refine xp_ok htr 3 d 0 0 [eB false] 178 36 [some (.int a0)] [] (hM p σ τ) ⟨h7, ?_⟩
                show xv l Ω d 0 0 178 42 [some (.int a0)] [] (hM p σ τ) r
                by_cases h8 : a0 = 76
                · rw [if_pos h8] at H
                  refine xp_ok htr 3 d 0 0 [eB true] 178 42 [some (.int a0)] [] (hM p σ τ) ⟨h8, ?_⟩
                  show xv l Ω d 0 0 178 54 [some (.int a0)] [] (hM p σ τ) r
                  exact xp_ok htr 3 d 0 0 [] 178 54 [some (.int a0)] [] (hM p σ τ) ⟨Or.inr rfl, (Eq.symm H)⟩
                · rw [if_neg h8] at H
                  refine xp_ok htr 3 d 0 0 [eB false] 178 42 [some (.int a0)] [] (hM p σ τ) ⟨h8, ?_⟩
                  show xv l Ω d 0 0 178 48 [some (.int a0)] [] (hM p σ τ) r
                  by_cases h9 : a0 = 83
                  · rw [if_pos h9] at H
                    refine xp_ok htr 3 d 0 0 [eB false] 178 48 [some (.int a0)] [] (hM p σ τ) ⟨h9, ?_⟩
                    show xv l Ω d 0 0 178 54 [some (.int a0)] [] (hM p σ τ) r
                    exact xp_ok htr 3 d 0 0 [] 178 54 [some (.int a0)] [] (hM p σ τ) ⟨Or.inr rfl, (Eq.symm H)⟩
                  · rw [if_neg h9] at H
                    refine xp_ok htr 3 d 0 0 [eB true] 178 48 [some (.int a0)] [] (hM p σ τ) ⟨h9, ?_⟩
                    show xv l Ω d 0 0 178 58 [some (.int a0)] [] (hM p σ τ) r
                    exact xp_ok htr 2 d 0 0 [] 178 58 [some (.int a0)] [] (hM p σ τ) ⟨Or.inl rfl, (Eq.symm H)⟩
/- AccessDeskModel.digitHere -/
def g179  (σ : xS) : xO := (match g173 σ with | some (Sum.inl v1, s2) => (if v1 < 48 then some ((Sum.inl 0, s2)) else (match g173 s2 with | some (Sum.inl v5, s6) => (if 57 < v5 then some ((Sum.inl 0, s6)) else some ((Sum.inl 1, s6))) | some (Sum.inr v5, s6) => none | none => none)) | some (Sum.inr v1, s2) => none | none => none)
theorem g179_run {l : Launch} {Ω : xo_O} (htr : xH l) (d : Nat) (p : Nat) (τ : Nat → Nat → Int64)  (σ : xS) {q : xQ} (hq : g179  σ = some q) : xv l Ω (d + 1) 0 0 179 0 (xs_loc (xm_l 179) [.ref 53]) [] (hM p σ τ) (xq_R false p τ q) := by
  have H : xo (xB false p τ (xq_R false p τ q)) (g179  σ) := by rw [hq]; exact rfl
  generalize xq_R false p τ q = r at H ⊢
  show xv l Ω (d + 1) 0 0 179 0 [some (.ref 53)] [] (hM p σ τ) r
  unfold g179 at H
  cases q3 : g173 σ with
  | none => rw [q3] at H; exact False.elim H
  | some q30 =>
    obtain ⟨v1 | v1, s2⟩ := q30
    · rw [q3] at H; dsimp only at H
      have hc := g173_run (Ω := Ω) htr d p τ  σ q3
      refine xp_ok htr 2 (d + 1) 0 0 [eC (some (.int v1)) (hM p s2 τ)] 179 0 [some (.ref 53)] [] (hM p σ τ) ⟨hc, ?_⟩
      show xv l Ω (d + 1) 0 0 179 4 [some (.ref 53)] [.int v1] (hM p s2 τ) r
      by_cases h4 : v1 < 48
      · rw [if_pos h4] at H
        refine xp_ok htr 2 (d + 1) 0 0 [eB true] 179 4 [some (.ref 53)] [.int v1] (hM p s2 τ) ⟨h4, ?_⟩
        show xv l Ω (d + 1) 0 0 179 22 [some (.ref 53)] [] (hM p s2 τ) r
        exact xp_ok htr 2 (d + 1) 0 0 [] 179 22 [some (.ref 53)] [] (hM p s2 τ) ⟨Or.inl rfl, (Eq.symm H)⟩
      · rw [if_neg h4] at H
        refine xp_ok htr 2 (d + 1) 0 0 [eB false] 179 4 [some (.ref 53)] [.int v1] (hM p s2 τ) ⟨h4, ?_⟩
        show xv l Ω (d + 1) 0 0 179 9 [some (.ref 53)] [] (hM p s2 τ) r
        cases q7 : g173 s2 with
        | none => rw [q7] at H; exact False.elim H
        | some q70 =>
          obtain ⟨v5 | v5, s6⟩ := q70
          · rw [q7] at H; dsimp only at H
            have hc := g173_run (Ω := Ω) htr d p τ  s2 q7
            refine xp_ok htr 2 (d + 1) 0 0 [eC (some (.int v5)) (hM p s6 τ)] 179 9 [some (.ref 53)] [] (hM p s2 τ) ⟨hc, ?_⟩
            show xv l Ω (d + 1) 0 0 179 13 [some (.ref 53)] [.int v5] (hM p s6 τ) r
            by_cases h8 : 57 < v5
            · rw [if_pos h8] at H
              refine xp_ok htr 2 (d + 1) 0 0 [eB true] 179 13 [some (.ref 53)] [.int v5] (hM p s6 τ) ⟨h8, ?_⟩
              show xv l Ω (d + 1) 0 0 179 22 [some (.ref 53)] [] (hM p s6 τ) r
              exact xp_ok htr 2 (d + 1) 0 0 [] 179 22 [some (.ref 53)] [] (hM p s6 τ) ⟨Or.inl rfl, (Eq.symm H)⟩
            · rw [if_neg h8] at H
              refine xp_ok htr 2 (d + 1) 0 0 [eB false] 179 13 [some (.ref 53)] [.int v5] (hM p s6 τ) ⟨h8, ?_⟩
              show xv l Ω (d + 1) 0 0 179 18 [some (.ref 53)] [] (hM p s6 τ) r
              exact xp_ok htr 3 (d + 1) 0 0 [] 179 18 [some (.ref 53)] [] (hM p s6 τ) ⟨Or.inr rfl, (Eq.symm H)⟩
          · rw [q7] at H; exact False.elim H
    · rw [q3] at H; exact False.elim H
