/-! the methods as functions: laid by program (wip/whole/dec.py) -/
/- AccessDeskModel.takeMatch -/
def g177_113  (σ : xS) : Option xQ := (match g175 σ with | some (Sum.inl v17, s18) => some ((Sum.inl 0, s18)) | some (Sum.inr v17, s18) => none | none => none)
def g177_179 (x1 : Int32) (x2 : Int32) (x3 : Int32) (x4 : Int32) (x5 : Int32) (x7 : Int32) (σ : xS) : Option xQ := (bif xn x3 200 then some ((Sum.inl x3, (xh_ui (xh_ui (xh_ui (xh_ui (xh_ui (xh_ui σ 79 (Int32.toNatClampNeg x3) x4) 80 (Int32.toNatClampNeg x3) x5) 81 (Int32.toNatClampNeg x3) x7) 82 (Int32.toNatClampNeg x3) (vp_nar .boolean x1)) 83 (Int32.toNatClampNeg x3) (vp_nar .boolean x2)) 53 31 (((xh_ui (xh_ui (xh_ui (xh_ui (xh_ui σ 79 (Int32.toNatClampNeg x3) x4) 80 (Int32.toNatClampNeg x3) x5) 81 (Int32.toNatClampNeg x3) x7) 82 (Int32.toNatClampNeg x3) (vp_nar .boolean x1)) 83 (Int32.toNatClampNeg x3) (vp_nar .boolean x2)) 53 31) + 1)))) else none)
def g177_148 (x1 : Int32) (x2 : Int32) (x3 : Int32) (x4 : Int32) (x5 : Int32) (x7 : Int32) (x8 : Int32) (σ : xS) : Option ((Int32 × Int32 × Int32 × Int32 × Int32 × Int32 × Int32 × xS) ⊕ xQ) := (match g173 σ with | some (Sum.inl v31, s32) => some (Sum.inl (x1, x2, x3, x4, x5, (((10 * x7) + v31) - 48), (x8 + 1), (xh_ui s32 53 19 ((s32 53 19) + 1)))) | some (Sum.inr v31, s32) => none | none => none)
def g177_125b (x1 : Int32) (x2 : Int32) (x3 : Int32) (x4 : Int32) (x5 : Int32) (x7 : Int32) (x8 : Int32) (σ : xS) : Option ((Int32 × Int32 × Int32 × Int32 × Int32 × Int32 × Int32 × xS) ⊕ xQ) := (match g179 σ with | some (Sum.inl v24, s25) => (if v24 = 0 then Option.map Sum.inr (g177_179 x1 x2 x3 x4 x5 x7 s25) else (if 3 ≤ x8 then Option.map Sum.inr (g177_179 x1 x2 x3 x4 x5 x7 s25) else (if x8 = 0 then g177_148 x1 x2 x3 x4 x5 x7 x8 s25 else (if x7 ≤ 0 then Option.map Sum.inr (g177_179 x1 x2 x3 x4 x5 x7 s25) else g177_148 x1 x2 x3 x4 x5 x7 x8 s25)))) | some (Sum.inr v24, s25) => none | none => none)
def g177_125 (x1 : Int32) (x2 : Int32) (x3 : Int32) (x4 : Int32) (x5 : Int32) (x7 : Int32) (x8 : Int32) (σ : xS) : Option xQ := xlo (fun a : Int32 × Int32 × Int32 × Int32 × Int32 × Int32 × Int32 × xS => g177_125b a.1 a.2.1 a.2.2.1 a.2.2.2.1 a.2.2.2.2.1 a.2.2.2.2.2.1 a.2.2.2.2.2.2.1 a.2.2.2.2.2.2.2) 1000 (x1, x2, x3, x4, x5, x7, x8, σ)
def g177_101 (x1 : Int32) (x2 : Int32) (x3 : Int32) (x4 : Int32) (x5 : Int32) (x6 : Int32) (σ : xS) : Option xQ := (if x6 = 0 then g177_113 σ else (match g179 σ with | some (Sum.inl v20, s21) => (if v20 = 0 then g177_113 s21 else g177_125 x1 x2 x3 x4 x5 0 0 s21) | some (Sum.inr v20, s21) => none | none => none))
def g177_84 (x1 : Int32) (x2 : Int32) (x3 : Int32) (x4 : Int32) (x5 : Int32) (k0 : Int32) (σ : xS) : Option xQ := (if k0 = 0 then g177_101 x1 x2 x3 x4 x5 k0 σ else g177_101 x1 x2 x3 x4 x5 k0 (xh_ui σ 53 19 ((σ 53 19) + 1)))
def g177_79 (x1 : Int32) (x2 : Int32) (x3 : Int32) (x4 : Int32) (x5 : Int32) (σ : xS) : Option xQ := g177_84 x1 x2 x3 x4 x5 1 σ
def g177_83 (x1 : Int32) (x2 : Int32) (x3 : Int32) (x4 : Int32) (x5 : Int32) (σ : xS) : Option xQ := g177_84 x1 x2 x3 x4 x5 0 σ
def g177_65 (x1 : Int32) (x2 : Int32) (x3 : Int32) (x4 : Int32) (x5 : Int32) (σ : xS) : Option xQ := (if x4 = 114 then g177_83 x1 x2 x3 x4 x5 σ else (if x4 = 117 then g177_83 x1 x2 x3 x4 x5 σ else g177_79 x1 x2 x3 x4 x5 σ))
def g177 (a1 : Int32) (a2 : Int32) (σ : xS) : xO := (match g173 σ with | some (Sum.inl v1, s2) => (match g178 v1 s2 with | some (Sum.inl v4, s5) => (if v4 = 0 then (match g175 s5 with | some (Sum.inl v8, s9) => some ((Sum.inl 0, s9)) | some (Sum.inr v8, s9) => none | none => none) else (match g173 (xh_ui s5 53 19 ((s5 53 19) + 1)) with | some (Sum.inl v11, s12) => (if v11 = 61 then g177_79 a1 a2 (100 + (σ 53 31)) v1 v11 s12 else (if v11 = 60 then g177_65 a1 a2 (100 + (σ 53 31)) v1 v11 s12 else (if v11 = 62 then g177_65 a1 a2 (100 + (σ 53 31)) v1 v11 s12 else g177_83 a1 a2 (100 + (σ 53 31)) v1 v11 s12))) | some (Sum.inr v11, s12) => none | none => none)) | some (Sum.inr v4, s5) => none | none => none) | some (Sum.inr v1, s2) => none | none => none)
def a177_125 (l : Launch) (Ω : xo_O) (d p : Nat) (τ : Nat → Nat → Int64) (r : xv_R) : Int32 × Int32 × Int32 × Int32 × Int32 × Int32 × Int32 × xS → Prop := fun a => xv l Ω (d + 2) 0 0 177 125 [some (.ref 53), some (.int a.1), some (.int a.2.1), some (.int a.2.2.1), some (.int a.2.2.2.1), some (.int a.2.2.2.2.1), none, some (.int a.2.2.2.2.2.1), some (.int a.2.2.2.2.2.2.1)] [] (hM p a.2.2.2.2.2.2.2 τ) r
theorem g177_113_ok {l : Launch} {Ω : xo_O} (htr : xH l) (d : Nat) (p : Nat) (τ : Nat → Nat → Int64)  (σ : xS) (r : xv_R) (H : xo (xB false p τ r) (g177_113 σ)) : xv l Ω (d + 2) 0 0 177 113 [some (.ref 53), none, none, none, none, none, none, none, none] [] (hM p σ τ) r := by
  unfold g177_113 at H
  cases q19 : g175 σ with
  | none => rw [q19] at H; exact False.elim H
  | some q190 =>
    obtain ⟨v17 | v17, s18⟩ := q190
    · rw [q19] at H; dsimp only at H
      have hc := g175_run (Ω := Ω) htr (d + 1) p τ  σ q19
      refine xp_ok htr 2 (d + 2) 0 0 [eC none (hM p s18 τ)] 177 113 [some (.ref 53), none, none, none, none, none, none, none, none] [] (hM p σ τ) ⟨hc, ?_⟩
      show xv l Ω (d + 2) 0 0 177 117 [some (.ref 53), none, none, none, none, none, none, none, none] [] (hM p s18 τ) r
      exact xp_ok htr 2 (d + 2) 0 0 [] 177 117 [some (.ref 53), none, none, none, none, none, none, none, none] [] (hM p s18 τ) ⟨trivial, (Eq.symm H)⟩
    · rw [q19] at H; exact False.elim H
theorem g177_179_ok {l : Launch} {Ω : xo_O} (htr : xH l) (d : Nat) (p : Nat) (τ : Nat → Nat → Int64) (x1 : Int32) (x2 : Int32) (x3 : Int32) (x4 : Int32) (x5 : Int32) (x7 : Int32) (σ : xS) (r : xv_R) (H : xo (xB false p τ r) (g177_179 x1 x2 x3 x4 x5 x7 σ)) : xv l Ω (d + 2) 0 0 177 179 [some (.ref 53), some (.int x1), some (.int x2), some (.int x3), some (.int x4), some (.int x5), none, some (.int x7), none] [] (hM p σ τ) r := by
  unfold g177_179 at H
  cases g28 : xn x3 200 with
  | false => rw [g28, cond_false] at H; exact False.elim H
  | true =>
    rw [g28, cond_true] at H
    refine xp_ok htr 8 (d + 2) 0 0 [] 177 179 [some (.ref 53), some (.int x1), some (.int x2), some (.int x3), some (.int x4), some (.int x5), none, some (.int x7), none] [] (hM p σ τ) ⟨(xn_in g28), ?_⟩
    show xv l Ω (d + 2) 0 0 177 192 [some (.ref 53), some (.int x1), some (.int x2), some (.int x3), some (.int x4), some (.int x5), none, some (.int x7), none] [.int x3, .ref 80] (hM p (xh_ui σ 79 (Int32.toNatClampNeg x3) x4) τ) r
    refine xp_ok htr 8 (d + 2) 0 0 [] 177 192 [some (.ref 53), some (.int x1), some (.int x2), some (.int x3), some (.int x4), some (.int x5), none, some (.int x7), none] [.int x3, .ref 80] (hM p (xh_ui σ 79 (Int32.toNatClampNeg x3) x4) τ) ⟨(xn_in g28), (xn_in g28), ?_⟩
    show xv l Ω (d + 2) 0 0 177 204 [some (.ref 53), some (.int x1), some (.int x2), some (.int x3), some (.int x4), some (.int x5), none, some (.int x7), none] [.ref 53] (hM p (xh_ui (xh_ui (xh_ui σ 79 (Int32.toNatClampNeg x3) x4) 80 (Int32.toNatClampNeg x3) x5) 81 (Int32.toNatClampNeg x3) x7) τ) r
    refine xp_ok htr 8 (d + 2) 0 0 [] 177 204 [some (.ref 53), some (.int x1), some (.int x2), some (.int x3), some (.int x4), some (.int x5), none, some (.int x7), none] [.ref 53] (hM p (xh_ui (xh_ui (xh_ui σ 79 (Int32.toNatClampNeg x3) x4) 80 (Int32.toNatClampNeg x3) x5) 81 (Int32.toNatClampNeg x3) x7) τ) ⟨(xn_in g28), ?_⟩
    show xv l Ω (d + 2) 0 0 177 216 [some (.ref 53), some (.int x1), some (.int x2), some (.int x3), some (.int x4), some (.int x5), none, some (.int x7), none] [.int x2, .int x3, .ref 83] (hM p (xh_ui (xh_ui (xh_ui (xh_ui σ 79 (Int32.toNatClampNeg x3) x4) 80 (Int32.toNatClampNeg x3) x5) 81 (Int32.toNatClampNeg x3) x7) 82 (Int32.toNatClampNeg x3) (vp_nar .boolean x1)) τ) r
    refine xp_ok htr 8 (d + 2) 0 0 [] 177 216 [some (.ref 53), some (.int x1), some (.int x2), some (.int x3), some (.int x4), some (.int x5), none, some (.int x7), none] [.int x2, .int x3, .ref 83] (hM p (xh_ui (xh_ui (xh_ui (xh_ui σ 79 (Int32.toNatClampNeg x3) x4) 80 (Int32.toNatClampNeg x3) x5) 81 (Int32.toNatClampNeg x3) x7) 82 (Int32.toNatClampNeg x3) (vp_nar .boolean x1)) τ) ⟨(xn_in g28), ?_⟩
    show xv l Ω (d + 2) 0 0 177 228 [some (.ref 53), some (.int x1), some (.int x2), some (.int x3), some (.int x4), some (.int x5), none, some (.int x7), none] [.int x3] (hM p (xh_ui (xh_ui (xh_ui (xh_ui (xh_ui (xh_ui σ 79 (Int32.toNatClampNeg x3) x4) 80 (Int32.toNatClampNeg x3) x5) 81 (Int32.toNatClampNeg x3) x7) 82 (Int32.toNatClampNeg x3) (vp_nar .boolean x1)) 83 (Int32.toNatClampNeg x3) (vp_nar .boolean x2)) 53 31 (((xh_ui (xh_ui (xh_ui (xh_ui (xh_ui σ 79 (Int32.toNatClampNeg x3) x4) 80 (Int32.toNatClampNeg x3) x5) 81 (Int32.toNatClampNeg x3) x7) 82 (Int32.toNatClampNeg x3) (vp_nar .boolean x1)) 83 (Int32.toNatClampNeg x3) (vp_nar .boolean x2)) 53 31) + 1)) τ) r
    exact xp_ok htr 1 (d + 2) 0 0 [] 177 228 [some (.ref 53), some (.int x1), some (.int x2), some (.int x3), some (.int x4), some (.int x5), none, some (.int x7), none] [.int x3] (hM p (xh_ui (xh_ui (xh_ui (xh_ui (xh_ui (xh_ui σ 79 (Int32.toNatClampNeg x3) x4) 80 (Int32.toNatClampNeg x3) x5) 81 (Int32.toNatClampNeg x3) x7) 82 (Int32.toNatClampNeg x3) (vp_nar .boolean x1)) 83 (Int32.toNatClampNeg x3) (vp_nar .boolean x2)) 53 31 (((xh_ui (xh_ui (xh_ui (xh_ui (xh_ui σ 79 (Int32.toNatClampNeg x3) x4) 80 (Int32.toNatClampNeg x3) x5) 81 (Int32.toNatClampNeg x3) x7) 82 (Int32.toNatClampNeg x3) (vp_nar .boolean x1)) 83 (Int32.toNatClampNeg x3) (vp_nar .boolean x2)) 53 31) + 1)) τ) ⟨trivial, (Eq.symm H)⟩
theorem g177_148_ok {l : Launch} {Ω : xo_O} (htr : xH l) (d : Nat) (p : Nat) (τ : Nat → Nat → Int64) (x1 : Int32) (x2 : Int32) (x3 : Int32) (x4 : Int32) (x5 : Int32) (x7 : Int32) (x8 : Int32) (σ : xS) (r : xv_R) (H : xo (xd (a177_125 l Ω d p τ r) (xB false p τ r)) (g177_148 x1 x2 x3 x4 x5 x7 x8 σ)) : xv l Ω (d + 2) 0 0 177 148 [some (.ref 53), some (.int x1), some (.int x2), some (.int x3), some (.int x4), some (.int x5), none, some (.int x7), some (.int x8)] [] (hM p σ τ) r := by
  unfold g177_148 at H
  cases q33 : g173 σ with
  | none => rw [q33] at H; exact False.elim H
  | some q330 =>
    obtain ⟨v31 | v31, s32⟩ := q330
    · rw [q33] at H; dsimp only at H
      have hc := g173_run (Ω := Ω) htr (d + 1) p τ  σ q33
      refine xp_ok htr 5 (d + 2) 0 0 [eC (some (.int v31)) (hM p s32 τ)] 177 148 [some (.ref 53), some (.int x1), some (.int x2), some (.int x3), some (.int x4), some (.int x5), none, some (.int x7), some (.int x8)] [] (hM p σ τ) ⟨hc, ?_⟩
      show xv l Ω (d + 2) 0 0 177 157 [some (.ref 53), some (.int x1), some (.int x2), some (.int x3), some (.int x4), some (.int x5), none, some (.int x7), some (.int x8)] [.int v31, .int (10 * x7)] (hM p s32 τ) r
      refine xp_ok htr 8 (d + 2) 0 0 [] 177 157 [some (.ref 53), some (.int x1), some (.int x2), some (.int x3), some (.int x4), some (.int x5), none, some (.int x7), some (.int x8)] [.int v31, .int (10 * x7)] (hM p s32 τ) ?_
      show xv l Ω (d + 2) 0 0 177 171 [some (.ref 53), some (.int x1), some (.int x2), some (.int x3), some (.int x4), some (.int x5), none, some (.int (((10 * x7) + v31) - 48)), some (.int (x8 + 1))] [.int (s32 53 19), .ref 53] (hM p s32 τ) r
      refine xp_ok htr 4 (d + 2) 0 0 [] 177 171 [some (.ref 53), some (.int x1), some (.int x2), some (.int x3), some (.int x4), some (.int x5), none, some (.int (((10 * x7) + v31) - 48)), some (.int (x8 + 1))] [.int (s32 53 19), .ref 53] (hM p s32 τ) ?_
      show xv l Ω (d + 2) 0 0 177 125 [some (.ref 53), some (.int x1), some (.int x2), some (.int x3), some (.int x4), some (.int x5), none, some (.int (((10 * x7) + v31) - 48)), some (.int (x8 + 1))] [] (hM p (xh_ui s32 53 19 ((s32 53 19) + 1)) τ) r
      exact xv_sub (L' := [some (.ref 53), some (.int x1), some (.int x2), some (.int x3), some (.int x4), some (.int x5), none, some (.int (((10 * x7) + v31) - 48)), some (.int (x8 + 1))]) ⟨rfl, ⟨rfl, ⟨rfl, ⟨rfl, ⟨rfl, ⟨rfl, ⟨rfl, ⟨rfl, trivial⟩⟩⟩⟩⟩⟩⟩⟩ H
    · rw [q33] at H; exact False.elim H
theorem g177_125b_ok {l : Launch} {Ω : xo_O} (htr : xH l) (d : Nat) (p : Nat) (τ : Nat → Nat → Int64) (x1 : Int32) (x2 : Int32) (x3 : Int32) (x4 : Int32) (x5 : Int32) (x7 : Int32) (x8 : Int32) (σ : xS) (r : xv_R) (H : xo (xd (a177_125 l Ω d p τ r) (xB false p τ r)) (g177_125b x1 x2 x3 x4 x5 x7 x8 σ)) : xv l Ω (d + 2) 0 0 177 125 [some (.ref 53), some (.int x1), some (.int x2), some (.int x3), some (.int x4), some (.int x5), none, some (.int x7), some (.int x8)] [] (hM p σ τ) r := by
  unfold g177_125b at H
  cases q26 : g179 σ with
  | none => rw [q26] at H; exact False.elim H
  | some q260 =>
    obtain ⟨v24 | v24, s25⟩ := q260
    · rw [q26] at H; dsimp only at H
      have hc := g179_run (Ω := Ω) htr d p τ  σ q26
      refine xp_ok htr 2 (d + 2) 0 0 [eC (some (.int v24)) (hM p s25 τ)] 177 125 [some (.ref 53), some (.int x1), some (.int x2), some (.int x3), some (.int x4), some (.int x5), none, some (.int x7), some (.int x8)] [] (hM p σ τ) ⟨hc, ?_⟩
      show xv l Ω (d + 2) 0 0 177 129 [some (.ref 53), some (.int x1), some (.int x2), some (.int x3), some (.int x4), some (.int x5), none, some (.int x7), some (.int x8)] [.int v24] (hM p s25 τ) r
      by_cases h27 : v24 = 0
      · rw [if_pos h27] at H
        refine xp_ok htr 1 (d + 2) 0 0 [eB true] 177 129 [some (.ref 53), some (.int x1), some (.int x2), some (.int x3), some (.int x4), some (.int x5), none, some (.int x7), some (.int x8)] [.int v24] (hM p s25 τ) ⟨h27, ?_⟩
        show xv l Ω (d + 2) 0 0 177 179 [some (.ref 53), some (.int x1), some (.int x2), some (.int x3), some (.int x4), some (.int x5), none, some (.int x7), some (.int x8)] [] (hM p s25 τ) r
        exact xv_sub (L' := [some (.ref 53), some (.int x1), some (.int x2), some (.int x3), some (.int x4), some (.int x5), none, some (.int x7), none]) ⟨rfl, ⟨rfl, ⟨rfl, ⟨rfl, ⟨rfl, ⟨rfl, ⟨rfl, trivial⟩⟩⟩⟩⟩⟩⟩ (g177_179_ok htr d p τ x1 x2 x3 x4 x5 x7 s25 r (xo_map H))
      · rw [if_neg h27] at H
        refine xp_ok htr 1 (d + 2) 0 0 [eB false] 177 129 [some (.ref 53), some (.int x1), some (.int x2), some (.int x3), some (.int x4), some (.int x5), none, some (.int x7), some (.int x8)] [.int v24] (hM p s25 τ) ⟨h27, ?_⟩
        show xv l Ω (d + 2) 0 0 177 132 [some (.ref 53), some (.int x1), some (.int x2), some (.int x3), some (.int x4), some (.int x5), none, some (.int x7), some (.int x8)] [] (hM p s25 τ) r
        by_cases h29 : 3 ≤ x8
        · rw [if_pos h29] at H
          refine xp_ok htr 3 (d + 2) 0 0 [eB true] 177 132 [some (.ref 53), some (.int x1), some (.int x2), some (.int x3), some (.int x4), some (.int x5), none, some (.int x7), some (.int x8)] [] (hM p s25 τ) ⟨h29, ?_⟩
          show xv l Ω (d + 2) 0 0 177 179 [some (.ref 53), some (.int x1), some (.int x2), some (.int x3), some (.int x4), some (.int x5), none, some (.int x7), some (.int x8)] [] (hM p s25 τ) r
          exact xv_sub (L' := [some (.ref 53), some (.int x1), some (.int x2), some (.int x3), some (.int x4), some (.int x5), none, some (.int x7), none]) ⟨rfl, ⟨rfl, ⟨rfl, ⟨rfl, ⟨rfl, ⟨rfl, ⟨rfl, trivial⟩⟩⟩⟩⟩⟩⟩ (g177_179_ok htr d p τ x1 x2 x3 x4 x5 x7 s25 r (xo_map H))
        · rw [if_neg h29] at H
          refine xp_ok htr 3 (d + 2) 0 0 [eB false] 177 132 [some (.ref 53), some (.int x1), some (.int x2), some (.int x3), some (.int x4), some (.int x5), none, some (.int x7), some (.int x8)] [] (hM p s25 τ) ⟨h29, ?_⟩
          show xv l Ω (d + 2) 0 0 177 138 [some (.ref 53), some (.int x1), some (.int x2), some (.int x3), some (.int x4), some (.int x5), none, some (.int x7), some (.int x8)] [] (hM p s25 τ) r
          by_cases h30 : x8 = 0
          · rw [if_pos h30] at H
            refine xp_ok htr 2 (d + 2) 0 0 [eB true] 177 138 [some (.ref 53), some (.int x1), some (.int x2), some (.int x3), some (.int x4), some (.int x5), none, some (.int x7), some (.int x8)] [] (hM p s25 τ) ⟨h30, ?_⟩
            show xv l Ω (d + 2) 0 0 177 148 [some (.ref 53), some (.int x1), some (.int x2), some (.int x3), some (.int x4), some (.int x5), none, some (.int x7), some (.int x8)] [] (hM p s25 τ) r
            exact xv_sub (L' := [some (.ref 53), some (.int x1), some (.int x2), some (.int x3), some (.int x4), some (.int x5), none, some (.int x7), some (.int x8)]) ⟨rfl, ⟨rfl, ⟨rfl, ⟨rfl, ⟨rfl, ⟨rfl, ⟨rfl, ⟨rfl, trivial⟩⟩⟩⟩⟩⟩⟩⟩ (g177_148_ok htr d p τ x1 x2 x3 x4 x5 x7 x8 s25 r H)
          · rw [if_neg h30] at H
            refine xp_ok htr 2 (d + 2) 0 0 [eB false] 177 138 [some (.ref 53), some (.int x1), some (.int x2), some (.int x3), some (.int x4), some (.int x5), none, some (.int x7), some (.int x8)] [] (hM p s25 τ) ⟨h30, ?_⟩
            show xv l Ω (d + 2) 0 0 177 143 [some (.ref 53), some (.int x1), some (.int x2), some (.int x3), some (.int x4), some (.int x5), none, some (.int x7), some (.int x8)] [] (hM p s25 τ) r
            by_cases h34 : x7 ≤ 0
            · rw [if_pos h34] at H
              refine xp_ok htr 2 (d + 2) 0 0 [eB true] 177 143 [some (.ref 53), some (.int x1), some (.int x2), some (.int x3), some (.int x4), some (.int x5), none, some (.int x7), some (.int x8)] [] (hM p s25 τ) ⟨h34, ?_⟩
              show xv l Ω (d + 2) 0 0 177 179 [some (.ref 53), some (.int x1), some (.int x2), some (.int x3), some (.int x4), some (.int x5), none, some (.int x7), some (.int x8)] [] (hM p s25 τ) r
              exact xv_sub (L' := [some (.ref 53), some (.int x1), some (.int x2), some (.int x3), some (.int x4), some (.int x5), none, some (.int x7), none]) ⟨rfl, ⟨rfl, ⟨rfl, ⟨rfl, ⟨rfl, ⟨rfl, ⟨rfl, trivial⟩⟩⟩⟩⟩⟩⟩ (g177_179_ok htr d p τ x1 x2 x3 x4 x5 x7 s25 r (xo_map H))
            · rw [if_neg h34] at H
              refine xp_ok htr 2 (d + 2) 0 0 [eB false] 177 143 [some (.ref 53), some (.int x1), some (.int x2), some (.int x3), some (.int x4), some (.int x5), none, some (.int x7), some (.int x8)] [] (hM p s25 τ) ⟨h34, ?_⟩
              show xv l Ω (d + 2) 0 0 177 148 [some (.ref 53), some (.int x1), some (.int x2), some (.int x3), some (.int x4), some (.int x5), none, some (.int x7), some (.int x8)] [] (hM p s25 τ) r
              exact xv_sub (L' := [some (.ref 53), some (.int x1), some (.int x2), some (.int x3), some (.int x4), some (.int x5), none, some (.int x7), some (.int x8)]) ⟨rfl, ⟨rfl, ⟨rfl, ⟨rfl, ⟨rfl, ⟨rfl, ⟨rfl, ⟨rfl, trivial⟩⟩⟩⟩⟩⟩⟩⟩ (g177_148_ok htr d p τ x1 x2 x3 x4 x5 x7 x8 s25 r H)
    · rw [q26] at H; exact False.elim H
theorem g177_125_ok {l : Launch} {Ω : xo_O} (htr : xH l) (d : Nat) (p : Nat) (τ : Nat → Nat → Int64) (x1 : Int32) (x2 : Int32) (x3 : Int32) (x4 : Int32) (x5 : Int32) (x7 : Int32) (x8 : Int32) (σ : xS) (r : xv_R) (H : xo (xB false p τ r) (g177_125 x1 x2 x3 x4 x5 x7 x8 σ)) : xv l Ω (d + 2) 0 0 177 125 [some (.ref 53), some (.int x1), some (.int x2), some (.int x3), some (.int x4), some (.int x5), none, some (.int x7), some (.int x8)] [] (hM p σ τ) r :=
  xlo_ok (A := a177_125 l Ω d p τ r) (fun a H => g177_125b_ok htr d p τ a.1 a.2.1 a.2.2.1 a.2.2.2.1 a.2.2.2.2.1 a.2.2.2.2.2.1 a.2.2.2.2.2.2.1 a.2.2.2.2.2.2.2 r H) 1000 (x1, x2, x3, x4, x5, x7, x8, σ) H
theorem g177_101_ok {l : Launch} {Ω : xo_O} (htr : xH l) (d : Nat) (p : Nat) (τ : Nat → Nat → Int64) (x1 : Int32) (x2 : Int32) (x3 : Int32) (x4 : Int32) (x5 : Int32) (x6 : Int32) (σ : xS) (r : xv_R) (H : xo (xB false p τ r) (g177_101 x1 x2 x3 x4 x5 x6 σ)) : xv l Ω (d + 2) 0 0 177 101 [some (.ref 53), some (.int x1), some (.int x2), some (.int x3), some (.int x4), some (.int x5), some (.int x6), none, none] [] (hM p σ τ) r := by
  unfold g177_101 at H
  by_cases h16 : x6 = 0
  · rw [if_pos h16] at H
    refine xp_ok htr 2 (d + 2) 0 0 [eB true] 177 101 [some (.ref 53), some (.int x1), some (.int x2), some (.int x3), some (.int x4), some (.int x5), some (.int x6), none, none] [] (hM p σ τ) ⟨h16, ?_⟩
    show xv l Ω (d + 2) 0 0 177 113 [some (.ref 53), some (.int x1), some (.int x2), some (.int x3), some (.int x4), some (.int x5), some (.int x6), none, none] [] (hM p σ τ) r
    exact xv_sub (L' := [some (.ref 53), none, none, none, none, none, none, none, none]) ⟨rfl, trivial⟩ (g177_113_ok htr d p τ σ r H)
  · rw [if_neg h16] at H
    refine xp_ok htr 2 (d + 2) 0 0 [eB false] 177 101 [some (.ref 53), some (.int x1), some (.int x2), some (.int x3), some (.int x4), some (.int x5), some (.int x6), none, none] [] (hM p σ τ) ⟨h16, ?_⟩
    show xv l Ω (d + 2) 0 0 177 106 [some (.ref 53), some (.int x1), some (.int x2), some (.int x3), some (.int x4), some (.int x5), some (.int x6), none, none] [] (hM p σ τ) r
    cases q22 : g179 σ with
    | none => rw [q22] at H; exact False.elim H
    | some q220 =>
      obtain ⟨v20 | v20, s21⟩ := q220
      · rw [q22] at H; dsimp only at H
        have hc := g179_run (Ω := Ω) htr d p τ  σ q22
        refine xp_ok htr 2 (d + 2) 0 0 [eC (some (.int v20)) (hM p s21 τ)] 177 106 [some (.ref 53), some (.int x1), some (.int x2), some (.int x3), some (.int x4), some (.int x5), some (.int x6), none, none] [] (hM p σ τ) ⟨hc, ?_⟩
        show xv l Ω (d + 2) 0 0 177 110 [some (.ref 53), some (.int x1), some (.int x2), some (.int x3), some (.int x4), some (.int x5), some (.int x6), none, none] [.int v20] (hM p s21 τ) r
        by_cases h23 : v20 = 0
        · rw [if_pos h23] at H
          refine xp_ok htr 1 (d + 2) 0 0 [eB false] 177 110 [some (.ref 53), some (.int x1), some (.int x2), some (.int x3), some (.int x4), some (.int x5), some (.int x6), none, none] [.int v20] (hM p s21 τ) ⟨h23, ?_⟩
          show xv l Ω (d + 2) 0 0 177 113 [some (.ref 53), some (.int x1), some (.int x2), some (.int x3), some (.int x4), some (.int x5), some (.int x6), none, none] [] (hM p s21 τ) r
          exact xv_sub (L' := [some (.ref 53), none, none, none, none, none, none, none, none]) ⟨rfl, trivial⟩ (g177_113_ok htr d p τ s21 r H)
        · rw [if_neg h23] at H
          refine xp_ok htr 1 (d + 2) 0 0 [eB true] 177 110 [some (.ref 53), some (.int x1), some (.int x2), some (.int x3), some (.int x4), some (.int x5), some (.int x6), none, none] [.int v20] (hM p s21 τ) ⟨h23, ?_⟩
          show xv l Ω (d + 2) 0 0 177 119 [some (.ref 53), some (.int x1), some (.int x2), some (.int x3), some (.int x4), some (.int x5), some (.int x6), none, none] [] (hM p s21 τ) r
          refine xp_ok htr 4 (d + 2) 0 0 [] 177 119 [some (.ref 53), some (.int x1), some (.int x2), some (.int x3), some (.int x4), some (.int x5), some (.int x6), none, none] [] (hM p s21 τ) ?_
          show xv l Ω (d + 2) 0 0 177 125 [some (.ref 53), some (.int x1), some (.int x2), some (.int x3), some (.int x4), some (.int x5), some (.int x6), some (.int 0), some (.int 0)] [] (hM p s21 τ) r
          exact xv_sub (L' := [some (.ref 53), some (.int x1), some (.int x2), some (.int x3), some (.int x4), some (.int x5), none, some (.int 0), some (.int 0)]) ⟨rfl, ⟨rfl, ⟨rfl, ⟨rfl, ⟨rfl, ⟨rfl, ⟨rfl, ⟨rfl, trivial⟩⟩⟩⟩⟩⟩⟩⟩ (g177_125_ok htr d p τ x1 x2 x3 x4 x5 0 0 s21 r H)
      · rw [q22] at H; exact False.elim H
theorem g177_84_ok {l : Launch} {Ω : xo_O} (htr : xH l) (d : Nat) (p : Nat) (τ : Nat → Nat → Int64) (x1 : Int32) (x2 : Int32) (x3 : Int32) (x4 : Int32) (x5 : Int32) (k0 : Int32) (σ : xS) (r : xv_R) (H : xo (xB false p τ r) (g177_84 x1 x2 x3 x4 x5 k0 σ)) : xv l Ω (d + 2) 0 0 177 84 [some (.ref 53), some (.int x1), some (.int x2), some (.int x3), some (.int x4), some (.int x5), none, none, none] [.int k0] (hM p σ τ) r := by
  unfold g177_84 at H
  by_cases h15 : k0 = 0
  · rw [if_pos h15] at H
    refine xp_ok htr 3 (d + 2) 0 0 [eB true] 177 84 [some (.ref 53), some (.int x1), some (.int x2), some (.int x3), some (.int x4), some (.int x5), none, none, none] [.int k0] (hM p σ τ) ⟨h15, ?_⟩
    show xv l Ω (d + 2) 0 0 177 101 [some (.ref 53), some (.int x1), some (.int x2), some (.int x3), some (.int x4), some (.int x5), some (.int k0), none, none] [] (hM p σ τ) r
    exact xv_sub (L' := [some (.ref 53), some (.int x1), some (.int x2), some (.int x3), some (.int x4), some (.int x5), some (.int k0), none, none]) ⟨rfl, ⟨rfl, ⟨rfl, ⟨rfl, ⟨rfl, ⟨rfl, ⟨rfl, trivial⟩⟩⟩⟩⟩⟩⟩ (g177_101_ok htr d p τ x1 x2 x3 x4 x5 k0 σ r H)
  · rw [if_neg h15] at H
    refine xp_ok htr 3 (d + 2) 0 0 [eB false] 177 84 [some (.ref 53), some (.int x1), some (.int x2), some (.int x3), some (.int x4), some (.int x5), none, none, none] [.int k0] (hM p σ τ) ⟨h15, ?_⟩
    show xv l Ω (d + 2) 0 0 177 91 [some (.ref 53), some (.int x1), some (.int x2), some (.int x3), some (.int x4), some (.int x5), some (.int k0), none, none] [] (hM p σ τ) r
    refine xp_ok htr 6 (d + 2) 0 0 [] 177 91 [some (.ref 53), some (.int x1), some (.int x2), some (.int x3), some (.int x4), some (.int x5), some (.int k0), none, none] [] (hM p σ τ) ?_
    show xv l Ω (d + 2) 0 0 177 101 [some (.ref 53), some (.int x1), some (.int x2), some (.int x3), some (.int x4), some (.int x5), some (.int k0), none, none] [] (hM p (xh_ui σ 53 19 ((σ 53 19) + 1)) τ) r
    exact xv_sub (L' := [some (.ref 53), some (.int x1), some (.int x2), some (.int x3), some (.int x4), some (.int x5), some (.int k0), none, none]) ⟨rfl, ⟨rfl, ⟨rfl, ⟨rfl, ⟨rfl, ⟨rfl, ⟨rfl, trivial⟩⟩⟩⟩⟩⟩⟩ (g177_101_ok htr d p τ x1 x2 x3 x4 x5 k0 (xh_ui σ 53 19 ((σ 53 19) + 1)) r H)
theorem g177_79_ok {l : Launch} {Ω : xo_O} (htr : xH l) (d : Nat) (p : Nat) (τ : Nat → Nat → Int64) (x1 : Int32) (x2 : Int32) (x3 : Int32) (x4 : Int32) (x5 : Int32) (σ : xS) (r : xv_R) (H : xo (xB false p τ r) (g177_79 x1 x2 x3 x4 x5 σ)) : xv l Ω (d + 2) 0 0 177 79 [some (.ref 53), some (.int x1), some (.int x2), some (.int x3), some (.int x4), some (.int x5), none, none, none] [] (hM p σ τ) r := by
  unfold g177_79 at H
  refine xp_ok htr 2 (d + 2) 0 0 [] 177 79 [some (.ref 53), some (.int x1), some (.int x2), some (.int x3), some (.int x4), some (.int x5), none, none, none] [] (hM p σ τ) ?_
  show xv l Ω (d + 2) 0 0 177 84 [some (.ref 53), some (.int x1), some (.int x2), some (.int x3), some (.int x4), some (.int x5), none, none, none] [.int 1] (hM p σ τ) r
  exact xv_sub (L' := [some (.ref 53), some (.int x1), some (.int x2), some (.int x3), some (.int x4), some (.int x5), none, none, none]) ⟨rfl, ⟨rfl, ⟨rfl, ⟨rfl, ⟨rfl, ⟨rfl, trivial⟩⟩⟩⟩⟩⟩ (g177_84_ok htr d p τ x1 x2 x3 x4 x5 1 σ r H)
theorem g177_83_ok {l : Launch} {Ω : xo_O} (htr : xH l) (d : Nat) (p : Nat) (τ : Nat → Nat → Int64) (x1 : Int32) (x2 : Int32) (x3 : Int32) (x4 : Int32) (x5 : Int32) (σ : xS) (r : xv_R) (H : xo (xB false p τ r) (g177_83 x1 x2 x3 x4 x5 σ)) : xv l Ω (d + 2) 0 0 177 83 [some (.ref 53), some (.int x1), some (.int x2), some (.int x3), some (.int x4), some (.int x5), none, none, none] [] (hM p σ τ) r := by
  unfold g177_83 at H
  refine xp_ok htr 1 (d + 2) 0 0 [] 177 83 [some (.ref 53), some (.int x1), some (.int x2), some (.int x3), some (.int x4), some (.int x5), none, none, none] [] (hM p σ τ) ?_
  show xv l Ω (d + 2) 0 0 177 84 [some (.ref 53), some (.int x1), some (.int x2), some (.int x3), some (.int x4), some (.int x5), none, none, none] [.int 0] (hM p σ τ) r
  exact xv_sub (L' := [some (.ref 53), some (.int x1), some (.int x2), some (.int x3), some (.int x4), some (.int x5), none, none, none]) ⟨rfl, ⟨rfl, ⟨rfl, ⟨rfl, ⟨rfl, ⟨rfl, trivial⟩⟩⟩⟩⟩⟩ (g177_84_ok htr d p τ x1 x2 x3 x4 x5 0 σ r H)
theorem g177_65_ok {l : Launch} {Ω : xo_O} (htr : xH l) (d : Nat) (p : Nat) (τ : Nat → Nat → Int64) (x1 : Int32) (x2 : Int32) (x3 : Int32) (x4 : Int32) (x5 : Int32) (σ : xS) (r : xv_R) (H : xo (xB false p τ r) (g177_65 x1 x2 x3 x4 x5 σ)) : xv l Ω (d + 2) 0 0 177 65 [some (.ref 53), some (.int x1), some (.int x2), some (.int x3), some (.int x4), some (.int x5), none, none, none] [] (hM p σ τ) r := by
  unfold g177_65 at H
  by_cases h36 : x4 = 114
  · rw [if_pos h36] at H
    refine xp_ok htr 3 (d + 2) 0 0 [eB true] 177 65 [some (.ref 53), some (.int x1), some (.int x2), some (.int x3), some (.int x4), some (.int x5), none, none, none] [] (hM p σ τ) ⟨h36, ?_⟩
    show xv l Ω (d + 2) 0 0 177 83 [some (.ref 53), some (.int x1), some (.int x2), some (.int x3), some (.int x4), some (.int x5), none, none, none] [] (hM p σ τ) r
    exact xv_sub (L' := [some (.ref 53), some (.int x1), some (.int x2), some (.int x3), some (.int x4), some (.int x5), none, none, none]) ⟨rfl, ⟨rfl, ⟨rfl, ⟨rfl, ⟨rfl, ⟨rfl, trivial⟩⟩⟩⟩⟩⟩ (g177_83_ok htr d p τ x1 x2 x3 x4 x5 σ r H)
  · rw [if_neg h36] at H
    refine xp_ok htr 3 (d + 2) 0 0 [eB false] 177 65 [some (.ref 53), some (.int x1), some (.int x2), some (.int x3), some (.int x4), some (.int x5), none, none, none] [] (hM p σ τ) ⟨h36, ?_⟩
    show xv l Ω (d + 2) 0 0 177 72 [some (.ref 53), some (.int x1), some (.int x2), some (.int x3), some (.int x4), some (.int x5), none, none, none] [] (hM p σ τ) r
    by_cases h37 : x4 = 117
    · rw [if_pos h37] at H
      refine xp_ok htr 3 (d + 2) 0 0 [eB true] 177 72 [some (.ref 53), some (.int x1), some (.int x2), some (.int x3), some (.int x4), some (.int x5), none, none, none] [] (hM p σ τ) ⟨h37, ?_⟩
      show xv l Ω (d + 2) 0 0 177 83 [some (.ref 53), some (.int x1), some (.int x2), some (.int x3), some (.int x4), some (.int x5), none, none, none] [] (hM p σ τ) r
      exact xv_sub (L' := [some (.ref 53), some (.int x1), some (.int x2), some (.int x3), some (.int x4), some (.int x5), none, none, none]) ⟨rfl, ⟨rfl, ⟨rfl, ⟨rfl, ⟨rfl, ⟨rfl, trivial⟩⟩⟩⟩⟩⟩ (g177_83_ok htr d p τ x1 x2 x3 x4 x5 σ r H)
    · rw [if_neg h37] at H
      refine xp_ok htr 3 (d + 2) 0 0 [eB false] 177 72 [some (.ref 53), some (.int x1), some (.int x2), some (.int x3), some (.int x4), some (.int x5), none, none, none] [] (hM p σ τ) ⟨h37, ?_⟩
      show xv l Ω (d + 2) 0 0 177 79 [some (.ref 53), some (.int x1), some (.int x2), some (.int x3), some (.int x4), some (.int x5), none, none, none] [] (hM p σ τ) r
      exact xv_sub (L' := [some (.ref 53), some (.int x1), some (.int x2), some (.int x3), some (.int x4), some (.int x5), none, none, none]) ⟨rfl, ⟨rfl, ⟨rfl, ⟨rfl, ⟨rfl, ⟨rfl, trivial⟩⟩⟩⟩⟩⟩ (g177_79_ok htr d p τ x1 x2 x3 x4 x5 σ r H)
theorem g177_run {l : Launch} {Ω : xo_O} (htr : xH l) (d : Nat) (p : Nat) (τ : Nat → Nat → Int64) (a1 : Int32) (a2 : Int32) (σ : xS) {q : xQ} (hq : g177 a1 a2 σ = some q) : xv l Ω (d + 2) 0 0 177 0 (xs_loc (xm_l 177) [.ref 53, .int a1, .int a2]) [] (hM p σ τ) (xq_R false p τ q) := by
  have H : xo (xB false p τ (xq_R false p τ q)) (g177 a1 a2 σ) := by rw [hq]; exact rfl
  generalize xq_R false p τ q = r at H ⊢
  show xv l Ω (d + 2) 0 0 177 0 [some (.ref 53), some (.int a1), some (.int a2), none, none, none, none, none, none] [] (hM p σ τ) r
  unfold g177 at H
  cases q3 : g173 σ with
  | none => rw [q3] at H; exact False.elim H
  | some q30 =>
    obtain ⟨v1 | v1, s2⟩ := q30
    · rw [q3] at H; dsimp only at H
      have hc := g173_run (Ω := Ω) htr (d + 1) p τ  σ q3
      refine xp_ok htr 7 (d + 2) 0 0 [eC (some (.int v1)) (hM p s2 τ)] 177 0 [some (.ref 53), some (.int a1), some (.int a2), none, none, none, none, none, none] [] (hM p σ τ) ⟨hc, ?_⟩
      show xv l Ω (d + 2) 0 0 177 12 [some (.ref 53), some (.int a1), some (.int a2), some (.int (100 + (σ 53 31))), none, none, none, none, none] [.int v1] (hM p s2 τ) r
      cases q6 : g178 v1 s2 with
      | none => rw [q6] at H; exact False.elim H
      | some q60 =>
        obtain ⟨v4 | v4, s5⟩ := q60
        · rw [q6] at H; dsimp only at H
          have hc := g178_run (Ω := Ω) htr (d + 1) p τ v1 s2 q6
          refine xp_ok htr 3 (d + 2) 0 0 [eC (some (.int v4)) (hM p s5 τ)] 177 12 [some (.ref 53), some (.int a1), some (.int a2), some (.int (100 + (σ 53 31))), none, none, none, none, none] [.int v1] (hM p s2 τ) ⟨hc, ?_⟩
          show xv l Ω (d + 2) 0 0 177 19 [some (.ref 53), some (.int a1), some (.int a2), some (.int (100 + (σ 53 31))), some (.int v1), none, none, none, none] [.int v4] (hM p s5 τ) r
          by_cases h7 : v4 = 0
          · rw [if_pos h7] at H
            refine xp_ok htr 1 (d + 2) 0 0 [eB false] 177 19 [some (.ref 53), some (.int a1), some (.int a2), some (.int (100 + (σ 53 31))), some (.int v1), none, none, none, none] [.int v4] (hM p s5 τ) ⟨h7, ?_⟩
            show xv l Ω (d + 2) 0 0 177 22 [some (.ref 53), some (.int a1), some (.int a2), some (.int (100 + (σ 53 31))), some (.int v1), none, none, none, none] [] (hM p s5 τ) r
            cases q10 : g175 s5 with
            | none => rw [q10] at H; exact False.elim H
            | some q100 =>
              obtain ⟨v8 | v8, s9⟩ := q100
              · rw [q10] at H; dsimp only at H
                have hc := g175_run (Ω := Ω) htr (d + 1) p τ  s5 q10
                refine xp_ok htr 2 (d + 2) 0 0 [eC none (hM p s9 τ)] 177 22 [some (.ref 53), some (.int a1), some (.int a2), some (.int (100 + (σ 53 31))), some (.int v1), none, none, none, none] [] (hM p s5 τ) ⟨hc, ?_⟩
                show xv l Ω (d + 2) 0 0 177 26 [some (.ref 53), some (.int a1), some (.int a2), some (.int (100 + (σ 53 31))), some (.int v1), none, none, none, none] [] (hM p s9 τ) r
                exact xp_ok htr 2 (d + 2) 0 0 [] 177 26 [some (.ref 53), some (.int a1), some (.int a2), some (.int (100 + (σ 53 31))), some (.int v1), none, none, none, none] [] (hM p s9 τ) ⟨trivial, (Eq.symm H)⟩
              · rw [q10] at H; exact False.elim H
          · rw [if_neg h7] at H
            refine xp_ok htr 1 (d + 2) 0 0 [eB true] 177 19 [some (.ref 53), some (.int a1), some (.int a2), some (.int (100 + (σ 53 31))), some (.int v1), none, none, none, none] [.int v4] (hM p s5 τ) ⟨h7, ?_⟩
            show xv l Ω (d + 2) 0 0 177 28 [some (.ref 53), some (.int a1), some (.int a2), some (.int (100 + (σ 53 31))), some (.int v1), none, none, none, none] [] (hM p s5 τ) r
            cases q13 : g173 (xh_ui s5 53 19 ((s5 53 19) + 1)) with
            | none => rw [q13] at H; exact False.elim H
            | some q130 =>
              obtain ⟨v11 | v11, s12⟩ := q130
              · rw [q13] at H; dsimp only at H
                have hc := g173_run (Ω := Ω) htr (d + 1) p τ  (xh_ui s5 53 19 ((s5 53 19) + 1)) q13
                refine xp_ok htr 8 (d + 2) 0 0 [eC (some (.int v11)) (hM p s12 τ)] 177 28 [some (.ref 53), some (.int a1), some (.int a2), some (.int (100 + (σ 53 31))), some (.int v1), none, none, none, none] [] (hM p s5 τ) ⟨hc, ?_⟩
                show xv l Ω (d + 2) 0 0 177 42 [some (.ref 53), some (.int a1), some (.int a2), some (.int (100 + (σ 53 31))), some (.int v1), none, none, none, none] [.int v11] (hM p s12 τ) r
                by_cases h14 : v11 = 61
                · rw [if_pos h14] at H
                  refine xp_ok htr 4 (d + 2) 0 0 [eB true] 177 42 [some (.ref 53), some (.int a1), some (.int a2), some (.int (100 + (σ 53 31))), some (.int v1), none, none, none, none] [.int v11] (hM p s12 τ) ⟨h14, ?_⟩
                  show xv l Ω (d + 2) 0 0 177 79 [some (.ref 53), some (.int a1), some (.int a2), some (.int (100 + (σ 53 31))), some (.int v1), some (.int v11), none, none, none] [] (hM p s12 τ) r
                  exact xv_sub (L' := [some (.ref 53), some (.int a1), some (.int a2), some (.int (100 + (σ 53 31))), some (.int v1), some (.int v11), none, none, none]) ⟨rfl, ⟨rfl, ⟨rfl, ⟨rfl, ⟨rfl, ⟨rfl, trivial⟩⟩⟩⟩⟩⟩ (g177_79_ok htr d p τ a1 a2 (100 + (σ 53 31)) v1 v11 s12 r H)
                · rw [if_neg h14] at H
                  refine xp_ok htr 4 (d + 2) 0 0 [eB false] 177 42 [some (.ref 53), some (.int a1), some (.int a2), some (.int (100 + (σ 53 31))), some (.int v1), none, none, none, none] [.int v11] (hM p s12 τ) ⟨h14, ?_⟩
                  show xv l Ω (d + 2) 0 0 177 51 [some (.ref 53), some (.int a1), some (.int a2), some (.int (100 + (σ 53 31))), some (.int v1), some (.int v11), none, none, none] [] (hM p s12 τ) r
                  by_cases h35 : v11 = 60
                  · rw [if_pos h35] at H
                    refine xp_ok htr 3 (d + 2) 0 0 [eB true] 177 51 [some (.ref 53), some (.int a1), some (.int a2), some (.int (100 + (σ 53 31))), some (.int v1), some (.int v11), none, none, none] [] (hM p s12 τ) ⟨h35, ?_⟩
                    show xv l Ω (d + 2) 0 0 177 65 [some (.ref 53), some (.int a1), some (.int a2), some (.int (100 + (σ 53 31))), some (.int v1), some (.int v11), none, none, none] [] (hM p s12 τ) r
                    exact xv_sub (L' := [some (.ref 53), some (.int a1), some (.int a2), some (.int (100 + (σ 53 31))), some (.int v1), some (.int v11), none, none, none]) ⟨rfl, ⟨rfl, ⟨rfl, ⟨rfl, ⟨rfl, ⟨rfl, trivial⟩⟩⟩⟩⟩⟩ (g177_65_ok htr d p τ a1 a2 (100 + (σ 53 31)) v1 v11 s12 r H)
                  · rw [if_neg h35] at H
                    refine xp_ok htr 3 (d + 2) 0 0 [eB false] 177 51 [some (.ref 53), some (.int a1), some (.int a2), some (.int (100 + (σ 53 31))), some (.int v1), some (.int v11), none, none, none] [] (hM p s12 τ) ⟨h35, ?_⟩
                    show xv l Ω (d + 2) 0 0 177 58 [some (.ref 53), some (.int a1), some (.int a2), some (.int (100 + (σ 53 31))), some (.int v1), some (.int v11), none, none, none] [] (hM p s12 τ) r
                    by_cases h38 : v11 = 62
                    · rw [if_pos h38] at H
                      refine xp_ok htr 3 (d + 2) 0 0 [eB false] 177 58 [some (.ref 53), some (.int a1), some (.int a2), some (.int (100 + (σ 53 31))), some (.int v1), some (.int v11), none, none, none] [] (hM p s12 τ) ⟨h38, ?_⟩
                      show xv l Ω (d + 2) 0 0 177 65 [some (.ref 53), some (.int a1), some (.int a2), some (.int (100 + (σ 53 31))), some (.int v1), some (.int v11), none, none, none] [] (hM p s12 τ) r
                      exact xv_sub (L' := [some (.ref 53), some (.int a1), some (.int a2), some (.int (100 + (σ 53 31))), some (.int v1), some (.int v11), none, none, none]) ⟨rfl, ⟨rfl, ⟨rfl, ⟨rfl, ⟨rfl, ⟨rfl, trivial⟩⟩⟩⟩⟩⟩ (g177_65_ok htr d p τ a1 a2 (100 + (σ 53 31)) v1 v11 s12 r H)
                    · rw [if_neg h38] at H
                      refine xp_ok htr 3 (d + 2) 0 0 [eB true] 177 58 [some (.ref 53), some (.int a1), some (.int a2), some (.int (100 + (σ 53 31))), some (.int v1), some (.int v11), none, none, none] [] (hM p s12 τ) ⟨h38, ?_⟩
                      show xv l Ω (d + 2) 0 0 177 83 [some (.ref 53), some (.int a1), some (.int a2), some (.int (100 + (σ 53 31))), some (.int v1), some (.int v11), none, none, none] [] (hM p s12 τ) r
                      exact xv_sub (L' := [some (.ref 53), some (.int a1), some (.int a2), some (.int (100 + (σ 53 31))), some (.int v1), some (.int v11), none, none, none]) ⟨rfl, ⟨rfl, ⟨rfl, ⟨rfl, ⟨rfl, ⟨rfl, trivial⟩⟩⟩⟩⟩⟩ (g177_83_ok htr d p τ a1 a2 (100 + (σ 53 31)) v1 v11 s12 r H)
              · rw [q13] at H; exact False.elim H
        · rw [q6] at H; exact False.elim H
    · rw [q3] at H; exact False.elim H
/- AccessDeskModel.take -/
def g180 (a1 : Int32) (σ : xS) : xO := (match g173 σ with | some (Sum.inl v1, s2) => (if v1 = a1 then some ((Sum.inl 0, (xh_ui s2 53 19 ((s2 53 19) + 1)))) else (match g175 s2 with | some (Sum.inl v5, s6) => some ((Sum.inl 0, s6)) | some (Sum.inr v5, s6) => none | none => none)) | some (Sum.inr v1, s2) => none | none => none)
theorem g180_run {l : Launch} {Ω : xo_O} (htr : xH l) (d : Nat) (p : Nat) (τ : Nat → Nat → Int64) (a1 : Int32) (σ : xS) {q : xQ} (hq : g180 a1 σ = some q) : xv l Ω (d + 1) 0 0 180 0 (xs_loc (xm_l 180) [.ref 53, .int a1]) [] (hM p σ τ) (xq_R true p τ q) := by
  have H : xo (xB true p τ (xq_R true p τ q)) (g180 a1 σ) := by rw [hq]; exact rfl
  generalize xq_R true p τ q = r at H ⊢
  show xv l Ω (d + 1) 0 0 180 0 [some (.ref 53), some (.int a1)] [] (hM p σ τ) r
  unfold g180 at H
  cases q3 : g173 σ with
  | none => rw [q3] at H; exact False.elim H
  | some q30 =>
    obtain ⟨v1 | v1, s2⟩ := q30
    · rw [q3] at H; dsimp only at H
      have hc := g173_run (Ω := Ω) htr d p τ  σ q3
      refine xp_ok htr 2 (d + 1) 0 0 [eC (some (.int v1)) (hM p s2 τ)] 180 0 [some (.ref 53), some (.int a1)] [] (hM p σ τ) ⟨hc, ?_⟩
      show xv l Ω (d + 1) 0 0 180 4 [some (.ref 53), some (.int a1)] [.int v1] (hM p s2 τ) r
      by_cases h4 : v1 = a1
      · rw [if_pos h4] at H
        refine xp_ok htr 2 (d + 1) 0 0 [eB false] 180 4 [some (.ref 53), some (.int a1)] [.int v1] (hM p s2 τ) ⟨h4, ?_⟩
        show xv l Ω (d + 1) 0 0 180 8 [some (.ref 53), some (.int a1)] [] (hM p s2 τ) r
        exact xp_ok htr 8 (d + 1) 0 0 [] 180 8 [some (.ref 53), some (.int a1)] [] (hM p s2 τ) ⟨trivial, (Eq.symm H)⟩
      · rw [if_neg h4] at H
        refine xp_ok htr 2 (d + 1) 0 0 [eB true] 180 4 [some (.ref 53), some (.int a1)] [.int v1] (hM p s2 τ) ⟨h4, ?_⟩
        show xv l Ω (d + 1) 0 0 180 21 [some (.ref 53), some (.int a1)] [] (hM p s2 τ) r
        cases q7 : g175 s2 with
        | none => rw [q7] at H; exact False.elim H
        | some q70 =>
          obtain ⟨v5 | v5, s6⟩ := q70
          · rw [q7] at H; dsimp only at H
            have hc := g175_run (Ω := Ω) htr d p τ  s2 q7
            refine xp_ok htr 2 (d + 1) 0 0 [eC none (hM p s6 τ)] 180 21 [some (.ref 53), some (.int a1)] [] (hM p s2 τ) ⟨hc, ?_⟩
            show xv l Ω (d + 1) 0 0 180 25 [some (.ref 53), some (.int a1)] [] (hM p s6 τ) r
            exact xp_ok htr 1 (d + 1) 0 0 [] 180 25 [some (.ref 53), some (.int a1)] [] (hM p s6 τ) ⟨trivial, (Eq.symm H)⟩
          · rw [q7] at H; exact False.elim H
    · rw [q3] at H; exact False.elim H
/- AccessDeskModel.takeTarget -/
def g176_138 (x1 : Int32) (σ : xS) : Option xQ := (bif xn x1 80 then some ((Sum.inl 0, (xh_ui σ 74 (Int32.toNatClampNeg x1) (100 + (σ 53 31))))) else none)
def g176_125 (x1 : Int32) (σ : xS) : Option xQ := (match g171 σ with | some (Sum.inl v18, s19) => (if v18 = 0 then g176_138 x1 s19 else (match g180 93 s19 with | some (Sum.inl v22, s23) => g176_138 x1 s23 | some (Sum.inr v22, s23) => none | none => none)) | some (Sum.inr v18, s19) => none | none => none)
def g176_118 (x1 : Int32) (k1 : Int32) (k2 : Int32) (σ : xS) : Option ((Int32 × xS) ⊕ xQ) := (match g177 k1 k2 σ with | some (Sum.inl v34, s35) => some (Sum.inl (x1, s35)) | some (Sum.inr v34, s35) => none | none => none)
def g176_107 (x1 : Int32) (x2 : Int32) (k1 : Int32) (σ : xS) : Option ((Int32 × xS) ⊕ xQ) := (if x2 = 38 then g176_118 x1 k1 1 σ else g176_118 x1 k1 0 σ)
def g176_80 (x1 : Int32) (σ : xS) : Option ((Int32 × xS) ⊕ xQ) := (match g173 σ with | some (Sum.inl v29, s30) => (if v29 = 44 then g176_107 x1 v29 0 (xh_ui s30 53 19 ((s30 53 19) + 1)) else g176_107 x1 v29 1 (xh_ui s30 53 19 ((s30 53 19) + 1))) | some (Sum.inr v29, s30) => none | none => none)
def g176_46b (x1 : Int32) (σ : xS) : Option ((Int32 × xS) ⊕ xQ) := (match g171 σ with | some (Sum.inl v14, s15) => (if v14 = 0 then Option.map Sum.inr (g176_125 x1 s15) else (match g173 s15 with | some (Sum.inl v25, s26) => (if v25 = 44 then g176_80 x1 s26 else (match g173 s26 with | some (Sum.inl v37, s38) => (if v37 = 124 then g176_80 x1 s38 else (match g173 s38 with | some (Sum.inl v41, s42) => (if v41 = 38 then g176_80 x1 s42 else Option.map Sum.inr (g176_125 x1 s42)) | some (Sum.inr v41, s42) => none | none => none)) | some (Sum.inr v37, s38) => none | none => none)) | some (Sum.inr v25, s26) => none | none => none)) | some (Sum.inr v14, s15) => none | none => none)
def g176_46 (x1 : Int32) (σ : xS) : Option xQ := xlo (fun a : Int32 × xS => g176_46b a.1 a.2) 1000 (x1, σ)
def g176 (a1 : Int32) (σ : xS) : xO := (bif xn a1 80 then (match g171 (xh_ui σ 73 (Int32.toNatClampNeg a1) (100 + (σ 53 31))) with | some (Sum.inl v2, s3) => (if v2 = 0 then g176_138 a1 s3 else (match g173 s3 with | some (Sum.inl v7, s8) => (if v7 = 91 then (match g177 1 1 (xh_ui s8 53 19 ((s8 53 19) + 1)) with | some (Sum.inl v11, s12) => g176_46 a1 s12 | some (Sum.inr v11, s12) => none | none => none) else g176_138 a1 s8) | some (Sum.inr v7, s8) => none | none => none)) | some (Sum.inr v2, s3) => none | none => none) else none)
def a176_46 (l : Launch) (Ω : xo_O) (d p : Nat) (τ : Nat → Nat → Int64) (r : xv_R) : Int32 × xS → Prop := fun a => xv l Ω (d + 3) 0 0 176 46 [some (.ref 53), some (.int a.1), none] [] (hM p a.2 τ) r
theorem g176_138_ok {l : Launch} {Ω : xo_O} (htr : xH l) (d : Nat) (p : Nat) (τ : Nat → Nat → Int64) (x1 : Int32) (σ : xS) (r : xv_R) (H : xo (xB true p τ r) (g176_138 x1 σ)) : xv l Ω (d + 3) 0 0 176 138 [some (.ref 53), some (.int x1), none] [] (hM p σ τ) r := by
  unfold g176_138 at H
  cases g6 : xn x1 80 with
  | false => rw [g6, cond_false] at H; exact False.elim H
  | true =>
    rw [g6, cond_true] at H
    refine xp_ok htr 8 (d + 3) 0 0 [] 176 138 [some (.ref 53), some (.int x1), none] [] (hM p σ τ) ⟨(xn_in g6), ?_⟩
    show xv l Ω (d + 3) 0 0 176 151 [some (.ref 53), some (.int x1), none] [] (hM p (xh_ui σ 74 (Int32.toNatClampNeg x1) (100 + (σ 53 31))) τ) r
    exact xp_ok htr 1 (d + 3) 0 0 [] 176 151 [some (.ref 53), some (.int x1), none] [] (hM p (xh_ui σ 74 (Int32.toNatClampNeg x1) (100 + (σ 53 31))) τ) ⟨trivial, (Eq.symm H)⟩
theorem g176_125_ok {l : Launch} {Ω : xo_O} (htr : xH l) (d : Nat) (p : Nat) (τ : Nat → Nat → Int64) (x1 : Int32) (σ : xS) (r : xv_R) (H : xo (xB true p τ r) (g176_125 x1 σ)) : xv l Ω (d + 3) 0 0 176 125 [some (.ref 53), some (.int x1), none] [] (hM p σ τ) r := by
  unfold g176_125 at H
  cases q20 : g171 σ with
  | none => rw [q20] at H; exact False.elim H
  | some q200 =>
    obtain ⟨v18 | v18, s19⟩ := q200
    · rw [q20] at H; dsimp only at H
      have hc := g171_run (Ω := Ω) htr (d + 2) p τ  σ q20
      refine xp_ok htr 2 (d + 3) 0 0 [eC (some (.int v18)) (hM p s19 τ)] 176 125 [some (.ref 53), some (.int x1), none] [] (hM p σ τ) ⟨hc, ?_⟩
      show xv l Ω (d + 3) 0 0 176 129 [some (.ref 53), some (.int x1), none] [.int v18] (hM p s19 τ) r
      by_cases h21 : v18 = 0
      · rw [if_pos h21] at H
        refine xp_ok htr 1 (d + 3) 0 0 [eB true] 176 129 [some (.ref 53), some (.int x1), none] [.int v18] (hM p s19 τ) ⟨h21, ?_⟩
        show xv l Ω (d + 3) 0 0 176 138 [some (.ref 53), some (.int x1), none] [] (hM p s19 τ) r
        exact xv_sub (L' := [some (.ref 53), some (.int x1), none]) ⟨rfl, ⟨rfl, trivial⟩⟩ (g176_138_ok htr d p τ x1 s19 r H)
      · rw [if_neg h21] at H
        refine xp_ok htr 1 (d + 3) 0 0 [eB false] 176 129 [some (.ref 53), some (.int x1), none] [.int v18] (hM p s19 τ) ⟨h21, ?_⟩
        show xv l Ω (d + 3) 0 0 176 132 [some (.ref 53), some (.int x1), none] [] (hM p s19 τ) r
        cases q24 : g180 93 s19 with
        | none => rw [q24] at H; exact False.elim H
        | some q240 =>
          obtain ⟨v22 | v22, s23⟩ := q240
          · rw [q24] at H; dsimp only at H
            have hc := g180_run (Ω := Ω) htr (d + 1) p τ 93 s19 q24
            refine xp_ok htr 3 (d + 3) 0 0 [eC none (hM p s23 τ)] 176 132 [some (.ref 53), some (.int x1), none] [] (hM p s19 τ) ⟨hc, ?_⟩
            show xv l Ω (d + 3) 0 0 176 138 [some (.ref 53), some (.int x1), none] [] (hM p s23 τ) r
            exact xv_sub (L' := [some (.ref 53), some (.int x1), none]) ⟨rfl, ⟨rfl, trivial⟩⟩ (g176_138_ok htr d p τ x1 s23 r H)
          · rw [q24] at H; exact False.elim H
    · rw [q20] at H; exact False.elim H
theorem g176_118_ok {l : Launch} {Ω : xo_O} (htr : xH l) (d : Nat) (p : Nat) (τ : Nat → Nat → Int64) (x1 : Int32) (k1 : Int32) (k2 : Int32) (σ : xS) (r : xv_R) (H : xo (xd (a176_46 l Ω d p τ r) (xB true p τ r)) (g176_118 x1 k1 k2 σ)) : xv l Ω (d + 3) 0 0 176 118 [some (.ref 53), some (.int x1), none] [.int k2, .int k1, .ref 53] (hM p σ τ) r := by
  unfold g176_118 at H
  cases q36 : g177 k1 k2 σ with
  | none => rw [q36] at H; exact False.elim H
  | some q360 =>
    obtain ⟨v34 | v34, s35⟩ := q360
    · rw [q36] at H; dsimp only at H
      have hc := g177_run (Ω := Ω) htr d p τ k1 k2 σ q36
      refine xp_ok htr 1 (d + 3) 0 0 [eC (some (.int v34)) (hM p s35 τ)] 176 118 [some (.ref 53), some (.int x1), none] [.int k2, .int k1, .ref 53] (hM p σ τ) ⟨hc, ?_⟩
      show xv l Ω (d + 3) 0 0 176 121 [some (.ref 53), some (.int x1), none] [.int v34] (hM p s35 τ) r
      refine xp_ok htr 2 (d + 3) 0 0 [] 176 121 [some (.ref 53), some (.int x1), none] [.int v34] (hM p s35 τ) ?_
      show xv l Ω (d + 3) 0 0 176 46 [some (.ref 53), some (.int x1), none] [] (hM p s35 τ) r
      exact xv_sub (L' := [some (.ref 53), some (.int x1), none]) ⟨rfl, ⟨rfl, trivial⟩⟩ H
    · rw [q36] at H; exact False.elim H
theorem g176_107_ok {l : Launch} {Ω : xo_O} (htr : xH l) (d : Nat) (p : Nat) (τ : Nat → Nat → Int64) (x1 : Int32) (x2 : Int32) (k1 : Int32) (σ : xS) (r : xv_R) (H : xo (xd (a176_46 l Ω d p τ r) (xB true p τ r)) (g176_107 x1 x2 k1 σ)) : xv l Ω (d + 3) 0 0 176 107 [some (.ref 53), some (.int x1), some (.int x2)] [.int k1, .ref 53] (hM p σ τ) r := by
  unfold g176_107 at H
  by_cases h33 : x2 = 38
  · rw [if_pos h33] at H
    refine xp_ok htr 3 (d + 3) 0 0 [eB false] 176 107 [some (.ref 53), some (.int x1), some (.int x2)] [.int k1, .ref 53] (hM p σ τ) ⟨h33, ?_⟩
    show xv l Ω (d + 3) 0 0 176 113 [some (.ref 53), some (.int x1), some (.int x2)] [.int k1, .ref 53] (hM p σ τ) r
    refine xp_ok htr 2 (d + 3) 0 0 [] 176 113 [some (.ref 53), some (.int x1), some (.int x2)] [.int k1, .ref 53] (hM p σ τ) ?_
    show xv l Ω (d + 3) 0 0 176 118 [some (.ref 53), some (.int x1), some (.int x2)] [.int 1, .int k1, .ref 53] (hM p σ τ) r
    exact xv_sub (L' := [some (.ref 53), some (.int x1), none]) ⟨rfl, ⟨rfl, trivial⟩⟩ (g176_118_ok htr d p τ x1 k1 1 σ r H)
  · rw [if_neg h33] at H
    refine xp_ok htr 3 (d + 3) 0 0 [eB true] 176 107 [some (.ref 53), some (.int x1), some (.int x2)] [.int k1, .ref 53] (hM p σ τ) ⟨h33, ?_⟩
    show xv l Ω (d + 3) 0 0 176 117 [some (.ref 53), some (.int x1), some (.int x2)] [.int k1, .ref 53] (hM p σ τ) r
    refine xp_ok htr 1 (d + 3) 0 0 [] 176 117 [some (.ref 53), some (.int x1), some (.int x2)] [.int k1, .ref 53] (hM p σ τ) ?_
    show xv l Ω (d + 3) 0 0 176 118 [some (.ref 53), some (.int x1), some (.int x2)] [.int 0, .int k1, .ref 53] (hM p σ τ) r
    exact xv_sub (L' := [some (.ref 53), some (.int x1), none]) ⟨rfl, ⟨rfl, trivial⟩⟩ (g176_118_ok htr d p τ x1 k1 0 σ r H)
theorem g176_80_ok {l : Launch} {Ω : xo_O} (htr : xH l) (d : Nat) (p : Nat) (τ : Nat → Nat → Int64) (x1 : Int32) (σ : xS) (r : xv_R) (H : xo (xd (a176_46 l Ω d p τ r) (xB true p τ r)) (g176_80 x1 σ)) : xv l Ω (d + 3) 0 0 176 80 [some (.ref 53), some (.int x1), none] [] (hM p σ τ) r := by
  unfold g176_80 at H
  cases q31 : g173 σ with
  | none => rw [q31] at H; exact False.elim H
  | some q310 =>
    obtain ⟨v29 | v29, s30⟩ := q310
    · rw [q31] at H; dsimp only at H
      have hc := g173_run (Ω := Ω) htr (d + 2) p τ  σ q31
      refine xp_ok htr 2 (d + 3) 0 0 [eC (some (.int v29)) (hM p s30 τ)] 176 80 [some (.ref 53), some (.int x1), none] [] (hM p σ τ) ⟨hc, ?_⟩
      show xv l Ω (d + 3) 0 0 176 84 [some (.ref 53), some (.int x1), none] [.int v29] (hM p s30 τ) r
      refine xp_ok htr 8 (d + 3) 0 0 [] 176 84 [some (.ref 53), some (.int x1), none] [.int v29] (hM p s30 τ) ?_
      show xv l Ω (d + 3) 0 0 176 96 [some (.ref 53), some (.int x1), some (.int v29)] [.ref 53] (hM p (xh_ui s30 53 19 ((s30 53 19) + 1)) τ) r
      by_cases h32 : v29 = 44
      · rw [if_pos h32] at H
        refine xp_ok htr 3 (d + 3) 0 0 [eB true] 176 96 [some (.ref 53), some (.int x1), some (.int v29)] [.ref 53] (hM p (xh_ui s30 53 19 ((s30 53 19) + 1)) τ) ⟨h32, ?_⟩
        show xv l Ω (d + 3) 0 0 176 106 [some (.ref 53), some (.int x1), some (.int v29)] [.ref 53] (hM p (xh_ui s30 53 19 ((s30 53 19) + 1)) τ) r
        refine xp_ok htr 1 (d + 3) 0 0 [] 176 106 [some (.ref 53), some (.int x1), some (.int v29)] [.ref 53] (hM p (xh_ui s30 53 19 ((s30 53 19) + 1)) τ) ?_
        show xv l Ω (d + 3) 0 0 176 107 [some (.ref 53), some (.int x1), some (.int v29)] [.int 0, .ref 53] (hM p (xh_ui s30 53 19 ((s30 53 19) + 1)) τ) r
        exact xv_sub (L' := [some (.ref 53), some (.int x1), some (.int v29)]) ⟨rfl, ⟨rfl, ⟨rfl, trivial⟩⟩⟩ (g176_107_ok htr d p τ x1 v29 0 (xh_ui s30 53 19 ((s30 53 19) + 1)) r H)
      · rw [if_neg h32] at H
        refine xp_ok htr 3 (d + 3) 0 0 [eB false] 176 96 [some (.ref 53), some (.int x1), some (.int v29)] [.ref 53] (hM p (xh_ui s30 53 19 ((s30 53 19) + 1)) τ) ⟨h32, ?_⟩
        show xv l Ω (d + 3) 0 0 176 102 [some (.ref 53), some (.int x1), some (.int v29)] [.ref 53] (hM p (xh_ui s30 53 19 ((s30 53 19) + 1)) τ) r
        refine xp_ok htr 2 (d + 3) 0 0 [] 176 102 [some (.ref 53), some (.int x1), some (.int v29)] [.ref 53] (hM p (xh_ui s30 53 19 ((s30 53 19) + 1)) τ) ?_
        show xv l Ω (d + 3) 0 0 176 107 [some (.ref 53), some (.int x1), some (.int v29)] [.int 1, .ref 53] (hM p (xh_ui s30 53 19 ((s30 53 19) + 1)) τ) r
        exact xv_sub (L' := [some (.ref 53), some (.int x1), some (.int v29)]) ⟨rfl, ⟨rfl, ⟨rfl, trivial⟩⟩⟩ (g176_107_ok htr d p τ x1 v29 1 (xh_ui s30 53 19 ((s30 53 19) + 1)) r H)
    · rw [q31] at H; exact False.elim H
theorem g176_46b_ok {l : Launch} {Ω : xo_O} (htr : xH l) (d : Nat) (p : Nat) (τ : Nat → Nat → Int64) (x1 : Int32) (σ : xS) (r : xv_R) (H : xo (xd (a176_46 l Ω d p τ r) (xB true p τ r)) (g176_46b x1 σ)) : xv l Ω (d + 3) 0 0 176 46 [some (.ref 53), some (.int x1), none] [] (hM p σ τ) r := by
  unfold g176_46b at H
  cases q16 : g171 σ with
  | none => rw [q16] at H; exact False.elim H
  | some q160 =>
    obtain ⟨v14 | v14, s15⟩ := q160
    · rw [q16] at H; dsimp only at H
      have hc := g171_run (Ω := Ω) htr (d + 2) p τ  σ q16
      refine xp_ok htr 2 (d + 3) 0 0 [eC (some (.int v14)) (hM p s15 τ)] 176 46 [some (.ref 53), some (.int x1), none] [] (hM p σ τ) ⟨hc, ?_⟩
      show xv l Ω (d + 3) 0 0 176 50 [some (.ref 53), some (.int x1), none] [.int v14] (hM p s15 τ) r
      by_cases h17 : v14 = 0
      · rw [if_pos h17] at H
        refine xp_ok htr 1 (d + 3) 0 0 [eB true] 176 50 [some (.ref 53), some (.int x1), none] [.int v14] (hM p s15 τ) ⟨h17, ?_⟩
        show xv l Ω (d + 3) 0 0 176 125 [some (.ref 53), some (.int x1), none] [] (hM p s15 τ) r
        exact xv_sub (L' := [some (.ref 53), some (.int x1), none]) ⟨rfl, ⟨rfl, trivial⟩⟩ (g176_125_ok htr d p τ x1 s15 r (xo_map H))
      · rw [if_neg h17] at H
        refine xp_ok htr 1 (d + 3) 0 0 [eB false] 176 50 [some (.ref 53), some (.int x1), none] [.int v14] (hM p s15 τ) ⟨h17, ?_⟩
        show xv l Ω (d + 3) 0 0 176 53 [some (.ref 53), some (.int x1), none] [] (hM p s15 τ) r
        cases q27 : g173 s15 with
        | none => rw [q27] at H; exact False.elim H
        | some q270 =>
          obtain ⟨v25 | v25, s26⟩ := q270
          · rw [q27] at H; dsimp only at H
            have hc := g173_run (Ω := Ω) htr (d + 2) p τ  s15 q27
            refine xp_ok htr 2 (d + 3) 0 0 [eC (some (.int v25)) (hM p s26 τ)] 176 53 [some (.ref 53), some (.int x1), none] [] (hM p s15 τ) ⟨hc, ?_⟩
            show xv l Ω (d + 3) 0 0 176 57 [some (.ref 53), some (.int x1), none] [.int v25] (hM p s26 τ) r
            by_cases h28 : v25 = 44
            · rw [if_pos h28] at H
              refine xp_ok htr 2 (d + 3) 0 0 [eB true] 176 57 [some (.ref 53), some (.int x1), none] [.int v25] (hM p s26 τ) ⟨h28, ?_⟩
              show xv l Ω (d + 3) 0 0 176 80 [some (.ref 53), some (.int x1), none] [] (hM p s26 τ) r
              exact xv_sub (L' := [some (.ref 53), some (.int x1), none]) ⟨rfl, ⟨rfl, trivial⟩⟩ (g176_80_ok htr d p τ x1 s26 r H)
            · rw [if_neg h28] at H
              refine xp_ok htr 2 (d + 3) 0 0 [eB false] 176 57 [some (.ref 53), some (.int x1), none] [.int v25] (hM p s26 τ) ⟨h28, ?_⟩
              show xv l Ω (d + 3) 0 0 176 62 [some (.ref 53), some (.int x1), none] [] (hM p s26 τ) r
              cases q39 : g173 s26 with
              | none => rw [q39] at H; exact False.elim H
              | some q390 =>
                obtain ⟨v37 | v37, s38⟩ := q390
                · rw [q39] at H; dsimp only at H
                  have hc := g173_run (Ω := Ω) htr (d + 2) p τ  s26 q39
                  refine xp_ok htr 2 (d + 3) 0 0 [eC (some (.int v37)) (hM p s38 τ)] 176 62 [some (.ref 53), some (.int x1), none] [] (hM p s26 τ) ⟨hc, ?_⟩
                  show xv l Ω (d + 3) 0 0 176 66 [some (.ref 53), some (.int x1), none] [.int v37] (hM p s38 τ) r
                  by_cases h40 : v37 = 124
                  · rw [if_pos h40] at H
                    refine xp_ok htr 2 (d + 3) 0 0 [eB true] 176 66 [some (.ref 53), some (.int x1), none] [.int v37] (hM p s38 τ) ⟨h40, ?_⟩
                    show xv l Ω (d + 3) 0 0 176 80 [some (.ref 53), some (.int x1), none] [] (hM p s38 τ) r
                    exact xv_sub (L' := [some (.ref 53), some (.int x1), none]) ⟨rfl, ⟨rfl, trivial⟩⟩ (g176_80_ok htr d p τ x1 s38 r H)
                  · rw [if_neg h40] at H
                    refine xp_ok htr 2 (d + 3) 0 0 [eB false] 176 66 [some (.ref 53), some (.int x1), none] [.int v37] (hM p s38 τ) ⟨h40, ?_⟩
                    show xv l Ω (d + 3) 0 0 176 71 [some (.ref 53), some (.int x1), none] [] (hM p s38 τ) r
                    cases q43 : g173 s38 with
                    | none => rw [q43] at H; exact False.elim H
                    | some q430 =>
                      obtain ⟨v41 | v41, s42⟩ := q430
                      · rw [q43] at H; dsimp only at H
                        have hc := g173_run (Ω := Ω) htr (d + 2) p τ  s38 q43
                        refine xp_ok htr 2 (d + 3) 0 0 [eC (some (.int v41)) (hM p s42 τ)] 176 71 [some (.ref 53), some (.int x1), none] [] (hM p s38 τ) ⟨hc, ?_⟩
                        show xv l Ω (d + 3) 0 0 176 75 [some (.ref 53), some (.int x1), none] [.int v41] (hM p s42 τ) r
                        by_cases h44 : v41 = 38
                        · rw [if_pos h44] at H
                          refine xp_ok htr 2 (d + 3) 0 0 [eB false] 176 75 [some (.ref 53), some (.int x1), none] [.int v41] (hM p s42 τ) ⟨h44, ?_⟩
                          show xv l Ω (d + 3) 0 0 176 80 [some (.ref 53), some (.int x1), none] [] (hM p s42 τ) r
                          exact xv_sub (L' := [some (.ref 53), some (.int x1), none]) ⟨rfl, ⟨rfl, trivial⟩⟩ (g176_80_ok htr d p τ x1 s42 r H)
                        · rw [if_neg h44] at H
                          refine xp_ok htr 2 (d + 3) 0 0 [eB true] 176 75 [some (.ref 53), some (.int x1), none] [.int v41] (hM p s42 τ) ⟨h44, ?_⟩
                          show xv l Ω (d + 3) 0 0 176 125 [some (.ref 53), some (.int x1), none] [] (hM p s42 τ) r
                          exact xv_sub (L' := [some (.ref 53), some (.int x1), none]) ⟨rfl, ⟨rfl, trivial⟩⟩ (g176_125_ok htr d p τ x1 s42 r (xo_map H))
                      · rw [q43] at H; exact False.elim H
                · rw [q39] at H; exact False.elim H
          · rw [q27] at H; exact False.elim H
    · rw [q16] at H; exact False.elim H
theorem g176_46_ok {l : Launch} {Ω : xo_O} (htr : xH l) (d : Nat) (p : Nat) (τ : Nat → Nat → Int64) (x1 : Int32) (σ : xS) (r : xv_R) (H : xo (xB true p τ r) (g176_46 x1 σ)) : xv l Ω (d + 3) 0 0 176 46 [some (.ref 53), some (.int x1), none] [] (hM p σ τ) r :=
  xlo_ok (A := a176_46 l Ω d p τ r) (fun a H => g176_46b_ok htr d p τ a.1 a.2 r H) 1000 (x1, σ) H
theorem g176_run {l : Launch} {Ω : xo_O} (htr : xH l) (d : Nat) (p : Nat) (τ : Nat → Nat → Int64) (a1 : Int32) (σ : xS) {q : xQ} (hq : g176 a1 σ = some q) : xv l Ω (d + 3) 0 0 176 0 (xs_loc (xm_l 176) [.ref 53, .int a1]) [] (hM p σ τ) (xq_R true p τ q) := by
  have H : xo (xB true p τ (xq_R true p τ q)) (g176 a1 σ) := by rw [hq]; exact rfl
  generalize xq_R true p τ q = r at H ⊢
  show xv l Ω (d + 3) 0 0 176 0 [some (.ref 53), some (.int a1), none] [] (hM p σ τ) r
  unfold g176 at H
  cases g1 : xn a1 80 with
  | false => rw [g1, cond_false] at H; exact False.elim H
  | true =>
    rw [g1, cond_true] at H
    refine xp_ok htr 8 (d + 3) 0 0 [] 176 0 [some (.ref 53), some (.int a1), none] [] (hM p σ τ) ⟨(xn_in g1), ?_⟩
    show xv l Ω (d + 3) 0 0 176 13 [some (.ref 53), some (.int a1), none] [] (hM p (xh_ui σ 73 (Int32.toNatClampNeg a1) (100 + (σ 53 31))) τ) r
    cases q4 : g171 (xh_ui σ 73 (Int32.toNatClampNeg a1) (100 + (σ 53 31))) with
    | none => rw [q4] at H; exact False.elim H
    | some q40 =>
      obtain ⟨v2 | v2, s3⟩ := q40
      · rw [q4] at H; dsimp only at H
        have hc := g171_run (Ω := Ω) htr (d + 2) p τ  (xh_ui σ 73 (Int32.toNatClampNeg a1) (100 + (σ 53 31))) q4
        refine xp_ok htr 2 (d + 3) 0 0 [eC (some (.int v2)) (hM p s3 τ)] 176 13 [some (.ref 53), some (.int a1), none] [] (hM p (xh_ui σ 73 (Int32.toNatClampNeg a1) (100 + (σ 53 31))) τ) ⟨hc, ?_⟩
        show xv l Ω (d + 3) 0 0 176 17 [some (.ref 53), some (.int a1), none] [.int v2] (hM p s3 τ) r
        by_cases h5 : v2 = 0
        · rw [if_pos h5] at H
          refine xp_ok htr 1 (d + 3) 0 0 [eB true] 176 17 [some (.ref 53), some (.int a1), none] [.int v2] (hM p s3 τ) ⟨h5, ?_⟩
          show xv l Ω (d + 3) 0 0 176 138 [some (.ref 53), some (.int a1), none] [] (hM p s3 τ) r
          exact xv_sub (L' := [some (.ref 53), some (.int a1), none]) ⟨rfl, ⟨rfl, trivial⟩⟩ (g176_138_ok htr d p τ a1 s3 r H)
        · rw [if_neg h5] at H
          refine xp_ok htr 1 (d + 3) 0 0 [eB false] 176 17 [some (.ref 53), some (.int a1), none] [.int v2] (hM p s3 τ) ⟨h5, ?_⟩
          show xv l Ω (d + 3) 0 0 176 20 [some (.ref 53), some (.int a1), none] [] (hM p s3 τ) r
          cases q9 : g173 s3 with
          | none => rw [q9] at H; exact False.elim H
          | some q90 =>
            obtain ⟨v7 | v7, s8⟩ := q90
            · rw [q9] at H; dsimp only at H
              have hc := g173_run (Ω := Ω) htr (d + 2) p τ  s3 q9
              refine xp_ok htr 2 (d + 3) 0 0 [eC (some (.int v7)) (hM p s8 τ)] 176 20 [some (.ref 53), some (.int a1), none] [] (hM p s3 τ) ⟨hc, ?_⟩
              show xv l Ω (d + 3) 0 0 176 24 [some (.ref 53), some (.int a1), none] [.int v7] (hM p s8 τ) r
              by_cases h10 : v7 = 91
              · rw [if_pos h10] at H
                refine xp_ok htr 2 (d + 3) 0 0 [eB false] 176 24 [some (.ref 53), some (.int a1), none] [.int v7] (hM p s8 τ) ⟨h10, ?_⟩
                show xv l Ω (d + 3) 0 0 176 29 [some (.ref 53), some (.int a1), none] [] (hM p s8 τ) r
                refine xp_ok htr 8 (d + 3) 0 0 [] 176 29 [some (.ref 53), some (.int a1), none] [] (hM p s8 τ) ?_
                show xv l Ω (d + 3) 0 0 176 41 [some (.ref 53), some (.int a1), none] [.int 1, .ref 53] (hM p (xh_ui s8 53 19 ((s8 53 19) + 1)) τ) r
                cases q13 : g177 1 1 (xh_ui s8 53 19 ((s8 53 19) + 1)) with
                | none => rw [q13] at H; exact False.elim H
                | some q130 =>
                  obtain ⟨v11 | v11, s12⟩ := q130
                  · rw [q13] at H; dsimp only at H
                    have hc := g177_run (Ω := Ω) htr d p τ 1 1 (xh_ui s8 53 19 ((s8 53 19) + 1)) q13
                    refine xp_ok htr 2 (d + 3) 0 0 [eC (some (.int v11)) (hM p s12 τ)] 176 41 [some (.ref 53), some (.int a1), none] [.int 1, .ref 53] (hM p (xh_ui s8 53 19 ((s8 53 19) + 1)) τ) ⟨hc, ?_⟩
                    show xv l Ω (d + 3) 0 0 176 45 [some (.ref 53), some (.int a1), none] [.int v11] (hM p s12 τ) r
                    refine xp_ok htr 1 (d + 3) 0 0 [] 176 45 [some (.ref 53), some (.int a1), none] [.int v11] (hM p s12 τ) ?_
                    show xv l Ω (d + 3) 0 0 176 46 [some (.ref 53), some (.int a1), none] [] (hM p s12 τ) r
                    exact xv_sub (L' := [some (.ref 53), some (.int a1), none]) ⟨rfl, ⟨rfl, trivial⟩⟩ (g176_46_ok htr d p τ a1 s12 r H)
                  · rw [q13] at H; exact False.elim H
              · rw [if_neg h10] at H
                refine xp_ok htr 2 (d + 3) 0 0 [eB true] 176 24 [some (.ref 53), some (.int a1), none] [.int v7] (hM p s8 τ) ⟨h10, ?_⟩
                show xv l Ω (d + 3) 0 0 176 138 [some (.ref 53), some (.int a1), none] [] (hM p s8 τ) r
                exact xv_sub (L' := [some (.ref 53), some (.int a1), none]) ⟨rfl, ⟨rfl, trivial⟩⟩ (g176_138_ok htr d p τ a1 s8 r H)
            · rw [q9] at H; exact False.elim H
      · rw [q4] at H; exact False.elim H
/- AccessDeskModel.does -/
def g184 (a1 : Int32) (σ : xS) : xO := (bif xn (300 + (σ 53 32)) 600 then some ((Sum.inl 0, (xh_ui (xh_ui σ 84 (Int32.toNatClampNeg (300 + (σ 53 32))) a1) 53 32 (((xh_ui σ 84 (Int32.toNatClampNeg (300 + (σ 53 32))) a1) 53 32) + 1)))) else none)
theorem g184_run {l : Launch} {Ω : xo_O} (htr : xH l) (d : Nat) (p : Nat) (τ : Nat → Nat → Int64) (a1 : Int32) (σ : xS) {q : xQ} (hq : g184 a1 σ = some q) : xv l Ω d 0 0 184 0 (xs_loc (xm_l 184) [.ref 53, .int a1]) [] (hM p σ τ) (xq_R true p τ q) := by
  have H : xo (xB true p τ (xq_R true p τ q)) (g184 a1 σ) := by rw [hq]; exact rfl
  generalize xq_R true p τ q = r at H ⊢
  show xv l Ω d 0 0 184 0 [some (.ref 53), some (.int a1)] [] (hM p σ τ) r
  unfold g184 at H
  cases g1 : xn (300 + (σ 53 32)) 600 with
  | false => rw [g1, cond_false] at H; exact False.elim H
  | true =>
    rw [g1, cond_true] at H
    refine xp_ok htr 8 d 0 0 [] 184 0 [some (.ref 53), some (.int a1)] [] (hM p σ τ) ⟨(xn_in g1), ?_⟩
    show xv l Ω d 0 0 184 14 [some (.ref 53), some (.int a1)] [] (hM p (xh_ui σ 84 (Int32.toNatClampNeg (300 + (σ 53 32))) a1) τ) r
    exact xp_ok htr 7 d 0 0 [] 184 14 [some (.ref 53), some (.int a1)] [] (hM p (xh_ui σ 84 (Int32.toNatClampNeg (300 + (σ 53 32))) a1) τ) ⟨trivial, (Eq.symm H)⟩
/- AccessDeskModel.settle -/
def g183_50 (k1 : Int32) (k2 : Int32) (σ : xS) : Option xQ := (bif xn k1 300 then some ((Sum.inl 1, (xh_ui (xh_ui σ 86 (Int32.toNatClampNeg k1) k2) 53 19 (((xh_ui σ 86 (Int32.toNatClampNeg k1) k2) 53 19) + 1)))) else none)
def g183_28 (x1 : Int32) (x2 : Int32) (σ : xS) : Option xQ := (if x2 = 38 then g183_50 (x1 - 1) 1001 σ else g183_50 (x1 - 1) 1002 σ)
def g183_80  (σ : xS) : Option xQ := (match g175 σ with | some (Sum.inl v12, s13) => some ((Sum.inl 0, s13)) | some (Sum.inr v12, s13) => none | none => none)
def g183_63 (x1 : Int32) (x2 : Int32) (σ : xS) : Option xQ := (bif xn (x1 - 1) 300 then (if (σ 86 (Int32.toNatClampNeg (x1 - 1))) = 0 then g183_80 σ else (if x2 = 41 then (match g184 (σ 86 (Int32.toNatClampNeg (x1 - 1))) σ with | some (Sum.inl v16, s17) => some ((Sum.inl 0, (xh_ui s17 53 19 ((s17 53 19) + 1)))) | some (Sum.inr v16, s17) => none | none => none) else g183_80 σ)) else none)
def g183 (a1 : Int32) (σ : xS) : xO := (match g173 σ with | some (Sum.inl v1, s2) => (bif xn (a1 - 1) 300 then (if (s2 86 (Int32.toNatClampNeg (a1 - 1))) = 0 then (if v1 = 38 then g183_28 a1 v1 s2 else (if v1 = 124 then g183_28 a1 v1 s2 else g183_63 a1 v1 s2)) else g183_63 a1 v1 s2) else none) | some (Sum.inr v1, s2) => none | none => none)
theorem g183_50_ok {l : Launch} {Ω : xo_O} (htr : xH l) (d : Nat) (p : Nat) (τ : Nat → Nat → Int64) (k1 : Int32) (k2 : Int32) (σ : xS) (r : xv_R) (H : xo (xB false p τ r) (g183_50 k1 k2 σ)) : xv l Ω (d + 1) 0 0 183 50 [some (.ref 53), none, none] [.int k2, .int k1, .ref 86] (hM p σ τ) r := by
  unfold g183_50 at H
  cases g8 : xn k1 300 with
  | false => rw [g8, cond_false] at H; exact False.elim H
  | true =>
    rw [g8, cond_true] at H
    refine xp_ok htr 8 (d + 1) 0 0 [] 183 50 [some (.ref 53), none, none] [.int k2, .int k1, .ref 86] (hM p σ τ) ⟨(xn_in g8), ?_⟩
    show xv l Ω (d + 1) 0 0 183 62 [some (.ref 53), none, none] [.int 1] (hM p (xh_ui (xh_ui σ 86 (Int32.toNatClampNeg k1) k2) 53 19 (((xh_ui σ 86 (Int32.toNatClampNeg k1) k2) 53 19) + 1)) τ) r
    exact xp_ok htr 1 (d + 1) 0 0 [] 183 62 [some (.ref 53), none, none] [.int 1] (hM p (xh_ui (xh_ui σ 86 (Int32.toNatClampNeg k1) k2) 53 19 (((xh_ui σ 86 (Int32.toNatClampNeg k1) k2) 53 19) + 1)) τ) ⟨Or.inr rfl, (Eq.symm H)⟩
theorem g183_28_ok {l : Launch} {Ω : xo_O} (htr : xH l) (d : Nat) (p : Nat) (τ : Nat → Nat → Int64) (x1 : Int32) (x2 : Int32) (σ : xS) (r : xv_R) (H : xo (xB false p τ r) (g183_28 x1 x2 σ)) : xv l Ω (d + 1) 0 0 183 28 [some (.ref 53), some (.int x1), some (.int x2)] [] (hM p σ τ) r := by
  unfold g183_28 at H
  by_cases h7 : x2 = 38
  · rw [if_pos h7] at H
    refine xp_ok htr 8 (d + 1) 0 0 [eB false] 183 28 [some (.ref 53), some (.int x1), some (.int x2)] [] (hM p σ τ) ⟨h7, ?_⟩
    show xv l Ω (d + 1) 0 0 183 41 [some (.ref 53), some (.int x1), some (.int x2)] [.int (x1 - 1), .ref 86] (hM p σ τ) r
    refine xp_ok htr 2 (d + 1) 0 0 [] 183 41 [some (.ref 53), some (.int x1), some (.int x2)] [.int (x1 - 1), .ref 86] (hM p σ τ) ?_
    show xv l Ω (d + 1) 0 0 183 50 [some (.ref 53), some (.int x1), some (.int x2)] [.int 1001, .int (x1 - 1), .ref 86] (hM p σ τ) r
    exact xv_sub (L' := [some (.ref 53), none, none]) ⟨rfl, trivial⟩ (g183_50_ok htr d p τ (x1 - 1) 1001 σ r H)
  · rw [if_neg h7] at H
    refine xp_ok htr 8 (d + 1) 0 0 [eB true] 183 28 [some (.ref 53), some (.int x1), some (.int x2)] [] (hM p σ τ) ⟨h7, ?_⟩
    show xv l Ω (d + 1) 0 0 183 47 [some (.ref 53), some (.int x1), some (.int x2)] [.int (x1 - 1), .ref 86] (hM p σ τ) r
    refine xp_ok htr 1 (d + 1) 0 0 [] 183 47 [some (.ref 53), some (.int x1), some (.int x2)] [.int (x1 - 1), .ref 86] (hM p σ τ) ?_
    show xv l Ω (d + 1) 0 0 183 50 [some (.ref 53), some (.int x1), some (.int x2)] [.int 1002, .int (x1 - 1), .ref 86] (hM p σ τ) r
    exact xv_sub (L' := [some (.ref 53), none, none]) ⟨rfl, trivial⟩ (g183_50_ok htr d p τ (x1 - 1) 1002 σ r H)
theorem g183_80_ok {l : Launch} {Ω : xo_O} (htr : xH l) (d : Nat) (p : Nat) (τ : Nat → Nat → Int64)  (σ : xS) (r : xv_R) (H : xo (xB false p τ r) (g183_80 σ)) : xv l Ω (d + 1) 0 0 183 80 [some (.ref 53), none, none] [] (hM p σ τ) r := by
  unfold g183_80 at H
  cases q14 : g175 σ with
  | none => rw [q14] at H; exact False.elim H
  | some q140 =>
    obtain ⟨v12 | v12, s13⟩ := q140
    · rw [q14] at H; dsimp only at H
      have hc := g175_run (Ω := Ω) htr d p τ  σ q14
      refine xp_ok htr 2 (d + 1) 0 0 [eC none (hM p s13 τ)] 183 80 [some (.ref 53), none, none] [] (hM p σ τ) ⟨hc, ?_⟩
      show xv l Ω (d + 1) 0 0 183 84 [some (.ref 53), none, none] [] (hM p s13 τ) r
      exact xp_ok htr 3 (d + 1) 0 0 [] 183 84 [some (.ref 53), none, none] [] (hM p s13 τ) ⟨Or.inl rfl, (Eq.symm H)⟩
    · rw [q14] at H; exact False.elim H
theorem g183_63_ok {l : Launch} {Ω : xo_O} (htr : xH l) (d : Nat) (p : Nat) (τ : Nat → Nat → Int64) (x1 : Int32) (x2 : Int32) (σ : xS) (r : xv_R) (H : xo (xB false p τ r) (g183_63 x1 x2 σ)) : xv l Ω (d + 1) 0 0 183 63 [some (.ref 53), some (.int x1), some (.int x2)] [] (hM p σ τ) r := by
  unfold g183_63 at H
  cases g10 : xn (x1 - 1) 300 with
  | false => rw [g10, cond_false] at H; exact False.elim H
  | true =>
    rw [g10, cond_true] at H
    by_cases h11 : (σ 86 (Int32.toNatClampNeg (x1 - 1))) = 0
    · rw [if_pos h11] at H
      refine xp_ok htr 7 (d + 1) 0 0 [eB true] 183 63 [some (.ref 53), some (.int x1), some (.int x2)] [] (hM p σ τ) ⟨(xn_in g10), h11, ?_⟩
      show xv l Ω (d + 1) 0 0 183 80 [some (.ref 53), some (.int x1), some (.int x2)] [] (hM p σ τ) r
      exact xv_sub (L' := [some (.ref 53), none, none]) ⟨rfl, trivial⟩ (g183_80_ok htr d p τ σ r H)
    · rw [if_neg h11] at H
      refine xp_ok htr 7 (d + 1) 0 0 [eB false] 183 63 [some (.ref 53), some (.int x1), some (.int x2)] [] (hM p σ τ) ⟨(xn_in g10), h11, ?_⟩
      show xv l Ω (d + 1) 0 0 183 74 [some (.ref 53), some (.int x1), some (.int x2)] [] (hM p σ τ) r
      by_cases h15 : x2 = 41
      · rw [if_pos h15] at H
        refine xp_ok htr 3 (d + 1) 0 0 [eB true] 183 74 [some (.ref 53), some (.int x1), some (.int x2)] [] (hM p σ τ) ⟨h15, ?_⟩
        show xv l Ω (d + 1) 0 0 183 87 [some (.ref 53), some (.int x1), some (.int x2)] [] (hM p σ τ) r
        cases q18 : g184 (σ 86 (Int32.toNatClampNeg (x1 - 1))) σ with
        | none => rw [q18] at H; exact False.elim H
        | some q180 =>
          obtain ⟨v16 | v16, s17⟩ := q180
          · rw [q18] at H; dsimp only at H
            have hc := g184_run (Ω := Ω) htr d p τ (σ 86 (Int32.toNatClampNeg (x1 - 1))) σ q18
            refine xp_ok htr 8 (d + 1) 0 0 [eC none (hM p s17 τ)] 183 87 [some (.ref 53), some (.int x1), some (.int x2)] [] (hM p σ τ) ⟨(xn_in g10), hc, ?_⟩
            show xv l Ω (d + 1) 0 0 183 99 [some (.ref 53), some (.int x1), some (.int x2)] [] (hM p s17 τ) r
            exact xp_ok htr 8 (d + 1) 0 0 [] 183 99 [some (.ref 53), some (.int x1), some (.int x2)] [] (hM p s17 τ) ⟨Or.inl rfl, (Eq.symm H)⟩
          · rw [q18] at H; exact False.elim H
      · rw [if_neg h15] at H
        refine xp_ok htr 3 (d + 1) 0 0 [eB false] 183 74 [some (.ref 53), some (.int x1), some (.int x2)] [] (hM p σ τ) ⟨h15, ?_⟩
        show xv l Ω (d + 1) 0 0 183 80 [some (.ref 53), some (.int x1), some (.int x2)] [] (hM p σ τ) r
        exact xv_sub (L' := [some (.ref 53), none, none]) ⟨rfl, trivial⟩ (g183_80_ok htr d p τ σ r H)
theorem g183_run {l : Launch} {Ω : xo_O} (htr : xH l) (d : Nat) (p : Nat) (τ : Nat → Nat → Int64) (a1 : Int32) (σ : xS) {q : xQ} (hq : g183 a1 σ = some q) : xv l Ω (d + 1) 0 0 183 0 (xs_loc (xm_l 183) [.ref 53, .int a1]) [] (hM p σ τ) (xq_R false p τ q) := by
  have H : xo (xB false p τ (xq_R false p τ q)) (g183 a1 σ) := by rw [hq]; exact rfl
  generalize xq_R false p τ q = r at H ⊢
  show xv l Ω (d + 1) 0 0 183 0 [some (.ref 53), some (.int a1), none] [] (hM p σ τ) r
  unfold g183 at H
  cases q3 : g173 σ with
  | none => rw [q3] at H; exact False.elim H
  | some q30 =>
    obtain ⟨v1 | v1, s2⟩ := q30
    · rw [q3] at H; dsimp only at H
      have hc := g173_run (Ω := Ω) htr d p τ  σ q3
      refine xp_ok htr 2 (d + 1) 0 0 [eC (some (.int v1)) (hM p s2 τ)] 183 0 [some (.ref 53), some (.int a1), none] [] (hM p σ τ) ⟨hc, ?_⟩
      show xv l Ω (d + 1) 0 0 183 4 [some (.ref 53), some (.int a1), none] [.int v1] (hM p s2 τ) r
      cases g4 : xn (a1 - 1) 300 with
      | false => rw [g4, cond_false] at H; exact False.elim H
      | true =>
        rw [g4, cond_true] at H
        by_cases h5 : (s2 86 (Int32.toNatClampNeg (a1 - 1))) = 0
        · rw [if_pos h5] at H
          refine xp_ok htr 8 (d + 1) 0 0 [eB false] 183 4 [some (.ref 53), some (.int a1), none] [.int v1] (hM p s2 τ) ⟨(xn_in g4), h5, ?_⟩
          show xv l Ω (d + 1) 0 0 183 16 [some (.ref 53), some (.int a1), some (.int v1)] [] (hM p s2 τ) r
          by_cases h6 : v1 = 38
          · rw [if_pos h6] at H
            refine xp_ok htr 3 (d + 1) 0 0 [eB true] 183 16 [some (.ref 53), some (.int a1), some (.int v1)] [] (hM p s2 τ) ⟨h6, ?_⟩
            show xv l Ω (d + 1) 0 0 183 28 [some (.ref 53), some (.int a1), some (.int v1)] [] (hM p s2 τ) r
            exact xv_sub (L' := [some (.ref 53), some (.int a1), some (.int v1)]) ⟨rfl, ⟨rfl, ⟨rfl, trivial⟩⟩⟩ (g183_28_ok htr d p τ a1 v1 s2 r H)
          · rw [if_neg h6] at H
            refine xp_ok htr 3 (d + 1) 0 0 [eB false] 183 16 [some (.ref 53), some (.int a1), some (.int v1)] [] (hM p s2 τ) ⟨h6, ?_⟩
            show xv l Ω (d + 1) 0 0 183 22 [some (.ref 53), some (.int a1), some (.int v1)] [] (hM p s2 τ) r
            by_cases h9 : v1 = 124
            · rw [if_pos h9] at H
              refine xp_ok htr 3 (d + 1) 0 0 [eB false] 183 22 [some (.ref 53), some (.int a1), some (.int v1)] [] (hM p s2 τ) ⟨h9, ?_⟩
              show xv l Ω (d + 1) 0 0 183 28 [some (.ref 53), some (.int a1), some (.int v1)] [] (hM p s2 τ) r
              exact xv_sub (L' := [some (.ref 53), some (.int a1), some (.int v1)]) ⟨rfl, ⟨rfl, ⟨rfl, trivial⟩⟩⟩ (g183_28_ok htr d p τ a1 v1 s2 r H)
            · rw [if_neg h9] at H
              refine xp_ok htr 3 (d + 1) 0 0 [eB true] 183 22 [some (.ref 53), some (.int a1), some (.int v1)] [] (hM p s2 τ) ⟨h9, ?_⟩
              show xv l Ω (d + 1) 0 0 183 63 [some (.ref 53), some (.int a1), some (.int v1)] [] (hM p s2 τ) r
              exact xv_sub (L' := [some (.ref 53), some (.int a1), some (.int v1)]) ⟨rfl, ⟨rfl, ⟨rfl, trivial⟩⟩⟩ (g183_63_ok htr d p τ a1 v1 s2 r H)
        · rw [if_neg h5] at H
          refine xp_ok htr 8 (d + 1) 0 0 [eB true] 183 4 [some (.ref 53), some (.int a1), none] [.int v1] (hM p s2 τ) ⟨(xn_in g4), h5, ?_⟩
          show xv l Ω (d + 1) 0 0 183 63 [some (.ref 53), some (.int a1), some (.int v1)] [] (hM p s2 τ) r
          exact xv_sub (L' := [some (.ref 53), some (.int a1), some (.int v1)]) ⟨rfl, ⟨rfl, ⟨rfl, trivial⟩⟩⟩ (g183_63_ok htr d p τ a1 v1 s2 r H)
    · rw [q3] at H; exact False.elim H
/- AccessDeskModel.takeExpression -/
def g182_153b (x1 : Int32) (x2 : Int32) (x3 : Int32) (σ : xS) : Option ((Int32 × Int32 × Int32 × xS) ⊕ ((Int32 × Int32 × Int32 × xS) ⊕ xQ)) := (if x3 = 0 then (if x1 ≤ 0 then some (Sum.inr (Sum.inl (x1, x2, x3, σ))) else (bif xn (x1 - 1) 300 then (if (σ 86 (Int32.toNatClampNeg (x1 - 1))) = 1000 then (match g184 1000 σ with | some (Sum.inl v16, s17) => some (Sum.inl ((x1 + (-1)), x2, x3, s17)) | some (Sum.inr v16, s17) => none | none => none) else some (Sum.inr (Sum.inl (x1, x2, x3, σ)))) else none)) else some (Sum.inr (Sum.inl (x1, x2, x3, σ))))
def g182_153 (x1 : Int32) (x2 : Int32) (x3 : Int32) (σ : xS) : Option ((Int32 × Int32 × Int32 × xS) ⊕ xQ) := xlo (fun a : Int32 × Int32 × Int32 × xS => g182_153b a.1 a.2.1 a.2.2.1 a.2.2.2) 1000 (x1, x2, x3, σ)
def g182_97 (x1 : Int32) (x2 : Int32) (x3 : Int32) (σ : xS) : Option ((Int32 × Int32 × Int32 × xS) ⊕ xQ) := (bif xn x1 300 then (match g171 (xh_ui σ 86 (Int32.toNatClampNeg x1) 0) with | some (Sum.inl v33, s34) => (if v33 = 0 then g182_153 (x1 + 1) (x2 + 1) x3 s34 else g182_153 (x1 + 1) (x2 + 1) x3 (xh_ui s34 53 19 ((s34 53 19) + 1))) | some (Sum.inr v33, s34) => none | none => none) else none)
def g182_151 (x1 : Int32) (x2 : Int32) (σ : xS) : Option ((Int32 × Int32 × Int32 × xS) ⊕ xQ) := g182_153 x1 x2 0 σ
def g182_21 (x1 : Int32) (x2 : Int32) (x3 : Int32) (σ : xS) : Option ((Int32 × Int32 × Int32 × xS) ⊕ xQ) := (if x3 = 0 then (match g183 x1 σ with | some (Sum.inl v8, s9) => (if v8 = 0 then g182_153 (x1 + (-1)) (x2 + (-1)) v8 s9 else g182_153 x1 x2 v8 s9) | some (Sum.inr v8, s9) => none | none => none) else (match g173 σ with | some (Sum.inl v19, s20) => (if v19 = 33 then (bif xn x1 300 then g182_153 (x1 + 1) x2 x3 (xh_ui (xh_ui s20 86 (Int32.toNatClampNeg x1) 1000) 53 19 (((xh_ui s20 86 (Int32.toNatClampNeg x1) 1000) 53 19) + 1)) else none) else (match g173 s20 with | some (Sum.inl v24, s25) => (if v24 = 40 then (if x2 = 6 then (match g175 s25 with | some (Sum.inl v29, s30) => g182_97 x1 x2 x3 s30 | some (Sum.inr v29, s30) => none | none => none) else g182_97 x1 x2 x3 s25) else (match g177 0 0 s25 with | some (Sum.inl v37, s38) => (match g171 s38 with | some (Sum.inl v40, s41) => (if v40 = 0 then g182_151 x1 x2 s41 else (match g184 v37 s41 with | some (Sum.inl v44, s45) => g182_151 x1 x2 s45 | some (Sum.inr v44, s45) => none | none => none)) | some (Sum.inr v40, s41) => none | none => none) | some (Sum.inr v37, s38) => none | none => none)) | some (Sum.inr v24, s25) => none | none => none)) | some (Sum.inr v19, s20) => none | none => none))
def g182_6b (x1 : Int32) (x2 : Int32) (x3 : Int32) (σ : xS) : Option ((Int32 × Int32 × Int32 × xS) ⊕ xQ) := (match g171 σ with | some (Sum.inl v1, s2) => (if v1 = 0 then some (Sum.inr ((Sum.inl 0, s2))) else (if x3 = 0 then (if x1 ≤ 0 then some (Sum.inr ((Sum.inl 0, s2))) else g182_21 x1 x2 x3 s2) else g182_21 x1 x2 x3 s2)) | some (Sum.inr v1, s2) => none | none => none)
def g182_6 (x1 : Int32) (x2 : Int32) (x3 : Int32) (σ : xS) : Option xQ := xlo (fun a : Int32 × Int32 × Int32 × xS => g182_6b a.1 a.2.1 a.2.2.1 a.2.2.2) 1000 (x1, x2, x3, σ)
def g182  (σ : xS) : xO := g182_6 0 0 1 σ
def a182_153 (l : Launch) (Ω : xo_O) (d p : Nat) (τ : Nat → Nat → Int64) (r : xv_R) : Int32 × Int32 × Int32 × xS → Prop := fun a => xv l Ω (d + 3) 0 0 182 153 [some (.ref 53), some (.int a.1), some (.int a.2.1), some (.int a.2.2.1), none] [] (hM p a.2.2.2 τ) r
def a182_6 (l : Launch) (Ω : xo_O) (d p : Nat) (τ : Nat → Nat → Int64) (r : xv_R) : Int32 × Int32 × Int32 × xS → Prop := fun a => xv l Ω (d + 3) 0 0 182 6 [some (.ref 53), some (.int a.1), some (.int a.2.1), some (.int a.2.2.1), none] [] (hM p a.2.2.2 τ) r
theorem g182_153b_ok {l : Launch} {Ω : xo_O} (htr : xH l) (d : Nat) (p : Nat) (τ : Nat → Nat → Int64) (x1 : Int32) (x2 : Int32) (x3 : Int32) (σ : xS) (r : xv_R) (H : xo (xd (a182_153 l Ω d p τ r) (xd (a182_6 l Ω d p τ r) (xB true p τ r))) (g182_153b x1 x2 x3 σ)) : xv l Ω (d + 3) 0 0 182 153 [some (.ref 53), some (.int x1), some (.int x2), some (.int x3), none] [] (hM p σ τ) r := by
  unfold g182_153b at H
  by_cases h12 : x3 = 0
  · rw [if_pos h12] at H
    refine xp_ok htr 2 (d + 3) 0 0 [eB false] 182 153 [some (.ref 53), some (.int x1), some (.int x2), some (.int x3), none] [] (hM p σ τ) ⟨h12, ?_⟩
    show xv l Ω (d + 3) 0 0 182 157 [some (.ref 53), some (.int x1), some (.int x2), some (.int x3), none] [] (hM p σ τ) r
    by_cases h13 : x1 ≤ 0
    · rw [if_pos h13] at H
      refine xp_ok htr 2 (d + 3) 0 0 [eB true] 182 157 [some (.ref 53), some (.int x1), some (.int x2), some (.int x3), none] [] (hM p σ τ) ⟨h13, ?_⟩
      show xv l Ω (d + 3) 0 0 182 6 [some (.ref 53), some (.int x1), some (.int x2), some (.int x3), none] [] (hM p σ τ) r
      exact xv_sub (L' := [some (.ref 53), some (.int x1), some (.int x2), some (.int x3), none]) ⟨rfl, ⟨rfl, ⟨rfl, ⟨rfl, trivial⟩⟩⟩⟩ H
    · rw [if_neg h13] at H
      refine xp_ok htr 2 (d + 3) 0 0 [eB false] 182 157 [some (.ref 53), some (.int x1), some (.int x2), some (.int x3), none] [] (hM p σ τ) ⟨h13, ?_⟩
      show xv l Ω (d + 3) 0 0 182 161 [some (.ref 53), some (.int x1), some (.int x2), some (.int x3), none] [] (hM p σ τ) r
      cases g14 : xn (x1 - 1) 300 with
      | false => rw [g14, cond_false] at H; exact False.elim H
      | true =>
        rw [g14, cond_true] at H
        by_cases h15 : (σ 86 (Int32.toNatClampNeg (x1 - 1))) = 1000
        · rw [if_pos h15] at H
          refine xp_ok htr 8 (d + 3) 0 0 [eB false] 182 161 [some (.ref 53), some (.int x1), some (.int x2), some (.int x3), none] [] (hM p σ τ) ⟨(xn_in g14), h15, ?_⟩
          show xv l Ω (d + 3) 0 0 182 175 [some (.ref 53), some (.int x1), some (.int x2), some (.int x3), none] [] (hM p σ τ) r
          cases q18 : g184 1000 σ with
          | none => rw [q18] at H; exact False.elim H
          | some q180 =>
            obtain ⟨v16 | v16, s17⟩ := q180
            · rw [q18] at H; dsimp only at H
              have hc := g184_run (Ω := Ω) htr (d + 2) p τ 1000 σ q18
              refine xp_ok htr 3 (d + 3) 0 0 [eC none (hM p s17 τ)] 182 175 [some (.ref 53), some (.int x1), some (.int x2), some (.int x3), none] [] (hM p σ τ) ⟨hc, ?_⟩
              show xv l Ω (d + 3) 0 0 182 182 [some (.ref 53), some (.int x1), some (.int x2), some (.int x3), none] [] (hM p s17 τ) r
              refine xp_ok htr 2 (d + 3) 0 0 [] 182 182 [some (.ref 53), some (.int x1), some (.int x2), some (.int x3), none] [] (hM p s17 τ) ?_
              show xv l Ω (d + 3) 0 0 182 153 [some (.ref 53), some (.int (x1 + (-1))), some (.int x2), some (.int x3), none] [] (hM p s17 τ) r
              exact xv_sub (L' := [some (.ref 53), some (.int (x1 + (-1))), some (.int x2), some (.int x3), none]) ⟨rfl, ⟨rfl, ⟨rfl, ⟨rfl, trivial⟩⟩⟩⟩ H
            · rw [q18] at H; exact False.elim H
        · rw [if_neg h15] at H
          refine xp_ok htr 8 (d + 3) 0 0 [eB true] 182 161 [some (.ref 53), some (.int x1), some (.int x2), some (.int x3), none] [] (hM p σ τ) ⟨(xn_in g14), h15, ?_⟩
          show xv l Ω (d + 3) 0 0 182 6 [some (.ref 53), some (.int x1), some (.int x2), some (.int x3), none] [] (hM p σ τ) r
          exact xv_sub (L' := [some (.ref 53), some (.int x1), some (.int x2), some (.int x3), none]) ⟨rfl, ⟨rfl, ⟨rfl, ⟨rfl, trivial⟩⟩⟩⟩ H
  · rw [if_neg h12] at H
    refine xp_ok htr 2 (d + 3) 0 0 [eB true] 182 153 [some (.ref 53), some (.int x1), some (.int x2), some (.int x3), none] [] (hM p σ τ) ⟨h12, ?_⟩
    show xv l Ω (d + 3) 0 0 182 6 [some (.ref 53), some (.int x1), some (.int x2), some (.int x3), none] [] (hM p σ τ) r
    exact xv_sub (L' := [some (.ref 53), some (.int x1), some (.int x2), some (.int x3), none]) ⟨rfl, ⟨rfl, ⟨rfl, ⟨rfl, trivial⟩⟩⟩⟩ H
theorem g182_153_ok {l : Launch} {Ω : xo_O} (htr : xH l) (d : Nat) (p : Nat) (τ : Nat → Nat → Int64) (x1 : Int32) (x2 : Int32) (x3 : Int32) (σ : xS) (r : xv_R) (H : xo (xd (a182_6 l Ω d p τ r) (xB true p τ r)) (g182_153 x1 x2 x3 σ)) : xv l Ω (d + 3) 0 0 182 153 [some (.ref 53), some (.int x1), some (.int x2), some (.int x3), none] [] (hM p σ τ) r :=
  xlo_ok (A := a182_153 l Ω d p τ r) (fun a H => g182_153b_ok htr d p τ a.1 a.2.1 a.2.2.1 a.2.2.2 r H) 1000 (x1, x2, x3, σ) H
theorem g182_97_ok {l : Launch} {Ω : xo_O} (htr : xH l) (d : Nat) (p : Nat) (τ : Nat → Nat → Int64) (x1 : Int32) (x2 : Int32) (x3 : Int32) (σ : xS) (r : xv_R) (H : xo (xd (a182_6 l Ω d p τ r) (xB true p τ r)) (g182_97 x1 x2 x3 σ)) : xv l Ω (d + 3) 0 0 182 97 [some (.ref 53), some (.int x1), some (.int x2), some (.int x3), none] [] (hM p σ τ) r := by
  unfold g182_97 at H
  cases g32 : xn x1 300 with
  | false => rw [g32, cond_false] at H; exact False.elim H
  | true =>
    rw [g32, cond_true] at H
    refine xp_ok htr 8 (d + 3) 0 0 [] 182 97 [some (.ref 53), some (.int x1), some (.int x2), some (.int x3), none] [] (hM p σ τ) ⟨(xn_in g32), ?_⟩
    show xv l Ω (d + 3) 0 0 182 111 [some (.ref 53), some (.int (x1 + 1)), some (.int (x2 + 1)), some (.int x3), none] [.ref 53] (hM p (xh_ui σ 86 (Int32.toNatClampNeg x1) 0) τ) r
    cases q35 : g171 (xh_ui σ 86 (Int32.toNatClampNeg x1) 0) with
    | none => rw [q35] at H; exact False.elim H
    | some q350 =>
      obtain ⟨v33 | v33, s34⟩ := q350
      · rw [q35] at H; dsimp only at H
        have hc := g171_run (Ω := Ω) htr (d + 2) p τ  (xh_ui σ 86 (Int32.toNatClampNeg x1) 0) q35
        refine xp_ok htr 1 (d + 3) 0 0 [eC (some (.int v33)) (hM p s34 τ)] 182 111 [some (.ref 53), some (.int (x1 + 1)), some (.int (x2 + 1)), some (.int x3), none] [.ref 53] (hM p (xh_ui σ 86 (Int32.toNatClampNeg x1) 0) τ) ⟨hc, ?_⟩
        show xv l Ω (d + 3) 0 0 182 114 [some (.ref 53), some (.int (x1 + 1)), some (.int (x2 + 1)), some (.int x3), none] [.int v33] (hM p s34 τ) r
        by_cases h36 : v33 = 0
        · rw [if_pos h36] at H
          refine xp_ok htr 1 (d + 3) 0 0 [eB true] 182 114 [some (.ref 53), some (.int (x1 + 1)), some (.int (x2 + 1)), some (.int x3), none] [.int v33] (hM p s34 τ) ⟨h36, ?_⟩
          show xv l Ω (d + 3) 0 0 182 153 [some (.ref 53), some (.int (x1 + 1)), some (.int (x2 + 1)), some (.int x3), none] [] (hM p s34 τ) r
          exact xv_sub (L' := [some (.ref 53), some (.int (x1 + 1)), some (.int (x2 + 1)), some (.int x3), none]) ⟨rfl, ⟨rfl, ⟨rfl, ⟨rfl, trivial⟩⟩⟩⟩ (g182_153_ok htr d p τ (x1 + 1) (x2 + 1) x3 s34 r H)
        · rw [if_neg h36] at H
          refine xp_ok htr 1 (d + 3) 0 0 [eB false] 182 114 [some (.ref 53), some (.int (x1 + 1)), some (.int (x2 + 1)), some (.int x3), none] [.int v33] (hM p s34 τ) ⟨h36, ?_⟩
          show xv l Ω (d + 3) 0 0 182 117 [some (.ref 53), some (.int (x1 + 1)), some (.int (x2 + 1)), some (.int x3), none] [] (hM p s34 τ) r
          refine xp_ok htr 7 (d + 3) 0 0 [] 182 117 [some (.ref 53), some (.int (x1 + 1)), some (.int (x2 + 1)), some (.int x3), none] [] (hM p s34 τ) ?_
          show xv l Ω (d + 3) 0 0 182 153 [some (.ref 53), some (.int (x1 + 1)), some (.int (x2 + 1)), some (.int x3), none] [] (hM p (xh_ui s34 53 19 ((s34 53 19) + 1)) τ) r
          exact xv_sub (L' := [some (.ref 53), some (.int (x1 + 1)), some (.int (x2 + 1)), some (.int x3), none]) ⟨rfl, ⟨rfl, ⟨rfl, ⟨rfl, trivial⟩⟩⟩⟩ (g182_153_ok htr d p τ (x1 + 1) (x2 + 1) x3 (xh_ui s34 53 19 ((s34 53 19) + 1)) r H)
      · rw [q35] at H; exact False.elim H
theorem g182_151_ok {l : Launch} {Ω : xo_O} (htr : xH l) (d : Nat) (p : Nat) (τ : Nat → Nat → Int64) (x1 : Int32) (x2 : Int32) (σ : xS) (r : xv_R) (H : xo (xd (a182_6 l Ω d p τ r) (xB true p τ r)) (g182_151 x1 x2 σ)) : xv l Ω (d + 3) 0 0 182 151 [some (.ref 53), some (.int x1), some (.int x2), none, none] [] (hM p σ τ) r := by
  unfold g182_151 at H
  refine xp_ok htr 2 (d + 3) 0 0 [] 182 151 [some (.ref 53), some (.int x1), some (.int x2), none, none] [] (hM p σ τ) ?_
  show xv l Ω (d + 3) 0 0 182 153 [some (.ref 53), some (.int x1), some (.int x2), some (.int 0), none] [] (hM p σ τ) r
  exact xv_sub (L' := [some (.ref 53), some (.int x1), some (.int x2), some (.int 0), none]) ⟨rfl, ⟨rfl, ⟨rfl, ⟨rfl, trivial⟩⟩⟩⟩ (g182_153_ok htr d p τ x1 x2 0 σ r H)
theorem g182_21_ok {l : Launch} {Ω : xo_O} (htr : xH l) (d : Nat) (p : Nat) (τ : Nat → Nat → Int64) (x1 : Int32) (x2 : Int32) (x3 : Int32) (σ : xS) (r : xv_R) (H : xo (xd (a182_6 l Ω d p τ r) (xB true p τ r)) (g182_21 x1 x2 x3 σ)) : xv l Ω (d + 3) 0 0 182 21 [some (.ref 53), some (.int x1), some (.int x2), some (.int x3), none] [] (hM p σ τ) r := by
  unfold g182_21 at H
  by_cases h7 : x3 = 0
  · rw [if_pos h7] at H
    refine xp_ok htr 2 (d + 3) 0 0 [eB false] 182 21 [some (.ref 53), some (.int x1), some (.int x2), some (.int x3), none] [] (hM p σ τ) ⟨h7, ?_⟩
    show xv l Ω (d + 3) 0 0 182 25 [some (.ref 53), some (.int x1), some (.int x2), some (.int x3), none] [] (hM p σ τ) r
    cases q10 : g183 x1 σ with
    | none => rw [q10] at H; exact False.elim H
    | some q100 =>
      obtain ⟨v8 | v8, s9⟩ := q100
      · rw [q10] at H; dsimp only at H
        have hc := g183_run (Ω := Ω) htr (d + 1) p τ x1 σ q10
        refine xp_ok htr 3 (d + 3) 0 0 [eC (some (.int v8)) (hM p s9 τ)] 182 25 [some (.ref 53), some (.int x1), some (.int x2), some (.int x3), none] [] (hM p σ τ) ⟨hc, ?_⟩
        show xv l Ω (d + 3) 0 0 182 30 [some (.ref 53), some (.int x1), some (.int x2), some (.int x3), none] [.int v8] (hM p s9 τ) r
        by_cases h11 : v8 = 0
        · rw [if_pos h11] at H
          refine xp_ok htr 3 (d + 3) 0 0 [eB false] 182 30 [some (.ref 53), some (.int x1), some (.int x2), some (.int x3), none] [.int v8] (hM p s9 τ) ⟨h11, ?_⟩
          show xv l Ω (d + 3) 0 0 182 35 [some (.ref 53), some (.int x1), some (.int x2), some (.int v8), none] [] (hM p s9 τ) r
          refine xp_ok htr 3 (d + 3) 0 0 [] 182 35 [some (.ref 53), some (.int x1), some (.int x2), some (.int v8), none] [] (hM p s9 τ) ?_
          show xv l Ω (d + 3) 0 0 182 153 [some (.ref 53), some (.int (x1 + (-1))), some (.int (x2 + (-1))), some (.int v8), none] [] (hM p s9 τ) r
          exact xv_sub (L' := [some (.ref 53), some (.int (x1 + (-1))), some (.int (x2 + (-1))), some (.int v8), none]) ⟨rfl, ⟨rfl, ⟨rfl, ⟨rfl, trivial⟩⟩⟩⟩ (g182_153_ok htr d p τ (x1 + (-1)) (x2 + (-1)) v8 s9 r H)
        · rw [if_neg h11] at H
          refine xp_ok htr 3 (d + 3) 0 0 [eB true] 182 30 [some (.ref 53), some (.int x1), some (.int x2), some (.int x3), none] [.int v8] (hM p s9 τ) ⟨h11, ?_⟩
          show xv l Ω (d + 3) 0 0 182 153 [some (.ref 53), some (.int x1), some (.int x2), some (.int v8), none] [] (hM p s9 τ) r
          exact xv_sub (L' := [some (.ref 53), some (.int x1), some (.int x2), some (.int v8), none]) ⟨rfl, ⟨rfl, ⟨rfl, ⟨rfl, trivial⟩⟩⟩⟩ (g182_153_ok htr d p τ x1 x2 v8 s9 r H)
      · rw [q10] at H; exact False.elim H
  · rw [if_neg h7] at H
    refine xp_ok htr 2 (d + 3) 0 0 [eB true] 182 21 [some (.ref 53), some (.int x1), some (.int x2), some (.int x3), none] [] (hM p σ τ) ⟨h7, ?_⟩
    show xv l Ω (d + 3) 0 0 182 44 [some (.ref 53), some (.int x1), some (.int x2), some (.int x3), none] [] (hM p σ τ) r
    cases q21 : g173 σ with
    | none => rw [q21] at H; exact False.elim H
    | some q210 =>
      obtain ⟨v19 | v19, s20⟩ := q210
      · rw [q21] at H; dsimp only at H
        have hc := g173_run (Ω := Ω) htr (d + 2) p τ  σ q21
        refine xp_ok htr 2 (d + 3) 0 0 [eC (some (.int v19)) (hM p s20 τ)] 182 44 [some (.ref 53), some (.int x1), some (.int x2), some (.int x3), none] [] (hM p σ τ) ⟨hc, ?_⟩
        show xv l Ω (d + 3) 0 0 182 48 [some (.ref 53), some (.int x1), some (.int x2), some (.int x3), none] [.int v19] (hM p s20 τ) r
        by_cases h22 : v19 = 33
        · rw [if_pos h22] at H
          refine xp_ok htr 2 (d + 3) 0 0 [eB false] 182 48 [some (.ref 53), some (.int x1), some (.int x2), some (.int x3), none] [.int v19] (hM p s20 τ) ⟨h22, ?_⟩
          show xv l Ω (d + 3) 0 0 182 53 [some (.ref 53), some (.int x1), some (.int x2), some (.int x3), none] [] (hM p s20 τ) r
          cases g23 : xn x1 300 with
          | false => rw [g23, cond_false] at H; exact False.elim H
          | true =>
            rw [g23, cond_true] at H
            refine xp_ok htr 8 (d + 3) 0 0 [] 182 53 [some (.ref 53), some (.int x1), some (.int x2), some (.int x3), none] [] (hM p s20 τ) ⟨(xn_in g23), ?_⟩
            show xv l Ω (d + 3) 0 0 182 67 [some (.ref 53), some (.int (x1 + 1)), some (.int x2), some (.int x3), none] [.ref 53, .ref 53] (hM p (xh_ui s20 86 (Int32.toNatClampNeg x1) 1000) τ) r
            refine xp_ok htr 5 (d + 3) 0 0 [] 182 67 [some (.ref 53), some (.int (x1 + 1)), some (.int x2), some (.int x3), none] [.ref 53, .ref 53] (hM p (xh_ui s20 86 (Int32.toNatClampNeg x1) 1000) τ) ?_
            show xv l Ω (d + 3) 0 0 182 153 [some (.ref 53), some (.int (x1 + 1)), some (.int x2), some (.int x3), none] [] (hM p (xh_ui (xh_ui s20 86 (Int32.toNatClampNeg x1) 1000) 53 19 (((xh_ui s20 86 (Int32.toNatClampNeg x1) 1000) 53 19) + 1)) τ) r
            exact xv_sub (L' := [some (.ref 53), some (.int (x1 + 1)), some (.int x2), some (.int x3), none]) ⟨rfl, ⟨rfl, ⟨rfl, ⟨rfl, trivial⟩⟩⟩⟩ (g182_153_ok htr d p τ (x1 + 1) x2 x3 (xh_ui (xh_ui s20 86 (Int32.toNatClampNeg x1) 1000) 53 19 (((xh_ui s20 86 (Int32.toNatClampNeg x1) 1000) 53 19) + 1)) r H)
        · rw [if_neg h22] at H
          refine xp_ok htr 2 (d + 3) 0 0 [eB true] 182 48 [some (.ref 53), some (.int x1), some (.int x2), some (.int x3), none] [.int v19] (hM p s20 τ) ⟨h22, ?_⟩
          show xv l Ω (d + 3) 0 0 182 78 [some (.ref 53), some (.int x1), some (.int x2), some (.int x3), none] [] (hM p s20 τ) r
          cases q26 : g173 s20 with
          | none => rw [q26] at H; exact False.elim H
          | some q260 =>
            obtain ⟨v24 | v24, s25⟩ := q260
            · rw [q26] at H; dsimp only at H
              have hc := g173_run (Ω := Ω) htr (d + 2) p τ  s20 q26
              refine xp_ok htr 2 (d + 3) 0 0 [eC (some (.int v24)) (hM p s25 τ)] 182 78 [some (.ref 53), some (.int x1), some (.int x2), some (.int x3), none] [] (hM p s20 τ) ⟨hc, ?_⟩
              show xv l Ω (d + 3) 0 0 182 82 [some (.ref 53), some (.int x1), some (.int x2), some (.int x3), none] [.int v24] (hM p s25 τ) r
              by_cases h27 : v24 = 40
              · rw [if_pos h27] at H
                refine xp_ok htr 2 (d + 3) 0 0 [eB false] 182 82 [some (.ref 53), some (.int x1), some (.int x2), some (.int x3), none] [.int v24] (hM p s25 τ) ⟨h27, ?_⟩
                show xv l Ω (d + 3) 0 0 182 87 [some (.ref 53), some (.int x1), some (.int x2), some (.int x3), none] [] (hM p s25 τ) r
                by_cases h28 : x2 = 6
                · rw [if_pos h28] at H
                  refine xp_ok htr 3 (d + 3) 0 0 [eB false] 182 87 [some (.ref 53), some (.int x1), some (.int x2), some (.int x3), none] [] (hM p s25 τ) ⟨h28, ?_⟩
                  show xv l Ω (d + 3) 0 0 182 93 [some (.ref 53), some (.int x1), some (.int x2), some (.int x3), none] [] (hM p s25 τ) r
                  cases q31 : g175 s25 with
                  | none => rw [q31] at H; exact False.elim H
                  | some q310 =>
                    obtain ⟨v29 | v29, s30⟩ := q310
                    · rw [q31] at H; dsimp only at H
                      have hc := g175_run (Ω := Ω) htr (d + 2) p τ  s25 q31
                      refine xp_ok htr 2 (d + 3) 0 0 [eC none (hM p s30 τ)] 182 93 [some (.ref 53), some (.int x1), some (.int x2), some (.int x3), none] [] (hM p s25 τ) ⟨hc, ?_⟩
                      show xv l Ω (d + 3) 0 0 182 97 [some (.ref 53), some (.int x1), some (.int x2), some (.int x3), none] [] (hM p s30 τ) r
                      exact xv_sub (L' := [some (.ref 53), some (.int x1), some (.int x2), some (.int x3), none]) ⟨rfl, ⟨rfl, ⟨rfl, ⟨rfl, trivial⟩⟩⟩⟩ (g182_97_ok htr d p τ x1 x2 x3 s30 r H)
                    · rw [q31] at H; exact False.elim H
                · rw [if_neg h28] at H
                  refine xp_ok htr 3 (d + 3) 0 0 [eB true] 182 87 [some (.ref 53), some (.int x1), some (.int x2), some (.int x3), none] [] (hM p s25 τ) ⟨h28, ?_⟩
                  show xv l Ω (d + 3) 0 0 182 97 [some (.ref 53), some (.int x1), some (.int x2), some (.int x3), none] [] (hM p s25 τ) r
                  exact xv_sub (L' := [some (.ref 53), some (.int x1), some (.int x2), some (.int x3), none]) ⟨rfl, ⟨rfl, ⟨rfl, ⟨rfl, trivial⟩⟩⟩⟩ (g182_97_ok htr d p τ x1 x2 x3 s25 r H)
              · rw [if_neg h27] at H
                refine xp_ok htr 2 (d + 3) 0 0 [eB true] 182 82 [some (.ref 53), some (.int x1), some (.int x2), some (.int x3), none] [.int v24] (hM p s25 τ) ⟨h27, ?_⟩
                show xv l Ω (d + 3) 0 0 182 130 [some (.ref 53), some (.int x1), some (.int x2), some (.int x3), none] [] (hM p s25 τ) r
                cases q39 : g177 0 0 s25 with
                | none => rw [q39] at H; exact False.elim H
                | some q390 =>
                  obtain ⟨v37 | v37, s38⟩ := q390
                  · rw [q39] at H; dsimp only at H
                    have hc := g177_run (Ω := Ω) htr d p τ 0 0 s25 q39
                    refine xp_ok htr 4 (d + 3) 0 0 [eC (some (.int v37)) (hM p s38 τ)] 182 130 [some (.ref 53), some (.int x1), some (.int x2), some (.int x3), none] [] (hM p s25 τ) ⟨hc, ?_⟩
                    show xv l Ω (d + 3) 0 0 182 136 [some (.ref 53), some (.int x1), some (.int x2), some (.int x3), none] [.int v37] (hM p s38 τ) r
                    cases q42 : g171 s38 with
                    | none => rw [q42] at H; exact False.elim H
                    | some q420 =>
                      obtain ⟨v40 | v40, s41⟩ := q420
                      · rw [q42] at H; dsimp only at H
                        have hc := g171_run (Ω := Ω) htr (d + 2) p τ  s38 q42
                        refine xp_ok htr 3 (d + 3) 0 0 [eC (some (.int v40)) (hM p s41 τ)] 182 136 [some (.ref 53), some (.int x1), some (.int x2), some (.int x3), none] [.int v37] (hM p s38 τ) ⟨hc, ?_⟩
                        show xv l Ω (d + 3) 0 0 182 142 [some (.ref 53), some (.int x1), some (.int x2), some (.int x3), some (.int v37)] [.int v40] (hM p s41 τ) r
                        by_cases h43 : v40 = 0
                        · rw [if_pos h43] at H
                          refine xp_ok htr 1 (d + 3) 0 0 [eB true] 182 142 [some (.ref 53), some (.int x1), some (.int x2), some (.int x3), some (.int v37)] [.int v40] (hM p s41 τ) ⟨h43, ?_⟩
                          show xv l Ω (d + 3) 0 0 182 151 [some (.ref 53), some (.int x1), some (.int x2), some (.int x3), some (.int v37)] [] (hM p s41 τ) r
                          exact xv_sub (L' := [some (.ref 53), some (.int x1), some (.int x2), none, none]) ⟨rfl, ⟨rfl, ⟨rfl, trivial⟩⟩⟩ (g182_151_ok htr d p τ x1 x2 s41 r H)
                        · rw [if_neg h43] at H
                          refine xp_ok htr 1 (d + 3) 0 0 [eB false] 182 142 [some (.ref 53), some (.int x1), some (.int x2), some (.int x3), some (.int v37)] [.int v40] (hM p s41 τ) ⟨h43, ?_⟩
                          show xv l Ω (d + 3) 0 0 182 145 [some (.ref 53), some (.int x1), some (.int x2), some (.int x3), some (.int v37)] [] (hM p s41 τ) r
                          cases q46 : g184 v37 s41 with
                          | none => rw [q46] at H; exact False.elim H
                          | some q460 =>
                            obtain ⟨v44 | v44, s45⟩ := q460
                            · rw [q46] at H; dsimp only at H
                              have hc := g184_run (Ω := Ω) htr (d + 2) p τ v37 s41 q46
                              refine xp_ok htr 3 (d + 3) 0 0 [eC none (hM p s45 τ)] 182 145 [some (.ref 53), some (.int x1), some (.int x2), some (.int x3), some (.int v37)] [] (hM p s41 τ) ⟨hc, ?_⟩
                              show xv l Ω (d + 3) 0 0 182 151 [some (.ref 53), some (.int x1), some (.int x2), some (.int x3), some (.int v37)] [] (hM p s45 τ) r
                              exact xv_sub (L' := [some (.ref 53), some (.int x1), some (.int x2), none, none]) ⟨rfl, ⟨rfl, ⟨rfl, trivial⟩⟩⟩ (g182_151_ok htr d p τ x1 x2 s45 r H)
                            · rw [q46] at H; exact False.elim H
                      · rw [q42] at H; exact False.elim H
                  · rw [q39] at H; exact False.elim H
            · rw [q26] at H; exact False.elim H
      · rw [q21] at H; exact False.elim H
theorem g182_6b_ok {l : Launch} {Ω : xo_O} (htr : xH l) (d : Nat) (p : Nat) (τ : Nat → Nat → Int64) (x1 : Int32) (x2 : Int32) (x3 : Int32) (σ : xS) (r : xv_R) (H : xo (xd (a182_6 l Ω d p τ r) (xB true p τ r)) (g182_6b x1 x2 x3 σ)) : xv l Ω (d + 3) 0 0 182 6 [some (.ref 53), some (.int x1), some (.int x2), some (.int x3), none] [] (hM p σ τ) r := by
  unfold g182_6b at H
  cases q3 : g171 σ with
  | none => rw [q3] at H; exact False.elim H
  | some q30 =>
    obtain ⟨v1 | v1, s2⟩ := q30
    · rw [q3] at H; dsimp only at H
      have hc := g171_run (Ω := Ω) htr (d + 2) p τ  σ q3
      refine xp_ok htr 2 (d + 3) 0 0 [eC (some (.int v1)) (hM p s2 τ)] 182 6 [some (.ref 53), some (.int x1), some (.int x2), some (.int x3), none] [] (hM p σ τ) ⟨hc, ?_⟩
      show xv l Ω (d + 3) 0 0 182 10 [some (.ref 53), some (.int x1), some (.int x2), some (.int x3), none] [.int v1] (hM p s2 τ) r
      by_cases h4 : v1 = 0
      · rw [if_pos h4] at H
        refine xp_ok htr 1 (d + 3) 0 0 [eB true] 182 10 [some (.ref 53), some (.int x1), some (.int x2), some (.int x3), none] [.int v1] (hM p s2 τ) ⟨h4, ?_⟩
        show xv l Ω (d + 3) 0 0 182 188 [some (.ref 53), some (.int x1), some (.int x2), some (.int x3), none] [] (hM p s2 τ) r
        exact xp_ok htr 1 (d + 3) 0 0 [] 182 188 [some (.ref 53), some (.int x1), some (.int x2), some (.int x3), none] [] (hM p s2 τ) ⟨trivial, (Eq.symm H)⟩
      · rw [if_neg h4] at H
        refine xp_ok htr 1 (d + 3) 0 0 [eB false] 182 10 [some (.ref 53), some (.int x1), some (.int x2), some (.int x3), none] [.int v1] (hM p s2 τ) ⟨h4, ?_⟩
        show xv l Ω (d + 3) 0 0 182 13 [some (.ref 53), some (.int x1), some (.int x2), some (.int x3), none] [] (hM p s2 τ) r
        by_cases h5 : x3 = 0
        · rw [if_pos h5] at H
          refine xp_ok htr 2 (d + 3) 0 0 [eB false] 182 13 [some (.ref 53), some (.int x1), some (.int x2), some (.int x3), none] [] (hM p s2 τ) ⟨h5, ?_⟩
          show xv l Ω (d + 3) 0 0 182 17 [some (.ref 53), some (.int x1), some (.int x2), some (.int x3), none] [] (hM p s2 τ) r
          by_cases h6 : x1 ≤ 0
          · rw [if_pos h6] at H
            refine xp_ok htr 2 (d + 3) 0 0 [eB true] 182 17 [some (.ref 53), some (.int x1), some (.int x2), some (.int x3), none] [] (hM p s2 τ) ⟨h6, ?_⟩
            show xv l Ω (d + 3) 0 0 182 188 [some (.ref 53), some (.int x1), some (.int x2), some (.int x3), none] [] (hM p s2 τ) r
            exact xp_ok htr 1 (d + 3) 0 0 [] 182 188 [some (.ref 53), some (.int x1), some (.int x2), some (.int x3), none] [] (hM p s2 τ) ⟨trivial, (Eq.symm H)⟩
          · rw [if_neg h6] at H
            refine xp_ok htr 2 (d + 3) 0 0 [eB false] 182 17 [some (.ref 53), some (.int x1), some (.int x2), some (.int x3), none] [] (hM p s2 τ) ⟨h6, ?_⟩
            show xv l Ω (d + 3) 0 0 182 21 [some (.ref 53), some (.int x1), some (.int x2), some (.int x3), none] [] (hM p s2 τ) r
            exact xv_sub (L' := [some (.ref 53), some (.int x1), some (.int x2), some (.int x3), none]) ⟨rfl, ⟨rfl, ⟨rfl, ⟨rfl, trivial⟩⟩⟩⟩ (g182_21_ok htr d p τ x1 x2 x3 s2 r H)
        · rw [if_neg h5] at H
          refine xp_ok htr 2 (d + 3) 0 0 [eB true] 182 13 [some (.ref 53), some (.int x1), some (.int x2), some (.int x3), none] [] (hM p s2 τ) ⟨h5, ?_⟩
          show xv l Ω (d + 3) 0 0 182 21 [some (.ref 53), some (.int x1), some (.int x2), some (.int x3), none] [] (hM p s2 τ) r
          exact xv_sub (L' := [some (.ref 53), some (.int x1), some (.int x2), some (.int x3), none]) ⟨rfl, ⟨rfl, ⟨rfl, ⟨rfl, trivial⟩⟩⟩⟩ (g182_21_ok htr d p τ x1 x2 x3 s2 r H)
    · rw [q3] at H; exact False.elim H
theorem g182_6_ok {l : Launch} {Ω : xo_O} (htr : xH l) (d : Nat) (p : Nat) (τ : Nat → Nat → Int64) (x1 : Int32) (x2 : Int32) (x3 : Int32) (σ : xS) (r : xv_R) (H : xo (xB true p τ r) (g182_6 x1 x2 x3 σ)) : xv l Ω (d + 3) 0 0 182 6 [some (.ref 53), some (.int x1), some (.int x2), some (.int x3), none] [] (hM p σ τ) r :=
  xlo_ok (A := a182_6 l Ω d p τ r) (fun a H => g182_6b_ok htr d p τ a.1 a.2.1 a.2.2.1 a.2.2.2 r H) 1000 (x1, x2, x3, σ) H
theorem g182_run {l : Launch} {Ω : xo_O} (htr : xH l) (d : Nat) (p : Nat) (τ : Nat → Nat → Int64)  (σ : xS) {q : xQ} (hq : g182  σ = some q) : xv l Ω (d + 3) 0 0 182 0 (xs_loc (xm_l 182) [.ref 53]) [] (hM p σ τ) (xq_R true p τ q) := by
  have H : xo (xB true p τ (xq_R true p τ q)) (g182  σ) := by rw [hq]; exact rfl
  generalize xq_R true p τ q = r at H ⊢
  show xv l Ω (d + 3) 0 0 182 0 [some (.ref 53), none, none, none, none] [] (hM p σ τ) r
  unfold g182 at H
  refine xp_ok htr 6 (d + 3) 0 0 [] 182 0 [some (.ref 53), none, none, none, none] [] (hM p σ τ) ?_
  show xv l Ω (d + 3) 0 0 182 6 [some (.ref 53), some (.int 0), some (.int 0), some (.int 1), none] [] (hM p σ τ) r
  exact xv_sub (L' := [some (.ref 53), some (.int 0), some (.int 0), some (.int 1), none]) ⟨rfl, ⟨rfl, ⟨rfl, ⟨rfl, trivial⟩⟩⟩⟩ (g182_6_ok htr d p τ 0 0 1 σ r H)
/- AccessDeskModel.takeCondition -/
def g181_44 (x1 : Int32) (σ : xS) : Option xQ := (bif xn x1 80 then some ((Sum.inl 0, (xh_ui σ 76 (Int32.toNatClampNeg x1) (300 + (σ 53 32))))) else none)
def g181 (a1 : Int32) (σ : xS) : xO := (bif xn a1 80 then (match g171 (xh_ui σ 75 (Int32.toNatClampNeg a1) (300 + (σ 53 32))) with | some (Sum.inl v2, s3) => (if v2 = 0 then g181_44 a1 s3 else (match g173 s3 with | some (Sum.inl v7, s8) => (if v7 = 63 then (match g182 (xh_ui s8 53 19 ((s8 53 19) + 1)) with | some (Sum.inl v11, s12) => g181_44 a1 s12 | some (Sum.inr v11, s12) => none | none => none) else g181_44 a1 s8) | some (Sum.inr v7, s8) => none | none => none)) | some (Sum.inr v2, s3) => none | none => none) else none)
theorem g181_44_ok {l : Launch} {Ω : xo_O} (htr : xH l) (d : Nat) (p : Nat) (τ : Nat → Nat → Int64) (x1 : Int32) (σ : xS) (r : xv_R) (H : xo (xB true p τ r) (g181_44 x1 σ)) : xv l Ω (d + 4) 0 0 181 44 [some (.ref 53), some (.int x1)] [] (hM p σ τ) r := by
  unfold g181_44 at H
  cases g6 : xn x1 80 with
  | false => rw [g6, cond_false] at H; exact False.elim H
  | true =>
    rw [g6, cond_true] at H
    refine xp_ok htr 8 (d + 4) 0 0 [] 181 44 [some (.ref 53), some (.int x1)] [] (hM p σ τ) ⟨(xn_in g6), ?_⟩
    show xv l Ω (d + 4) 0 0 181 58 [some (.ref 53), some (.int x1)] [] (hM p (xh_ui σ 76 (Int32.toNatClampNeg x1) (300 + (σ 53 32))) τ) r
    exact xp_ok htr 1 (d + 4) 0 0 [] 181 58 [some (.ref 53), some (.int x1)] [] (hM p (xh_ui σ 76 (Int32.toNatClampNeg x1) (300 + (σ 53 32))) τ) ⟨trivial, (Eq.symm H)⟩
theorem g181_run {l : Launch} {Ω : xo_O} (htr : xH l) (d : Nat) (p : Nat) (τ : Nat → Nat → Int64) (a1 : Int32) (σ : xS) {q : xQ} (hq : g181 a1 σ = some q) : xv l Ω (d + 4) 0 0 181 0 (xs_loc (xm_l 181) [.ref 53, .int a1]) [] (hM p σ τ) (xq_R true p τ q) := by
  have H : xo (xB true p τ (xq_R true p τ q)) (g181 a1 σ) := by rw [hq]; exact rfl
  generalize xq_R true p τ q = r at H ⊢
  show xv l Ω (d + 4) 0 0 181 0 [some (.ref 53), some (.int a1)] [] (hM p σ τ) r
  unfold g181 at H
  cases g1 : xn a1 80 with
  | false => rw [g1, cond_false] at H; exact False.elim H
  | true =>
    rw [g1, cond_true] at H
    refine xp_ok htr 8 (d + 4) 0 0 [] 181 0 [some (.ref 53), some (.int a1)] [] (hM p σ τ) ⟨(xn_in g1), ?_⟩
    show xv l Ω (d + 4) 0 0 181 14 [some (.ref 53), some (.int a1)] [] (hM p (xh_ui σ 75 (Int32.toNatClampNeg a1) (300 + (σ 53 32))) τ) r
    cases q4 : g171 (xh_ui σ 75 (Int32.toNatClampNeg a1) (300 + (σ 53 32))) with
    | none => rw [q4] at H; exact False.elim H
    | some q40 =>
      obtain ⟨v2 | v2, s3⟩ := q40
      · rw [q4] at H; dsimp only at H
        have hc := g171_run (Ω := Ω) htr (d + 3) p τ  (xh_ui σ 75 (Int32.toNatClampNeg a1) (300 + (σ 53 32))) q4
        refine xp_ok htr 2 (d + 4) 0 0 [eC (some (.int v2)) (hM p s3 τ)] 181 14 [some (.ref 53), some (.int a1)] [] (hM p (xh_ui σ 75 (Int32.toNatClampNeg a1) (300 + (σ 53 32))) τ) ⟨hc, ?_⟩
        show xv l Ω (d + 4) 0 0 181 18 [some (.ref 53), some (.int a1)] [.int v2] (hM p s3 τ) r
        by_cases h5 : v2 = 0
        · rw [if_pos h5] at H
          refine xp_ok htr 1 (d + 4) 0 0 [eB true] 181 18 [some (.ref 53), some (.int a1)] [.int v2] (hM p s3 τ) ⟨h5, ?_⟩
          show xv l Ω (d + 4) 0 0 181 44 [some (.ref 53), some (.int a1)] [] (hM p s3 τ) r
          exact xv_sub (L' := [some (.ref 53), some (.int a1)]) ⟨rfl, ⟨rfl, trivial⟩⟩ (g181_44_ok htr d p τ a1 s3 r H)
        · rw [if_neg h5] at H
          refine xp_ok htr 1 (d + 4) 0 0 [eB false] 181 18 [some (.ref 53), some (.int a1)] [.int v2] (hM p s3 τ) ⟨h5, ?_⟩
          show xv l Ω (d + 4) 0 0 181 21 [some (.ref 53), some (.int a1)] [] (hM p s3 τ) r
          cases q9 : g173 s3 with
          | none => rw [q9] at H; exact False.elim H
          | some q90 =>
            obtain ⟨v7 | v7, s8⟩ := q90
            · rw [q9] at H; dsimp only at H
              have hc := g173_run (Ω := Ω) htr (d + 3) p τ  s3 q9
              refine xp_ok htr 2 (d + 4) 0 0 [eC (some (.int v7)) (hM p s8 τ)] 181 21 [some (.ref 53), some (.int a1)] [] (hM p s3 τ) ⟨hc, ?_⟩
              show xv l Ω (d + 4) 0 0 181 25 [some (.ref 53), some (.int a1)] [.int v7] (hM p s8 τ) r
              by_cases h10 : v7 = 63
              · rw [if_pos h10] at H
                refine xp_ok htr 2 (d + 4) 0 0 [eB false] 181 25 [some (.ref 53), some (.int a1)] [.int v7] (hM p s8 τ) ⟨h10, ?_⟩
                show xv l Ω (d + 4) 0 0 181 30 [some (.ref 53), some (.int a1)] [] (hM p s8 τ) r
                cases q13 : g182 (xh_ui s8 53 19 ((s8 53 19) + 1)) with
                | none => rw [q13] at H; exact False.elim H
                | some q130 =>
                  obtain ⟨v11 | v11, s12⟩ := q130
                  · rw [q13] at H; dsimp only at H
                    have hc := g182_run (Ω := Ω) htr d p τ  (xh_ui s8 53 19 ((s8 53 19) + 1)) q13
                    refine xp_ok htr 8 (d + 4) 0 0 [eC none (hM p s12 τ)] 181 30 [some (.ref 53), some (.int a1)] [] (hM p s8 τ) ⟨hc, ?_⟩
                    show xv l Ω (d + 4) 0 0 181 44 [some (.ref 53), some (.int a1)] [] (hM p s12 τ) r
                    exact xv_sub (L' := [some (.ref 53), some (.int a1)]) ⟨rfl, ⟨rfl, trivial⟩⟩ (g181_44_ok htr d p τ a1 s12 r H)
                  · rw [q13] at H; exact False.elim H
              · rw [if_neg h10] at H
                refine xp_ok htr 2 (d + 4) 0 0 [eB true] 181 25 [some (.ref 53), some (.int a1)] [.int v7] (hM p s8 τ) ⟨h10, ?_⟩
                show xv l Ω (d + 4) 0 0 181 44 [some (.ref 53), some (.int a1)] [] (hM p s8 τ) r
                exact xv_sub (L' := [some (.ref 53), some (.int a1)]) ⟨rfl, ⟨rfl, trivial⟩⟩ (g181_44_ok htr d p τ a1 s8 r H)
            · rw [q9] at H; exact False.elim H
      · rw [q4] at H; exact False.elim H
/- AccessDeskModel.takeDuties -/
def g185_86 (x2 : Int32) (σ : xS) : Option xQ := (if x2 = 0 then (match g175 σ with | some (Sum.inl v14, s15) => some ((Sum.inl x2, s15)) | some (Sum.inr v14, s15) => none | none => none) else some ((Sum.inl x2, σ)))
def g185_29b (x2 : Int32) (σ : xS) : Option ((Int32 × xS) ⊕ xQ) := (match g173 σ with | some (Sum.inl v9, s10) => (if v9 < 48 then Option.map Sum.inr (g185_86 x2 s10) else (match g173 s10 with | some (Sum.inl v17, s18) => (if 55 < v17 then Option.map Sum.inr (g185_86 x2 s18) else (match g173 s18 with | some (Sum.inl v21, s22) => (if ((x2 >>> ((v21 - 48) &&& 31)) &&& 1) = 0 then (match g173 s22 with | some (Sum.inl v25, s26) => some (Sum.inl ((x2 ||| (1 <<< ((v25 - 48) &&& 31))), (xh_ui s26 53 19 ((s26 53 19) + 1)))) | some (Sum.inr v25, s26) => none | none => none) else Option.map Sum.inr (g185_86 x2 s22)) | some (Sum.inr v21, s22) => none | none => none)) | some (Sum.inr v17, s18) => none | none => none)) | some (Sum.inr v9, s10) => none | none => none)
def g185_29 (x2 : Int32) (σ : xS) : Option xQ := xlo (fun a : Int32 × xS => g185_29b a.1 a.2) 1000 (x2, σ)
def g185 (a1 : Int32) (σ : xS) : xO := (match g171 σ with | some (Sum.inl v1, s2) => (if v1 = 0 then some ((Sum.inl 0, s2)) else (match g173 s2 with | some (Sum.inl v5, s6) => (if v5 = a1 then g185_29 0 (xh_ui s6 53 19 ((s6 53 19) + 1)) else some ((Sum.inl 0, s6))) | some (Sum.inr v5, s6) => none | none => none)) | some (Sum.inr v1, s2) => none | none => none)
def a185_29 (l : Launch) (Ω : xo_O) (d p : Nat) (τ : Nat → Nat → Int64) (r : xv_R) : Int32 × xS → Prop := fun a => xv l Ω (d + 1) 0 0 185 29 [some (.ref 53), none, some (.int a.1)] [] (hM p a.2 τ) r
theorem g185_86_ok {l : Launch} {Ω : xo_O} (htr : xH l) (d : Nat) (p : Nat) (τ : Nat → Nat → Int64) (x2 : Int32) (σ : xS) (r : xv_R) (H : xo (xB false p τ r) (g185_86 x2 σ)) : xv l Ω (d + 1) 0 0 185 86 [some (.ref 53), none, some (.int x2)] [] (hM p σ τ) r := by
  unfold g185_86 at H
  by_cases h13 : x2 = 0
  · rw [if_pos h13] at H
    refine xp_ok htr 2 (d + 1) 0 0 [eB false] 185 86 [some (.ref 53), none, some (.int x2)] [] (hM p σ τ) ⟨h13, ?_⟩
    show xv l Ω (d + 1) 0 0 185 90 [some (.ref 53), none, some (.int x2)] [] (hM p σ τ) r
    cases q16 : g175 σ with
    | none => rw [q16] at H; exact False.elim H
    | some q160 =>
      obtain ⟨v14 | v14, s15⟩ := q160
      · rw [q16] at H; dsimp only at H
        have hc := g175_run (Ω := Ω) htr d p τ  σ q16
        refine xp_ok htr 2 (d + 1) 0 0 [eC none (hM p s15 τ)] 185 90 [some (.ref 53), none, some (.int x2)] [] (hM p σ τ) ⟨hc, ?_⟩
        show xv l Ω (d + 1) 0 0 185 94 [some (.ref 53), none, some (.int x2)] [] (hM p s15 τ) r
        exact xp_ok htr 2 (d + 1) 0 0 [] 185 94 [some (.ref 53), none, some (.int x2)] [] (hM p s15 τ) ⟨trivial, (Eq.symm H)⟩
      · rw [q16] at H; exact False.elim H
  · rw [if_neg h13] at H
    refine xp_ok htr 2 (d + 1) 0 0 [eB true] 185 86 [some (.ref 53), none, some (.int x2)] [] (hM p σ τ) ⟨h13, ?_⟩
    show xv l Ω (d + 1) 0 0 185 94 [some (.ref 53), none, some (.int x2)] [] (hM p σ τ) r
    exact xp_ok htr 2 (d + 1) 0 0 [] 185 94 [some (.ref 53), none, some (.int x2)] [] (hM p σ τ) ⟨trivial, (Eq.symm H)⟩
theorem g185_29b_ok {l : Launch} {Ω : xo_O} (htr : xH l) (d : Nat) (p : Nat) (τ : Nat → Nat → Int64) (x2 : Int32) (σ : xS) (r : xv_R) (H : xo (xd (a185_29 l Ω d p τ r) (xB false p τ r)) (g185_29b x2 σ)) : xv l Ω (d + 1) 0 0 185 29 [some (.ref 53), none, some (.int x2)] [] (hM p σ τ) r := by
  unfold g185_29b at H
  cases q11 : g173 σ with
  | none => rw [q11] at H; exact False.elim H
  | some q110 =>
    obtain ⟨v9 | v9, s10⟩ := q110
    · rw [q11] at H; dsimp only at H
      have hc := g173_run (Ω := Ω) htr d p τ  σ q11
      refine xp_ok htr 2 (d + 1) 0 0 [eC (some (.int v9)) (hM p s10 τ)] 185 29 [some (.ref 53), none, some (.int x2)] [] (hM p σ τ) ⟨hc, ?_⟩
      show xv l Ω (d + 1) 0 0 185 33 [some (.ref 53), none, some (.int x2)] [.int v9] (hM p s10 τ) r
      by_cases h12 : v9 < 48
      · rw [if_pos h12] at H
        refine xp_ok htr 2 (d + 1) 0 0 [eB true] 185 33 [some (.ref 53), none, some (.int x2)] [.int v9] (hM p s10 τ) ⟨h12, ?_⟩
        show xv l Ω (d + 1) 0 0 185 86 [some (.ref 53), none, some (.int x2)] [] (hM p s10 τ) r
        exact xv_sub (L' := [some (.ref 53), none, some (.int x2)]) ⟨rfl, ⟨rfl, trivial⟩⟩ (g185_86_ok htr d p τ x2 s10 r (xo_map H))
      · rw [if_neg h12] at H
        refine xp_ok htr 2 (d + 1) 0 0 [eB false] 185 33 [some (.ref 53), none, some (.int x2)] [.int v9] (hM p s10 τ) ⟨h12, ?_⟩
        show xv l Ω (d + 1) 0 0 185 38 [some (.ref 53), none, some (.int x2)] [] (hM p s10 τ) r
        cases q19 : g173 s10 with
        | none => rw [q19] at H; exact False.elim H
        | some q190 =>
          obtain ⟨v17 | v17, s18⟩ := q190
          · rw [q19] at H; dsimp only at H
            have hc := g173_run (Ω := Ω) htr d p τ  s10 q19
            refine xp_ok htr 2 (d + 1) 0 0 [eC (some (.int v17)) (hM p s18 τ)] 185 38 [some (.ref 53), none, some (.int x2)] [] (hM p s10 τ) ⟨hc, ?_⟩
            show xv l Ω (d + 1) 0 0 185 42 [some (.ref 53), none, some (.int x2)] [.int v17] (hM p s18 τ) r
            by_cases h20 : 55 < v17
            · rw [if_pos h20] at H
              refine xp_ok htr 2 (d + 1) 0 0 [eB true] 185 42 [some (.ref 53), none, some (.int x2)] [.int v17] (hM p s18 τ) ⟨h20, ?_⟩
              show xv l Ω (d + 1) 0 0 185 86 [some (.ref 53), none, some (.int x2)] [] (hM p s18 τ) r
              exact xv_sub (L' := [some (.ref 53), none, some (.int x2)]) ⟨rfl, ⟨rfl, trivial⟩⟩ (g185_86_ok htr d p τ x2 s18 r (xo_map H))
            · rw [if_neg h20] at H
              refine xp_ok htr 2 (d + 1) 0 0 [eB false] 185 42 [some (.ref 53), none, some (.int x2)] [.int v17] (hM p s18 τ) ⟨h20, ?_⟩
              show xv l Ω (d + 1) 0 0 185 47 [some (.ref 53), none, some (.int x2)] [] (hM p s18 τ) r
              cases q23 : g173 s18 with
              | none => rw [q23] at H; exact False.elim H
              | some q230 =>
                obtain ⟨v21 | v21, s22⟩ := q230
                · rw [q23] at H; dsimp only at H
                  have hc := g173_run (Ω := Ω) htr d p τ  s18 q23
                  refine xp_ok htr 3 (d + 1) 0 0 [eC (some (.int v21)) (hM p s22 τ)] 185 47 [some (.ref 53), none, some (.int x2)] [] (hM p s18 τ) ⟨hc, ?_⟩
                  show xv l Ω (d + 1) 0 0 185 52 [some (.ref 53), none, some (.int x2)] [.int v21, .int x2] (hM p s22 τ) r
                  by_cases h24 : ((x2 >>> ((v21 - 48) &&& 31)) &&& 1) = 0
                  · rw [if_pos h24] at H
                    refine xp_ok htr 6 (d + 1) 0 0 [eB false] 185 52 [some (.ref 53), none, some (.int x2)] [.int v21, .int x2] (hM p s22 τ) ⟨h24, ?_⟩
                    show xv l Ω (d + 1) 0 0 185 61 [some (.ref 53), none, some (.int x2)] [] (hM p s22 τ) r
                    cases q27 : g173 s22 with
                    | none => rw [q27] at H; exact False.elim H
                    | some q270 =>
                      obtain ⟨v25 | v25, s26⟩ := q270
                      · rw [q27] at H; dsimp only at H
                        have hc := g173_run (Ω := Ω) htr d p τ  s22 q27
                        refine xp_ok htr 4 (d + 1) 0 0 [eC (some (.int v25)) (hM p s26 τ)] 185 61 [some (.ref 53), none, some (.int x2)] [] (hM p s22 τ) ⟨hc, ?_⟩
                        show xv l Ω (d + 1) 0 0 185 67 [some (.ref 53), none, some (.int x2)] [.int v25, .int 1, .int x2] (hM p s26 τ) r
                        refine xp_ok htr 8 (d + 1) 0 0 [] 185 67 [some (.ref 53), none, some (.int x2)] [.int v25, .int 1, .int x2] (hM p s26 τ) ?_
                        show xv l Ω (d + 1) 0 0 185 78 [some (.ref 53), none, some (.int (x2 ||| (1 <<< ((v25 - 48) &&& 31))))] [.int (s26 53 19), .ref 53] (hM p s26 τ) r
                        refine xp_ok htr 4 (d + 1) 0 0 [] 185 78 [some (.ref 53), none, some (.int (x2 ||| (1 <<< ((v25 - 48) &&& 31))))] [.int (s26 53 19), .ref 53] (hM p s26 τ) ?_
                        show xv l Ω (d + 1) 0 0 185 29 [some (.ref 53), none, some (.int (x2 ||| (1 <<< ((v25 - 48) &&& 31))))] [] (hM p (xh_ui s26 53 19 ((s26 53 19) + 1)) τ) r
                        exact xv_sub (L' := [some (.ref 53), none, some (.int (x2 ||| (1 <<< ((v25 - 48) &&& 31))))]) ⟨rfl, ⟨rfl, trivial⟩⟩ H
                      · rw [q27] at H; exact False.elim H
                  · rw [if_neg h24] at H
                    refine xp_ok htr 6 (d + 1) 0 0 [eB true] 185 52 [some (.ref 53), none, some (.int x2)] [.int v21, .int x2] (hM p s22 τ) ⟨h24, ?_⟩
                    show xv l Ω (d + 1) 0 0 185 86 [some (.ref 53), none, some (.int x2)] [] (hM p s22 τ) r
                    exact xv_sub (L' := [some (.ref 53), none, some (.int x2)]) ⟨rfl, ⟨rfl, trivial⟩⟩ (g185_86_ok htr d p τ x2 s22 r (xo_map H))
                · rw [q23] at H; exact False.elim H
          · rw [q19] at H; exact False.elim H
    · rw [q11] at H; exact False.elim H
theorem g185_29_ok {l : Launch} {Ω : xo_O} (htr : xH l) (d : Nat) (p : Nat) (τ : Nat → Nat → Int64) (x2 : Int32) (σ : xS) (r : xv_R) (H : xo (xB false p τ r) (g185_29 x2 σ)) : xv l Ω (d + 1) 0 0 185 29 [some (.ref 53), none, some (.int x2)] [] (hM p σ τ) r :=
  xlo_ok (A := a185_29 l Ω d p τ r) (fun a H => g185_29b_ok htr d p τ a.1 a.2 r H) 1000 (x2, σ) H
theorem g185_run {l : Launch} {Ω : xo_O} (htr : xH l) (d : Nat) (p : Nat) (τ : Nat → Nat → Int64) (a1 : Int32) (σ : xS) {q : xQ} (hq : g185 a1 σ = some q) : xv l Ω (d + 1) 0 0 185 0 (xs_loc (xm_l 185) [.ref 53, .int a1]) [] (hM p σ τ) (xq_R false p τ q) := by
  have H : xo (xB false p τ (xq_R false p τ q)) (g185 a1 σ) := by rw [hq]; exact rfl
  generalize xq_R false p τ q = r at H ⊢
  show xv l Ω (d + 1) 0 0 185 0 [some (.ref 53), some (.int a1), none] [] (hM p σ τ) r
  unfold g185 at H
  cases q3 : g171 σ with
  | none => rw [q3] at H; exact False.elim H
  | some q30 =>
    obtain ⟨v1 | v1, s2⟩ := q30
    · rw [q3] at H; dsimp only at H
      have hc := g171_run (Ω := Ω) htr d p τ  σ q3
      refine xp_ok htr 2 (d + 1) 0 0 [eC (some (.int v1)) (hM p s2 τ)] 185 0 [some (.ref 53), some (.int a1), none] [] (hM p σ τ) ⟨hc, ?_⟩
      show xv l Ω (d + 1) 0 0 185 4 [some (.ref 53), some (.int a1), none] [.int v1] (hM p s2 τ) r
      by_cases h4 : v1 = 0
      · rw [if_pos h4] at H
        refine xp_ok htr 1 (d + 1) 0 0 [eB true] 185 4 [some (.ref 53), some (.int a1), none] [.int v1] (hM p s2 τ) ⟨h4, ?_⟩
        show xv l Ω (d + 1) 0 0 185 15 [some (.ref 53), some (.int a1), none] [] (hM p s2 τ) r
        exact xp_ok htr 2 (d + 1) 0 0 [] 185 15 [some (.ref 53), some (.int a1), none] [] (hM p s2 τ) ⟨trivial, (Eq.symm H)⟩
      · rw [if_neg h4] at H
        refine xp_ok htr 1 (d + 1) 0 0 [eB false] 185 4 [some (.ref 53), some (.int a1), none] [.int v1] (hM p s2 τ) ⟨h4, ?_⟩
        show xv l Ω (d + 1) 0 0 185 7 [some (.ref 53), some (.int a1), none] [] (hM p s2 τ) r
        cases q7 : g173 s2 with
        | none => rw [q7] at H; exact False.elim H
        | some q70 =>
          obtain ⟨v5 | v5, s6⟩ := q70
          · rw [q7] at H; dsimp only at H
            have hc := g173_run (Ω := Ω) htr d p τ  s2 q7
            refine xp_ok htr 2 (d + 1) 0 0 [eC (some (.int v5)) (hM p s6 τ)] 185 7 [some (.ref 53), some (.int a1), none] [] (hM p s2 τ) ⟨hc, ?_⟩
            show xv l Ω (d + 1) 0 0 185 11 [some (.ref 53), some (.int a1), none] [.int v5] (hM p s6 τ) r
            by_cases h8 : v5 = a1
            · rw [if_pos h8] at H
              refine xp_ok htr 2 (d + 1) 0 0 [eB true] 185 11 [some (.ref 53), some (.int a1), none] [.int v5] (hM p s6 τ) ⟨h8, ?_⟩
              show xv l Ω (d + 1) 0 0 185 17 [some (.ref 53), some (.int a1), none] [] (hM p s6 τ) r
              refine xp_ok htr 8 (d + 1) 0 0 [] 185 17 [some (.ref 53), some (.int a1), none] [] (hM p s6 τ) ?_
              show xv l Ω (d + 1) 0 0 185 29 [some (.ref 53), some (.int a1), some (.int 0)] [] (hM p (xh_ui s6 53 19 ((s6 53 19) + 1)) τ) r
              exact xv_sub (L' := [some (.ref 53), none, some (.int 0)]) ⟨rfl, ⟨rfl, trivial⟩⟩ (g185_29_ok htr d p τ 0 (xh_ui s6 53 19 ((s6 53 19) + 1)) r H)
            · rw [if_neg h8] at H
              refine xp_ok htr 2 (d + 1) 0 0 [eB false] 185 11 [some (.ref 53), some (.int a1), none] [.int v5] (hM p s6 τ) ⟨h8, ?_⟩
              show xv l Ω (d + 1) 0 0 185 15 [some (.ref 53), some (.int a1), none] [] (hM p s6 τ) r
              exact xp_ok htr 2 (d + 1) 0 0 [] 185 15 [some (.ref 53), some (.int a1), none] [] (hM p s6 τ) ⟨trivial, (Eq.symm H)⟩
          · rw [q7] at H; exact False.elim H
    · rw [q3] at H; exact False.elim H
/- AccessDeskModel.takeNode -/
def g172_99  (σ : xS) : Option xQ := (match g175 σ with | some (Sum.inl v7, s8) => some ((Sum.inl 0, s8)) | some (Sum.inr v7, s8) => none | none => none)
def g172_228 (x4 : Int32) (σ : xS) : Option xQ := (bif xn (σ 53 40) 8 then some ((Sum.inl 1, (xh_ui (xh_ui σ 85 (Int32.toNatClampNeg (σ 53 40)) x4) 53 40 (((xh_ui σ 85 (Int32.toNatClampNeg (σ 53 40)) x4) 53 40) + 1)))) else none)
def g172_292  (σ : xS) : Option xQ := (match g171 σ with | some (Sum.inl v41, s42) => (if v41 = 0 then some ((Sum.inl 0, s42)) else (match g180 59 s42 with | some (Sum.inl v45, s46) => some ((Sum.inl 0, s46)) | some (Sum.inr v45, s46) => none | none => none)) | some (Sum.inr v41, s42) => none | none => none)
def g172_162 (x1 : Int32) (x2 : Int32) (x4 : Int32) (k1 : Int32) (k2 : Int32) (σ : xS) : Option xQ := (bif xn k1 80 then (bif xn x4 80 then (match g176 x4 (xh_ui (xh_ui (xh_ui (xh_ui σ 72 (Int32.toNatClampNeg k1) k2) 77 (Int32.toNatClampNeg x4) 0) 78 (Int32.toNatClampNeg x4) 0) 53 19 (((xh_ui (xh_ui (xh_ui σ 72 (Int32.toNatClampNeg k1) k2) 77 (Int32.toNatClampNeg x4) 0) 78 (Int32.toNatClampNeg x4) 0) 53 19) + 1)) with | some (Sum.inl v22, s23) => (if x2 = 0 then (match g171 (xh_ui (xh_ui s23 75 (Int32.toNatClampNeg x4) 0) 76 (Int32.toNatClampNeg x4) 0) with | some (Sum.inl v26, s27) => (if v26 = 0 then g172_228 x4 s27 else (match g180 123 s27 with | some (Sum.inl v31, s32) => g172_228 x4 s32 | some (Sum.inr v31, s32) => none | none => none)) | some (Sum.inr v26, s27) => none | none => none) else (match g181 x4 (xh_ui (xh_ui s23 75 (Int32.toNatClampNeg x4) 0) 76 (Int32.toNatClampNeg x4) 0) with | some (Sum.inl v34, s35) => (match g185 43 s35 with | some (Sum.inl v37, s38) => (if x1 = 112 then g172_292 (xh_ui s38 77 (Int32.toNatClampNeg x4) v37) else g172_292 (xh_ui s38 78 (Int32.toNatClampNeg x4) v37)) | some (Sum.inr v37, s38) => none | none => none) | some (Sum.inr v34, s35) => none | none => none)) | some (Sum.inr v22, s23) => none | none => none) else none) else none)
def g172_105 (x1 : Int32) (x2 : Int32) (σ : xS) : Option xQ := (bif xn (40 + (σ 70 1)) 80 then (if ((xh_ui (xh_ui σ 70 1 ((σ 70 1) + 1)) 71 (Int32.toNatClampNeg (40 + (σ 70 1))) x1) 53 40) = 0 then g172_162 x1 x2 (40 + (σ 70 1)) (40 + (σ 70 1)) (-1) (xh_ui (xh_ui σ 70 1 ((σ 70 1) + 1)) 71 (Int32.toNatClampNeg (40 + (σ 70 1))) x1) else (bif xn (((xh_ui (xh_ui σ 70 1 ((σ 70 1) + 1)) 71 (Int32.toNatClampNeg (40 + (σ 70 1))) x1) 53 40) - 1) 8 then g172_162 x1 x2 (40 + (σ 70 1)) (40 + (σ 70 1)) ((xh_ui (xh_ui σ 70 1 ((σ 70 1) + 1)) 71 (Int32.toNatClampNeg (40 + (σ 70 1))) x1) 85 (Int32.toNatClampNeg (((xh_ui (xh_ui σ 70 1 ((σ 70 1) + 1)) 71 (Int32.toNatClampNeg (40 + (σ 70 1))) x1) 53 40) - 1))) (xh_ui (xh_ui σ 70 1 ((σ 70 1) + 1)) 71 (Int32.toNatClampNeg (40 + (σ 70 1))) x1) else none)) else none)
def g172_87 (x1 : Int32) (x2 : Int32) (σ : xS) : Option xQ := (if x2 = 0 then (if (σ 53 40) = 5 then g172_99 σ else g172_105 x1 x2 σ) else g172_105 x1 x2 σ)
def g172_79 (x1 : Int32) (x2 : Int32) (x3 : Int32) (σ : xS) : Option xQ := (if x2 = 0 then g172_87 x1 x2 σ else (if x3 = 0 then g172_87 x1 x2 σ else g172_99 σ))
def g172_56 (x1 : Int32) (x2 : Int32) (k0 : Int32) (σ : xS) : Option xQ := (if (σ 70 1) = 40 then g172_99 σ else (if x2 = 0 then (match g174 x1 σ with | some (Sum.inl v11, s12) => (if v11 = 0 then g172_99 s12 else g172_79 x1 x2 k0 s12) | some (Sum.inr v11, s12) => none | none => none) else g172_79 x1 x2 k0 σ))
def g172_55 (x1 : Int32) (x2 : Int32) (σ : xS) : Option xQ := g172_56 x1 x2 0 σ
def g172_22 (x1 : Int32) (k0 : Int32) (σ : xS) : Option xQ := (if (σ 53 40) ≤ 0 then g172_55 x1 k0 σ else (bif xn ((σ 53 40) - 1) 8 then (bif xn (σ 85 (Int32.toNatClampNeg ((σ 53 40) - 1))) 80 then (if (σ 71 (Int32.toNatClampNeg (σ 85 (Int32.toNatClampNeg ((σ 53 40) - 1))))) = 79 then g172_56 x1 k0 1 σ else g172_55 x1 k0 σ) else none) else none))
def g172_17 (x1 : Int32) (σ : xS) : Option xQ := g172_22 x1 1 σ
def g172  (σ : xS) : xO := (match g173 σ with | some (Sum.inl v1, s2) => (if v1 = 112 then g172_17 v1 s2 else (if v1 = 100 then g172_17 v1 s2 else g172_22 v1 0 s2)) | some (Sum.inr v1, s2) => none | none => none)
theorem g172_99_ok {l : Launch} {Ω : xo_O} (htr : xH l) (d : Nat) (p : Nat) (τ : Nat → Nat → Int64)  (σ : xS) (r : xv_R) (H : xo (xB false p τ r) (g172_99 σ)) : xv l Ω (d + 5) 0 0 172 99 [some (.ref 53), none, none, none, none, none] [] (hM p σ τ) r := by
  unfold g172_99 at H
  cases q9 : g175 σ with
  | none => rw [q9] at H; exact False.elim H
  | some q90 =>
    obtain ⟨v7 | v7, s8⟩ := q90
    · rw [q9] at H; dsimp only at H
      have hc := g175_run (Ω := Ω) htr (d + 4) p τ  σ q9
      refine xp_ok htr 2 (d + 5) 0 0 [eC none (hM p s8 τ)] 172 99 [some (.ref 53), none, none, none, none, none] [] (hM p σ τ) ⟨hc, ?_⟩
      show xv l Ω (d + 5) 0 0 172 103 [some (.ref 53), none, none, none, none, none] [] (hM p s8 τ) r
      exact xp_ok htr 2 (d + 5) 0 0 [] 172 103 [some (.ref 53), none, none, none, none, none] [] (hM p s8 τ) ⟨Or.inl rfl, (Eq.symm H)⟩
    · rw [q9] at H; exact False.elim H
theorem g172_228_ok {l : Launch} {Ω : xo_O} (htr : xH l) (d : Nat) (p : Nat) (τ : Nat → Nat → Int64) (x4 : Int32) (σ : xS) (r : xv_R) (H : xo (xB false p τ r) (g172_228 x4 σ)) : xv l Ω (d + 5) 0 0 172 228 [some (.ref 53), none, none, none, some (.int x4), none] [] (hM p σ τ) r := by
  unfold g172_228 at H
  cases g30 : xn (σ 53 40) 8 with
  | false => rw [g30, cond_false] at H; exact False.elim H
  | true =>
    rw [g30, cond_true] at H
    refine xp_ok htr 8 (d + 5) 0 0 [] 172 228 [some (.ref 53), none, none, none, some (.int x4), none] [] (hM p σ τ) ⟨(xn_in g30), ?_⟩
    show xv l Ω (d + 5) 0 0 172 241 [some (.ref 53), none, none, none, some (.int x4), none] [.ref 53, .ref 53] (hM p (xh_ui σ 85 (Int32.toNatClampNeg (σ 53 40)) x4) τ) r
    exact xp_ok htr 6 (d + 5) 0 0 [] 172 241 [some (.ref 53), none, none, none, some (.int x4), none] [.ref 53, .ref 53] (hM p (xh_ui σ 85 (Int32.toNatClampNeg (σ 53 40)) x4) τ) ⟨Or.inr rfl, (Eq.symm H)⟩
theorem g172_292_ok {l : Launch} {Ω : xo_O} (htr : xH l) (d : Nat) (p : Nat) (τ : Nat → Nat → Int64)  (σ : xS) (r : xv_R) (H : xo (xB false p τ r) (g172_292 σ)) : xv l Ω (d + 5) 0 0 172 292 [some (.ref 53), none, none, none, none, none] [] (hM p σ τ) r := by
  unfold g172_292 at H
  cases q43 : g171 σ with
  | none => rw [q43] at H; exact False.elim H
  | some q430 =>
    obtain ⟨v41 | v41, s42⟩ := q430
    · rw [q43] at H; dsimp only at H
      have hc := g171_run (Ω := Ω) htr (d + 4) p τ  σ q43
      refine xp_ok htr 2 (d + 5) 0 0 [eC (some (.int v41)) (hM p s42 τ)] 172 292 [some (.ref 53), none, none, none, none, none] [] (hM p σ τ) ⟨hc, ?_⟩
      show xv l Ω (d + 5) 0 0 172 296 [some (.ref 53), none, none, none, none, none] [.int v41] (hM p s42 τ) r
      by_cases h44 : v41 = 0
      · rw [if_pos h44] at H
        refine xp_ok htr 1 (d + 5) 0 0 [eB true] 172 296 [some (.ref 53), none, none, none, none, none] [.int v41] (hM p s42 τ) ⟨h44, ?_⟩
        show xv l Ω (d + 5) 0 0 172 305 [some (.ref 53), none, none, none, none, none] [] (hM p s42 τ) r
        exact xp_ok htr 2 (d + 5) 0 0 [] 172 305 [some (.ref 53), none, none, none, none, none] [] (hM p s42 τ) ⟨Or.inl rfl, (Eq.symm H)⟩
      · rw [if_neg h44] at H
        refine xp_ok htr 1 (d + 5) 0 0 [eB false] 172 296 [some (.ref 53), none, none, none, none, none] [.int v41] (hM p s42 τ) ⟨h44, ?_⟩
        show xv l Ω (d + 5) 0 0 172 299 [some (.ref 53), none, none, none, none, none] [] (hM p s42 τ) r
        cases q47 : g180 59 s42 with
        | none => rw [q47] at H; exact False.elim H
        | some q470 =>
          obtain ⟨v45 | v45, s46⟩ := q470
          · rw [q47] at H; dsimp only at H
            have hc := g180_run (Ω := Ω) htr (d + 3) p τ 59 s42 q47
            refine xp_ok htr 3 (d + 5) 0 0 [eC none (hM p s46 τ)] 172 299 [some (.ref 53), none, none, none, none, none] [] (hM p s42 τ) ⟨hc, ?_⟩
            show xv l Ω (d + 5) 0 0 172 305 [some (.ref 53), none, none, none, none, none] [] (hM p s46 τ) r
            exact xp_ok htr 2 (d + 5) 0 0 [] 172 305 [some (.ref 53), none, none, none, none, none] [] (hM p s46 τ) ⟨Or.inl rfl, (Eq.symm H)⟩
          · rw [q47] at H; exact False.elim H
    · rw [q43] at H; exact False.elim H
theorem g172_162_ok {l : Launch} {Ω : xo_O} (htr : xH l) (d : Nat) (p : Nat) (τ : Nat → Nat → Int64) (x1 : Int32) (x2 : Int32) (x4 : Int32) (k1 : Int32) (k2 : Int32) (σ : xS) (r : xv_R) (H : xo (xB false p τ r) (g172_162 x1 x2 x4 k1 k2 σ)) : xv l Ω (d + 5) 0 0 172 162 [some (.ref 53), some (.int x1), some (.int x2), none, some (.int x4), none] [.int k2, .int k1, .ref 72] (hM p σ τ) r := by
  unfold g172_162 at H
  cases g20 : xn k1 80 with
  | false => rw [g20, cond_false] at H; exact False.elim H
  | true =>
    rw [g20, cond_true] at H
    cases g21 : xn x4 80 with
    | false => rw [g21, cond_false] at H; exact False.elim H
    | true =>
      rw [g21, cond_true] at H
      refine xp_ok htr 8 (d + 5) 0 0 [] 172 162 [some (.ref 53), some (.int x1), some (.int x2), none, some (.int x4), none] [.int k2, .int k1, .ref 72] (hM p σ τ) ⟨(xn_in g20), (xn_in g21), ?_⟩
      show xv l Ω (d + 5) 0 0 172 175 [some (.ref 53), some (.int x1), some (.int x2), none, some (.int x4), none] [.ref 78] (hM p (xh_ui (xh_ui σ 72 (Int32.toNatClampNeg k1) k2) 77 (Int32.toNatClampNeg x4) 0) τ) r
      refine xp_ok htr 8 (d + 5) 0 0 [] 172 175 [some (.ref 53), some (.int x1), some (.int x2), none, some (.int x4), none] [.ref 78] (hM p (xh_ui (xh_ui σ 72 (Int32.toNatClampNeg k1) k2) 77 (Int32.toNatClampNeg x4) 0) τ) ⟨(xn_in g21), ?_⟩
      show xv l Ω (d + 5) 0 0 172 186 [some (.ref 53), some (.int x1), some (.int x2), none, some (.int x4), none] [.int (((xh_ui (xh_ui (xh_ui σ 72 (Int32.toNatClampNeg k1) k2) 77 (Int32.toNatClampNeg x4) 0) 78 (Int32.toNatClampNeg x4) 0) 53 19) + 1), .ref 53] (hM p (xh_ui (xh_ui (xh_ui σ 72 (Int32.toNatClampNeg k1) k2) 77 (Int32.toNatClampNeg x4) 0) 78 (Int32.toNatClampNeg x4) 0) τ) r
      cases q24 : g176 x4 (xh_ui (xh_ui (xh_ui (xh_ui σ 72 (Int32.toNatClampNeg k1) k2) 77 (Int32.toNatClampNeg x4) 0) 78 (Int32.toNatClampNeg x4) 0) 53 19 (((xh_ui (xh_ui (xh_ui σ 72 (Int32.toNatClampNeg k1) k2) 77 (Int32.toNatClampNeg x4) 0) 78 (Int32.toNatClampNeg x4) 0) 53 19) + 1)) with
      | none => rw [q24] at H; exact False.elim H
      | some q240 =>
        obtain ⟨v22 | v22, s23⟩ := q240
        · rw [q24] at H; dsimp only at H
          have hc := g176_run (Ω := Ω) htr (d + 1) p τ x4 (xh_ui (xh_ui (xh_ui (xh_ui σ 72 (Int32.toNatClampNeg k1) k2) 77 (Int32.toNatClampNeg x4) 0) 78 (Int32.toNatClampNeg x4) 0) 53 19 (((xh_ui (xh_ui (xh_ui σ 72 (Int32.toNatClampNeg k1) k2) 77 (Int32.toNatClampNeg x4) 0) 78 (Int32.toNatClampNeg x4) 0) 53 19) + 1)) q24
          refine xp_ok htr 4 (d + 5) 0 0 [eC none (hM p s23 τ)] 172 186 [some (.ref 53), some (.int x1), some (.int x2), none, some (.int x4), none] [.int (((xh_ui (xh_ui (xh_ui σ 72 (Int32.toNatClampNeg k1) k2) 77 (Int32.toNatClampNeg x4) 0) 78 (Int32.toNatClampNeg x4) 0) 53 19) + 1), .ref 53] (hM p (xh_ui (xh_ui (xh_ui σ 72 (Int32.toNatClampNeg k1) k2) 77 (Int32.toNatClampNeg x4) 0) 78 (Int32.toNatClampNeg x4) 0) τ) ⟨hc, ?_⟩
          show xv l Ω (d + 5) 0 0 172 195 [some (.ref 53), some (.int x1), some (.int x2), none, some (.int x4), none] [] (hM p s23 τ) r
          refine xp_ok htr 8 (d + 5) 0 0 [] 172 195 [some (.ref 53), some (.int x1), some (.int x2), none, some (.int x4), none] [] (hM p s23 τ) ⟨(xn_in g21), ?_⟩
          show xv l Ω (d + 5) 0 0 172 209 [some (.ref 53), some (.int x1), some (.int x2), none, some (.int x4), none] [.int x4, .ref 76] (hM p (xh_ui s23 75 (Int32.toNatClampNeg x4) 0) τ) r
          by_cases h25 : x2 = 0
          · rw [if_pos h25] at H
            refine xp_ok htr 4 (d + 5) 0 0 [eB false] 172 209 [some (.ref 53), some (.int x1), some (.int x2), none, some (.int x4), none] [.int x4, .ref 76] (hM p (xh_ui s23 75 (Int32.toNatClampNeg x4) 0) τ) ⟨(xn_in g21), h25, ?_⟩
            show xv l Ω (d + 5) 0 0 172 215 [some (.ref 53), some (.int x1), some (.int x2), none, some (.int x4), none] [] (hM p (xh_ui (xh_ui s23 75 (Int32.toNatClampNeg x4) 0) 76 (Int32.toNatClampNeg x4) 0) τ) r
            cases q28 : g171 (xh_ui (xh_ui s23 75 (Int32.toNatClampNeg x4) 0) 76 (Int32.toNatClampNeg x4) 0) with
            | none => rw [q28] at H; exact False.elim H
            | some q280 =>
              obtain ⟨v26 | v26, s27⟩ := q280
              · rw [q28] at H; dsimp only at H
                have hc := g171_run (Ω := Ω) htr (d + 4) p τ  (xh_ui (xh_ui s23 75 (Int32.toNatClampNeg x4) 0) 76 (Int32.toNatClampNeg x4) 0) q28
                refine xp_ok htr 2 (d + 5) 0 0 [eC (some (.int v26)) (hM p s27 τ)] 172 215 [some (.ref 53), some (.int x1), some (.int x2), none, some (.int x4), none] [] (hM p (xh_ui (xh_ui s23 75 (Int32.toNatClampNeg x4) 0) 76 (Int32.toNatClampNeg x4) 0) τ) ⟨hc, ?_⟩
                show xv l Ω (d + 5) 0 0 172 219 [some (.ref 53), some (.int x1), some (.int x2), none, some (.int x4), none] [.int v26] (hM p s27 τ) r
                by_cases h29 : v26 = 0
                · rw [if_pos h29] at H
                  refine xp_ok htr 1 (d + 5) 0 0 [eB true] 172 219 [some (.ref 53), some (.int x1), some (.int x2), none, some (.int x4), none] [.int v26] (hM p s27 τ) ⟨h29, ?_⟩
                  show xv l Ω (d + 5) 0 0 172 228 [some (.ref 53), some (.int x1), some (.int x2), none, some (.int x4), none] [] (hM p s27 τ) r
                  exact xv_sub (L' := [some (.ref 53), none, none, none, some (.int x4), none]) ⟨rfl, ⟨rfl, trivial⟩⟩ (g172_228_ok htr d p τ x4 s27 r H)
                · rw [if_neg h29] at H
                  refine xp_ok htr 1 (d + 5) 0 0 [eB false] 172 219 [some (.ref 53), some (.int x1), some (.int x2), none, some (.int x4), none] [.int v26] (hM p s27 τ) ⟨h29, ?_⟩
                  show xv l Ω (d + 5) 0 0 172 222 [some (.ref 53), some (.int x1), some (.int x2), none, some (.int x4), none] [] (hM p s27 τ) r
                  cases q33 : g180 123 s27 with
                  | none => rw [q33] at H; exact False.elim H
                  | some q330 =>
                    obtain ⟨v31 | v31, s32⟩ := q330
                    · rw [q33] at H; dsimp only at H
                      have hc := g180_run (Ω := Ω) htr (d + 3) p τ 123 s27 q33
                      refine xp_ok htr 3 (d + 5) 0 0 [eC none (hM p s32 τ)] 172 222 [some (.ref 53), some (.int x1), some (.int x2), none, some (.int x4), none] [] (hM p s27 τ) ⟨hc, ?_⟩
                      show xv l Ω (d + 5) 0 0 172 228 [some (.ref 53), some (.int x1), some (.int x2), none, some (.int x4), none] [] (hM p s32 τ) r
                      exact xv_sub (L' := [some (.ref 53), none, none, none, some (.int x4), none]) ⟨rfl, ⟨rfl, trivial⟩⟩ (g172_228_ok htr d p τ x4 s32 r H)
                    · rw [q33] at H; exact False.elim H
              · rw [q28] at H; exact False.elim H
          · rw [if_neg h25] at H
            refine xp_ok htr 4 (d + 5) 0 0 [eB true] 172 209 [some (.ref 53), some (.int x1), some (.int x2), none, some (.int x4), none] [.int x4, .ref 76] (hM p (xh_ui s23 75 (Int32.toNatClampNeg x4) 0) τ) ⟨(xn_in g21), h25, ?_⟩
            show xv l Ω (d + 5) 0 0 172 251 [some (.ref 53), some (.int x1), some (.int x2), none, some (.int x4), none] [] (hM p (xh_ui (xh_ui s23 75 (Int32.toNatClampNeg x4) 0) 76 (Int32.toNatClampNeg x4) 0) τ) r
            cases q36 : g181 x4 (xh_ui (xh_ui s23 75 (Int32.toNatClampNeg x4) 0) 76 (Int32.toNatClampNeg x4) 0) with
            | none => rw [q36] at H; exact False.elim H
            | some q360 =>
              obtain ⟨v34 | v34, s35⟩ := q360
              · rw [q36] at H; dsimp only at H
                have hc := g181_run (Ω := Ω) htr d p τ x4 (xh_ui (xh_ui s23 75 (Int32.toNatClampNeg x4) 0) 76 (Int32.toNatClampNeg x4) 0) q36
                refine xp_ok htr 3 (d + 5) 0 0 [eC none (hM p s35 τ)] 172 251 [some (.ref 53), some (.int x1), some (.int x2), none, some (.int x4), none] [] (hM p (xh_ui (xh_ui s23 75 (Int32.toNatClampNeg x4) 0) 76 (Int32.toNatClampNeg x4) 0) τ) ⟨hc, ?_⟩
                show xv l Ω (d + 5) 0 0 172 257 [some (.ref 53), some (.int x1), some (.int x2), none, some (.int x4), none] [] (hM p s35 τ) r
                cases q39 : g185 43 s35 with
                | none => rw [q39] at H; exact False.elim H
                | some q390 =>
                  obtain ⟨v37 | v37, s38⟩ := q390
                  · rw [q39] at H; dsimp only at H
                    have hc := g185_run (Ω := Ω) htr (d + 3) p τ 43 s35 q39
                    refine xp_ok htr 3 (d + 5) 0 0 [eC (some (.int v37)) (hM p s38 τ)] 172 257 [some (.ref 53), some (.int x1), some (.int x2), none, some (.int x4), none] [] (hM p s35 τ) ⟨hc, ?_⟩
                    show xv l Ω (d + 5) 0 0 172 263 [some (.ref 53), some (.int x1), some (.int x2), none, some (.int x4), none] [.int v37] (hM p s38 τ) r
                    by_cases h40 : x1 = 112
                    · rw [if_pos h40] at H
                      refine xp_ok htr 4 (d + 5) 0 0 [eB false] 172 263 [some (.ref 53), some (.int x1), some (.int x2), none, some (.int x4), none] [.int v37] (hM p s38 τ) ⟨h40, ?_⟩
                      show xv l Ω (d + 5) 0 0 172 271 [some (.ref 53), some (.int x1), some (.int x2), none, some (.int x4), some (.int v37)] [] (hM p s38 τ) r
                      refine xp_ok htr 6 (d + 5) 0 0 [] 172 271 [some (.ref 53), some (.int x1), some (.int x2), none, some (.int x4), some (.int v37)] [] (hM p s38 τ) ⟨(xn_in g21), ?_⟩
                      show xv l Ω (d + 5) 0 0 172 292 [some (.ref 53), some (.int x1), some (.int x2), none, some (.int x4), some (.int v37)] [] (hM p (xh_ui s38 77 (Int32.toNatClampNeg x4) v37) τ) r
                      exact xv_sub (L' := [some (.ref 53), none, none, none, none, none]) ⟨rfl, trivial⟩ (g172_292_ok htr d p τ (xh_ui s38 77 (Int32.toNatClampNeg x4) v37) r H)
                    · rw [if_neg h40] at H
                      refine xp_ok htr 4 (d + 5) 0 0 [eB true] 172 263 [some (.ref 53), some (.int x1), some (.int x2), none, some (.int x4), none] [.int v37] (hM p s38 τ) ⟨h40, ?_⟩
                      show xv l Ω (d + 5) 0 0 172 283 [some (.ref 53), some (.int x1), some (.int x2), none, some (.int x4), some (.int v37)] [] (hM p s38 τ) r
                      refine xp_ok htr 5 (d + 5) 0 0 [] 172 283 [some (.ref 53), some (.int x1), some (.int x2), none, some (.int x4), some (.int v37)] [] (hM p s38 τ) ⟨(xn_in g21), ?_⟩
                      show xv l Ω (d + 5) 0 0 172 292 [some (.ref 53), some (.int x1), some (.int x2), none, some (.int x4), some (.int v37)] [] (hM p (xh_ui s38 78 (Int32.toNatClampNeg x4) v37) τ) r
                      exact xv_sub (L' := [some (.ref 53), none, none, none, none, none]) ⟨rfl, trivial⟩ (g172_292_ok htr d p τ (xh_ui s38 78 (Int32.toNatClampNeg x4) v37) r H)
                  · rw [q39] at H; exact False.elim H
              · rw [q36] at H; exact False.elim H
        · rw [q24] at H; exact False.elim H
theorem g172_105_ok {l : Launch} {Ω : xo_O} (htr : xH l) (d : Nat) (p : Nat) (τ : Nat → Nat → Int64) (x1 : Int32) (x2 : Int32) (σ : xS) (r : xv_R) (H : xo (xB false p τ r) (g172_105 x1 x2 σ)) : xv l Ω (d + 5) 0 0 172 105 [some (.ref 53), some (.int x1), some (.int x2), none, none, none] [] (hM p σ τ) r := by
  unfold g172_105 at H
  refine xp_ok htr 8 (d + 5) 0 0 [] 172 105 [some (.ref 53), some (.int x1), some (.int x2), none, none, none] [] (hM p σ τ) ⟨(by unfold vp_in; decide), ?_⟩
  show xv l Ω (d + 5) 0 0 172 117 [some (.ref 53), some (.int x1), some (.int x2), none, some (.int (40 + (σ 70 1))), none] [.ref 53] (hM p σ τ) r
  refine xp_ok htr 8 (d + 5) 0 0 [] 172 117 [some (.ref 53), some (.int x1), some (.int x2), none, some (.int (40 + (σ 70 1))), none] [.ref 53] (hM p σ τ) ⟨(by unfold vp_in; decide), (by unfold vp_in; decide), ?_⟩
  show xv l Ω (d + 5) 0 0 172 127 [some (.ref 53), some (.int x1), some (.int x2), none, some (.int (40 + (σ 70 1))), none] [.ref 53] (hM p (xh_ui σ 70 1 ((σ 70 1) + 1)) τ) r
  cases g18 : xn (40 + (σ 70 1)) 80 with
  | false => rw [g18, cond_false] at H; exact False.elim H
  | true =>
    rw [g18, cond_true] at H
    refine xp_ok htr 8 (d + 5) 0 0 [] 172 127 [some (.ref 53), some (.int x1), some (.int x2), none, some (.int (40 + (σ 70 1))), none] [.ref 53] (hM p (xh_ui σ 70 1 ((σ 70 1) + 1)) τ) ⟨(xn_in g18), ?_⟩
    show xv l Ω (d + 5) 0 0 172 141 [some (.ref 53), some (.int x1), some (.int x2), none, some (.int (40 + (σ 70 1))), none] [.ref 53, .int (40 + (σ 70 1)), .ref 72] (hM p (xh_ui (xh_ui σ 70 1 ((σ 70 1) + 1)) 71 (Int32.toNatClampNeg (40 + (σ 70 1))) x1) τ) r
    by_cases h19 : ((xh_ui (xh_ui σ 70 1 ((σ 70 1) + 1)) 71 (Int32.toNatClampNeg (40 + (σ 70 1))) x1) 53 40) = 0
    · rw [if_pos h19] at H
      refine xp_ok htr 2 (d + 5) 0 0 [eB false] 172 141 [some (.ref 53), some (.int x1), some (.int x2), none, some (.int (40 + (σ 70 1))), none] [.ref 53, .int (40 + (σ 70 1)), .ref 72] (hM p (xh_ui (xh_ui σ 70 1 ((σ 70 1) + 1)) 71 (Int32.toNatClampNeg (40 + (σ 70 1))) x1) τ) ⟨h19, ?_⟩
      show xv l Ω (d + 5) 0 0 172 147 [some (.ref 53), some (.int x1), some (.int x2), none, some (.int (40 + (σ 70 1))), none] [.int (40 + (σ 70 1)), .ref 72] (hM p (xh_ui (xh_ui σ 70 1 ((σ 70 1) + 1)) 71 (Int32.toNatClampNeg (40 + (σ 70 1))) x1) τ) r
      refine xp_ok htr 2 (d + 5) 0 0 [] 172 147 [some (.ref 53), some (.int x1), some (.int x2), none, some (.int (40 + (σ 70 1))), none] [.int (40 + (σ 70 1)), .ref 72] (hM p (xh_ui (xh_ui σ 70 1 ((σ 70 1) + 1)) 71 (Int32.toNatClampNeg (40 + (σ 70 1))) x1) τ) ?_
      show xv l Ω (d + 5) 0 0 172 162 [some (.ref 53), some (.int x1), some (.int x2), none, some (.int (40 + (σ 70 1))), none] [.int (-1), .int (40 + (σ 70 1)), .ref 72] (hM p (xh_ui (xh_ui σ 70 1 ((σ 70 1) + 1)) 71 (Int32.toNatClampNeg (40 + (σ 70 1))) x1) τ) r
      exact xv_sub (L' := [some (.ref 53), some (.int x1), some (.int x2), none, some (.int (40 + (σ 70 1))), none]) ⟨rfl, ⟨rfl, ⟨rfl, ⟨rfl, trivial⟩⟩⟩⟩ (g172_162_ok htr d p τ x1 x2 (40 + (σ 70 1)) (40 + (σ 70 1)) (-1) (xh_ui (xh_ui σ 70 1 ((σ 70 1) + 1)) 71 (Int32.toNatClampNeg (40 + (σ 70 1))) x1) r H)
    · rw [if_neg h19] at H
      refine xp_ok htr 2 (d + 5) 0 0 [eB true] 172 141 [some (.ref 53), some (.int x1), some (.int x2), none, some (.int (40 + (σ 70 1))), none] [.ref 53, .int (40 + (σ 70 1)), .ref 72] (hM p (xh_ui (xh_ui σ 70 1 ((σ 70 1) + 1)) 71 (Int32.toNatClampNeg (40 + (σ 70 1))) x1) τ) ⟨h19, ?_⟩
      show xv l Ω (d + 5) 0 0 172 151 [some (.ref 53), some (.int x1), some (.int x2), none, some (.int (40 + (σ 70 1))), none] [.int (40 + (σ 70 1)), .ref 72] (hM p (xh_ui (xh_ui σ 70 1 ((σ 70 1) + 1)) 71 (Int32.toNatClampNeg (40 + (σ 70 1))) x1) τ) r
      cases g48 : xn (((xh_ui (xh_ui σ 70 1 ((σ 70 1) + 1)) 71 (Int32.toNatClampNeg (40 + (σ 70 1))) x1) 53 40) - 1) 8 with
      | false => rw [g48, cond_false] at H; exact False.elim H
      | true =>
        rw [g48, cond_true] at H
        refine xp_ok htr 7 (d + 5) 0 0 [] 172 151 [some (.ref 53), some (.int x1), some (.int x2), none, some (.int (40 + (σ 70 1))), none] [.int (40 + (σ 70 1)), .ref 72] (hM p (xh_ui (xh_ui σ 70 1 ((σ 70 1) + 1)) 71 (Int32.toNatClampNeg (40 + (σ 70 1))) x1) τ) ⟨(xn_in g48), ?_⟩
        show xv l Ω (d + 5) 0 0 172 162 [some (.ref 53), some (.int x1), some (.int x2), none, some (.int (40 + (σ 70 1))), none] [.int ((xh_ui (xh_ui σ 70 1 ((σ 70 1) + 1)) 71 (Int32.toNatClampNeg (40 + (σ 70 1))) x1) 85 (Int32.toNatClampNeg (((xh_ui (xh_ui σ 70 1 ((σ 70 1) + 1)) 71 (Int32.toNatClampNeg (40 + (σ 70 1))) x1) 53 40) - 1))), .int (40 + (σ 70 1)), .ref 72] (hM p (xh_ui (xh_ui σ 70 1 ((σ 70 1) + 1)) 71 (Int32.toNatClampNeg (40 + (σ 70 1))) x1) τ) r
        exact xv_sub (L' := [some (.ref 53), some (.int x1), some (.int x2), none, some (.int (40 + (σ 70 1))), none]) ⟨rfl, ⟨rfl, ⟨rfl, ⟨rfl, trivial⟩⟩⟩⟩ (g172_162_ok htr d p τ x1 x2 (40 + (σ 70 1)) (40 + (σ 70 1)) ((xh_ui (xh_ui σ 70 1 ((σ 70 1) + 1)) 71 (Int32.toNatClampNeg (40 + (σ 70 1))) x1) 85 (Int32.toNatClampNeg (((xh_ui (xh_ui σ 70 1 ((σ 70 1) + 1)) 71 (Int32.toNatClampNeg (40 + (σ 70 1))) x1) 53 40) - 1))) (xh_ui (xh_ui σ 70 1 ((σ 70 1) + 1)) 71 (Int32.toNatClampNeg (40 + (σ 70 1))) x1) r H)
theorem g172_87_ok {l : Launch} {Ω : xo_O} (htr : xH l) (d : Nat) (p : Nat) (τ : Nat → Nat → Int64) (x1 : Int32) (x2 : Int32) (σ : xS) (r : xv_R) (H : xo (xB false p τ r) (g172_87 x1 x2 σ)) : xv l Ω (d + 5) 0 0 172 87 [some (.ref 53), some (.int x1), some (.int x2), none, none, none] [] (hM p σ τ) r := by
  unfold g172_87 at H
  by_cases h16 : x2 = 0
  · rw [if_pos h16] at H
    refine xp_ok htr 2 (d + 5) 0 0 [eB false] 172 87 [some (.ref 53), some (.int x1), some (.int x2), none, none, none] [] (hM p σ τ) ⟨h16, ?_⟩
    show xv l Ω (d + 5) 0 0 172 91 [some (.ref 53), some (.int x1), some (.int x2), none, none, none] [] (hM p σ τ) r
    by_cases h17 : (σ 53 40) = 5
    · rw [if_pos h17] at H
      refine xp_ok htr 4 (d + 5) 0 0 [eB false] 172 91 [some (.ref 53), some (.int x1), some (.int x2), none, none, none] [] (hM p σ τ) ⟨h17, ?_⟩
      show xv l Ω (d + 5) 0 0 172 99 [some (.ref 53), some (.int x1), some (.int x2), none, none, none] [] (hM p σ τ) r
      exact xv_sub (L' := [some (.ref 53), none, none, none, none, none]) ⟨rfl, trivial⟩ (g172_99_ok htr d p τ σ r H)
    · rw [if_neg h17] at H
      refine xp_ok htr 4 (d + 5) 0 0 [eB true] 172 91 [some (.ref 53), some (.int x1), some (.int x2), none, none, none] [] (hM p σ τ) ⟨h17, ?_⟩
      show xv l Ω (d + 5) 0 0 172 105 [some (.ref 53), some (.int x1), some (.int x2), none, none, none] [] (hM p σ τ) r
      exact xv_sub (L' := [some (.ref 53), some (.int x1), some (.int x2), none, none, none]) ⟨rfl, ⟨rfl, ⟨rfl, trivial⟩⟩⟩ (g172_105_ok htr d p τ x1 x2 σ r H)
  · rw [if_neg h16] at H
    refine xp_ok htr 2 (d + 5) 0 0 [eB true] 172 87 [some (.ref 53), some (.int x1), some (.int x2), none, none, none] [] (hM p σ τ) ⟨h16, ?_⟩
    show xv l Ω (d + 5) 0 0 172 105 [some (.ref 53), some (.int x1), some (.int x2), none, none, none] [] (hM p σ τ) r
    exact xv_sub (L' := [some (.ref 53), some (.int x1), some (.int x2), none, none, none]) ⟨rfl, ⟨rfl, ⟨rfl, trivial⟩⟩⟩ (g172_105_ok htr d p τ x1 x2 σ r H)
theorem g172_79_ok {l : Launch} {Ω : xo_O} (htr : xH l) (d : Nat) (p : Nat) (τ : Nat → Nat → Int64) (x1 : Int32) (x2 : Int32) (x3 : Int32) (σ : xS) (r : xv_R) (H : xo (xB false p τ r) (g172_79 x1 x2 x3 σ)) : xv l Ω (d + 5) 0 0 172 79 [some (.ref 53), some (.int x1), some (.int x2), some (.int x3), none, none] [] (hM p σ τ) r := by
  unfold g172_79 at H
  by_cases h15 : x2 = 0
  · rw [if_pos h15] at H
    refine xp_ok htr 2 (d + 5) 0 0 [eB true] 172 79 [some (.ref 53), some (.int x1), some (.int x2), some (.int x3), none, none] [] (hM p σ τ) ⟨h15, ?_⟩
    show xv l Ω (d + 5) 0 0 172 87 [some (.ref 53), some (.int x1), some (.int x2), some (.int x3), none, none] [] (hM p σ τ) r
    exact xv_sub (L' := [some (.ref 53), some (.int x1), some (.int x2), none, none, none]) ⟨rfl, ⟨rfl, ⟨rfl, trivial⟩⟩⟩ (g172_87_ok htr d p τ x1 x2 σ r H)
  · rw [if_neg h15] at H
    refine xp_ok htr 2 (d + 5) 0 0 [eB false] 172 79 [some (.ref 53), some (.int x1), some (.int x2), some (.int x3), none, none] [] (hM p σ τ) ⟨h15, ?_⟩
    show xv l Ω (d + 5) 0 0 172 83 [some (.ref 53), some (.int x1), some (.int x2), some (.int x3), none, none] [] (hM p σ τ) r
    by_cases h49 : x3 = 0
    · rw [if_pos h49] at H
      refine xp_ok htr 2 (d + 5) 0 0 [eB false] 172 83 [some (.ref 53), some (.int x1), some (.int x2), some (.int x3), none, none] [] (hM p σ τ) ⟨h49, ?_⟩
      show xv l Ω (d + 5) 0 0 172 87 [some (.ref 53), some (.int x1), some (.int x2), some (.int x3), none, none] [] (hM p σ τ) r
      exact xv_sub (L' := [some (.ref 53), some (.int x1), some (.int x2), none, none, none]) ⟨rfl, ⟨rfl, ⟨rfl, trivial⟩⟩⟩ (g172_87_ok htr d p τ x1 x2 σ r H)
    · rw [if_neg h49] at H
      refine xp_ok htr 2 (d + 5) 0 0 [eB true] 172 83 [some (.ref 53), some (.int x1), some (.int x2), some (.int x3), none, none] [] (hM p σ τ) ⟨h49, ?_⟩
      show xv l Ω (d + 5) 0 0 172 99 [some (.ref 53), some (.int x1), some (.int x2), some (.int x3), none, none] [] (hM p σ τ) r
      exact xv_sub (L' := [some (.ref 53), none, none, none, none, none]) ⟨rfl, trivial⟩ (g172_99_ok htr d p τ σ r H)
theorem g172_56_ok {l : Launch} {Ω : xo_O} (htr : xH l) (d : Nat) (p : Nat) (τ : Nat → Nat → Int64) (x1 : Int32) (x2 : Int32) (k0 : Int32) (σ : xS) (r : xv_R) (H : xo (xB false p τ r) (g172_56 x1 x2 k0 σ)) : xv l Ω (d + 5) 0 0 172 56 [some (.ref 53), some (.int x1), some (.int x2), none, none, none] [.int k0] (hM p σ τ) r := by
  unfold g172_56 at H
  by_cases h6 : (σ 70 1) = 40
  · rw [if_pos h6] at H
    refine xp_ok htr 7 (d + 5) 0 0 [eB true] 172 56 [some (.ref 53), some (.int x1), some (.int x2), none, none, none] [.int k0] (hM p σ τ) ⟨(by unfold vp_in; decide), h6, ?_⟩
    show xv l Ω (d + 5) 0 0 172 99 [some (.ref 53), some (.int x1), some (.int x2), some (.int k0), none, none] [] (hM p σ τ) r
    exact xv_sub (L' := [some (.ref 53), none, none, none, none, none]) ⟨rfl, trivial⟩ (g172_99_ok htr d p τ σ r H)
  · rw [if_neg h6] at H
    refine xp_ok htr 7 (d + 5) 0 0 [eB false] 172 56 [some (.ref 53), some (.int x1), some (.int x2), none, none, none] [.int k0] (hM p σ τ) ⟨(by unfold vp_in; decide), h6, ?_⟩
    show xv l Ω (d + 5) 0 0 172 68 [some (.ref 53), some (.int x1), some (.int x2), some (.int k0), none, none] [] (hM p σ τ) r
    by_cases h10 : x2 = 0
    · rw [if_pos h10] at H
      refine xp_ok htr 2 (d + 5) 0 0 [eB false] 172 68 [some (.ref 53), some (.int x1), some (.int x2), some (.int k0), none, none] [] (hM p σ τ) ⟨h10, ?_⟩
      show xv l Ω (d + 5) 0 0 172 72 [some (.ref 53), some (.int x1), some (.int x2), some (.int k0), none, none] [] (hM p σ τ) r
      cases q13 : g174 x1 σ with
      | none => rw [q13] at H; exact False.elim H
      | some q130 =>
        obtain ⟨v11 | v11, s12⟩ := q130
        · rw [q13] at H; dsimp only at H
          have hc := g174_run (Ω := Ω) htr (d + 4) p τ x1 σ q13
          refine xp_ok htr 2 (d + 5) 0 0 [eC (some (.int v11)) (hM p s12 τ)] 172 72 [some (.ref 53), some (.int x1), some (.int x2), some (.int k0), none, none] [] (hM p σ τ) ⟨hc, ?_⟩
          show xv l Ω (d + 5) 0 0 172 76 [some (.ref 53), some (.int x1), some (.int x2), some (.int k0), none, none] [.int v11] (hM p s12 τ) r
          by_cases h14 : v11 = 0
          · rw [if_pos h14] at H
            refine xp_ok htr 1 (d + 5) 0 0 [eB true] 172 76 [some (.ref 53), some (.int x1), some (.int x2), some (.int k0), none, none] [.int v11] (hM p s12 τ) ⟨h14, ?_⟩
            show xv l Ω (d + 5) 0 0 172 99 [some (.ref 53), some (.int x1), some (.int x2), some (.int k0), none, none] [] (hM p s12 τ) r
            exact xv_sub (L' := [some (.ref 53), none, none, none, none, none]) ⟨rfl, trivial⟩ (g172_99_ok htr d p τ s12 r H)
          · rw [if_neg h14] at H
            refine xp_ok htr 1 (d + 5) 0 0 [eB false] 172 76 [some (.ref 53), some (.int x1), some (.int x2), some (.int k0), none, none] [.int v11] (hM p s12 τ) ⟨h14, ?_⟩
            show xv l Ω (d + 5) 0 0 172 79 [some (.ref 53), some (.int x1), some (.int x2), some (.int k0), none, none] [] (hM p s12 τ) r
            exact xv_sub (L' := [some (.ref 53), some (.int x1), some (.int x2), some (.int k0), none, none]) ⟨rfl, ⟨rfl, ⟨rfl, ⟨rfl, trivial⟩⟩⟩⟩ (g172_79_ok htr d p τ x1 x2 k0 s12 r H)
        · rw [q13] at H; exact False.elim H
    · rw [if_neg h10] at H
      refine xp_ok htr 2 (d + 5) 0 0 [eB true] 172 68 [some (.ref 53), some (.int x1), some (.int x2), some (.int k0), none, none] [] (hM p σ τ) ⟨h10, ?_⟩
      show xv l Ω (d + 5) 0 0 172 79 [some (.ref 53), some (.int x1), some (.int x2), some (.int k0), none, none] [] (hM p σ τ) r
      exact xv_sub (L' := [some (.ref 53), some (.int x1), some (.int x2), some (.int k0), none, none]) ⟨rfl, ⟨rfl, ⟨rfl, ⟨rfl, trivial⟩⟩⟩⟩ (g172_79_ok htr d p τ x1 x2 k0 σ r H)
theorem g172_55_ok {l : Launch} {Ω : xo_O} (htr : xH l) (d : Nat) (p : Nat) (τ : Nat → Nat → Int64) (x1 : Int32) (x2 : Int32) (σ : xS) (r : xv_R) (H : xo (xB false p τ r) (g172_55 x1 x2 σ)) : xv l Ω (d + 5) 0 0 172 55 [some (.ref 53), some (.int x1), some (.int x2), none, none, none] [] (hM p σ τ) r := by
  unfold g172_55 at H
  refine xp_ok htr 1 (d + 5) 0 0 [] 172 55 [some (.ref 53), some (.int x1), some (.int x2), none, none, none] [] (hM p σ τ) ?_
  show xv l Ω (d + 5) 0 0 172 56 [some (.ref 53), some (.int x1), some (.int x2), none, none, none] [.int 0] (hM p σ τ) r
  exact xv_sub (L' := [some (.ref 53), some (.int x1), some (.int x2), none, none, none]) ⟨rfl, ⟨rfl, ⟨rfl, trivial⟩⟩⟩ (g172_56_ok htr d p τ x1 x2 0 σ r H)
theorem g172_22_ok {l : Launch} {Ω : xo_O} (htr : xH l) (d : Nat) (p : Nat) (τ : Nat → Nat → Int64) (x1 : Int32) (k0 : Int32) (σ : xS) (r : xv_R) (H : xo (xB false p τ r) (g172_22 x1 k0 σ)) : xv l Ω (d + 5) 0 0 172 22 [some (.ref 53), some (.int x1), none, none, none, none] [.int k0] (hM p σ τ) r := by
  unfold g172_22 at H
  by_cases h5 : (σ 53 40) ≤ 0
  · rw [if_pos h5] at H
    refine xp_ok htr 4 (d + 5) 0 0 [eB true] 172 22 [some (.ref 53), some (.int x1), none, none, none, none] [.int k0] (hM p σ τ) ⟨h5, ?_⟩
    show xv l Ω (d + 5) 0 0 172 55 [some (.ref 53), some (.int x1), some (.int k0), none, none, none] [] (hM p σ τ) r
    exact xv_sub (L' := [some (.ref 53), some (.int x1), some (.int k0), none, none, none]) ⟨rfl, ⟨rfl, ⟨rfl, trivial⟩⟩⟩ (g172_55_ok htr d p τ x1 k0 σ r H)
  · rw [if_neg h5] at H
    refine xp_ok htr 4 (d + 5) 0 0 [eB false] 172 22 [some (.ref 53), some (.int x1), none, none, none, none] [.int k0] (hM p σ τ) ⟨h5, ?_⟩
    show xv l Ω (d + 5) 0 0 172 30 [some (.ref 53), some (.int x1), some (.int k0), none, none, none] [] (hM p σ τ) r
    refine xp_ok htr 8 (d + 5) 0 0 [] 172 30 [some (.ref 53), some (.int x1), some (.int k0), none, none, none] [] (hM p σ τ) ?_
    show xv l Ω (d + 5) 0 0 172 44 [some (.ref 53), some (.int x1), some (.int k0), none, none, none] [.int ((σ 53 40) - 1), .ref 85, .ref 71] (hM p σ τ) r
    cases g50 : xn ((σ 53 40) - 1) 8 with
    | false => rw [g50, cond_false] at H; exact False.elim H
    | true =>
      rw [g50, cond_true] at H
      cases g51 : xn (σ 85 (Int32.toNatClampNeg ((σ 53 40) - 1))) 80 with
      | false => rw [g51, cond_false] at H; exact False.elim H
      | true =>
        rw [g51, cond_true] at H
        by_cases h52 : (σ 71 (Int32.toNatClampNeg (σ 85 (Int32.toNatClampNeg ((σ 53 40) - 1))))) = 79
        · rw [if_pos h52] at H
          refine xp_ok htr 4 (d + 5) 0 0 [eB false] 172 44 [some (.ref 53), some (.int x1), some (.int k0), none, none, none] [.int ((σ 53 40) - 1), .ref 85, .ref 71] (hM p σ τ) ⟨(xn_in g50), (xn_in g51), h52, ?_⟩
          show xv l Ω (d + 5) 0 0 172 51 [some (.ref 53), some (.int x1), some (.int k0), none, none, none] [] (hM p σ τ) r
          refine xp_ok htr 2 (d + 5) 0 0 [] 172 51 [some (.ref 53), some (.int x1), some (.int k0), none, none, none] [] (hM p σ τ) ?_
          show xv l Ω (d + 5) 0 0 172 56 [some (.ref 53), some (.int x1), some (.int k0), none, none, none] [.int 1] (hM p σ τ) r
          exact xv_sub (L' := [some (.ref 53), some (.int x1), some (.int k0), none, none, none]) ⟨rfl, ⟨rfl, ⟨rfl, trivial⟩⟩⟩ (g172_56_ok htr d p τ x1 k0 1 σ r H)
        · rw [if_neg h52] at H
          refine xp_ok htr 4 (d + 5) 0 0 [eB true] 172 44 [some (.ref 53), some (.int x1), some (.int k0), none, none, none] [.int ((σ 53 40) - 1), .ref 85, .ref 71] (hM p σ τ) ⟨(xn_in g50), (xn_in g51), h52, ?_⟩
          show xv l Ω (d + 5) 0 0 172 55 [some (.ref 53), some (.int x1), some (.int k0), none, none, none] [] (hM p σ τ) r
          exact xv_sub (L' := [some (.ref 53), some (.int x1), some (.int k0), none, none, none]) ⟨rfl, ⟨rfl, ⟨rfl, trivial⟩⟩⟩ (g172_55_ok htr d p τ x1 k0 σ r H)
theorem g172_17_ok {l : Launch} {Ω : xo_O} (htr : xH l) (d : Nat) (p : Nat) (τ : Nat → Nat → Int64) (x1 : Int32) (σ : xS) (r : xv_R) (H : xo (xB false p τ r) (g172_17 x1 σ)) : xv l Ω (d + 5) 0 0 172 17 [some (.ref 53), some (.int x1), none, none, none, none] [] (hM p σ τ) r := by
  unfold g172_17 at H
  refine xp_ok htr 2 (d + 5) 0 0 [] 172 17 [some (.ref 53), some (.int x1), none, none, none, none] [] (hM p σ τ) ?_
  show xv l Ω (d + 5) 0 0 172 22 [some (.ref 53), some (.int x1), none, none, none, none] [.int 1] (hM p σ τ) r
  exact xv_sub (L' := [some (.ref 53), some (.int x1), none, none, none, none]) ⟨rfl, ⟨rfl, trivial⟩⟩ (g172_22_ok htr d p τ x1 1 σ r H)
theorem g172_run {l : Launch} {Ω : xo_O} (htr : xH l) (d : Nat) (p : Nat) (τ : Nat → Nat → Int64)  (σ : xS) {q : xQ} (hq : g172  σ = some q) : xv l Ω (d + 5) 0 0 172 0 (xs_loc (xm_l 172) [.ref 53]) [] (hM p σ τ) (xq_R false p τ q) := by
  have H : xo (xB false p τ (xq_R false p τ q)) (g172  σ) := by rw [hq]; exact rfl
  generalize xq_R false p τ q = r at H ⊢
  show xv l Ω (d + 5) 0 0 172 0 [some (.ref 53), none, none, none, none, none] [] (hM p σ τ) r
  unfold g172 at H
  cases q3 : g173 σ with
  | none => rw [q3] at H; exact False.elim H
  | some q30 =>
    obtain ⟨v1 | v1, s2⟩ := q30
    · rw [q3] at H; dsimp only at H
      have hc := g173_run (Ω := Ω) htr (d + 4) p τ  σ q3
      refine xp_ok htr 2 (d + 5) 0 0 [eC (some (.int v1)) (hM p s2 τ)] 172 0 [some (.ref 53), none, none, none, none, none] [] (hM p σ τ) ⟨hc, ?_⟩
      show xv l Ω (d + 5) 0 0 172 4 [some (.ref 53), none, none, none, none, none] [.int v1] (hM p s2 τ) r
      by_cases h4 : v1 = 112
      · rw [if_pos h4] at H
        refine xp_ok htr 4 (d + 5) 0 0 [eB true] 172 4 [some (.ref 53), none, none, none, none, none] [.int v1] (hM p s2 τ) ⟨h4, ?_⟩
        show xv l Ω (d + 5) 0 0 172 17 [some (.ref 53), some (.int v1), none, none, none, none] [] (hM p s2 τ) r
        exact xv_sub (L' := [some (.ref 53), some (.int v1), none, none, none, none]) ⟨rfl, ⟨rfl, trivial⟩⟩ (g172_17_ok htr d p τ v1 s2 r H)
      · rw [if_neg h4] at H
        refine xp_ok htr 4 (d + 5) 0 0 [eB false] 172 4 [some (.ref 53), none, none, none, none, none] [.int v1] (hM p s2 τ) ⟨h4, ?_⟩
        show xv l Ω (d + 5) 0 0 172 11 [some (.ref 53), some (.int v1), none, none, none, none] [] (hM p s2 τ) r
        by_cases h53 : v1 = 100
        · rw [if_pos h53] at H
          refine xp_ok htr 3 (d + 5) 0 0 [eB false] 172 11 [some (.ref 53), some (.int v1), none, none, none, none] [] (hM p s2 τ) ⟨h53, ?_⟩
          show xv l Ω (d + 5) 0 0 172 17 [some (.ref 53), some (.int v1), none, none, none, none] [] (hM p s2 τ) r
          exact xv_sub (L' := [some (.ref 53), some (.int v1), none, none, none, none]) ⟨rfl, ⟨rfl, trivial⟩⟩ (g172_17_ok htr d p τ v1 s2 r H)
        · rw [if_neg h53] at H
          refine xp_ok htr 3 (d + 5) 0 0 [eB true] 172 11 [some (.ref 53), some (.int v1), none, none, none, none] [] (hM p s2 τ) ⟨h53, ?_⟩
          show xv l Ω (d + 5) 0 0 172 21 [some (.ref 53), some (.int v1), none, none, none, none] [] (hM p s2 τ) r
          refine xp_ok htr 1 (d + 5) 0 0 [] 172 21 [some (.ref 53), some (.int v1), none, none, none, none] [] (hM p s2 τ) ?_
          show xv l Ω (d + 5) 0 0 172 22 [some (.ref 53), some (.int v1), none, none, none, none] [.int 0] (hM p s2 τ) r
          exact xv_sub (L' := [some (.ref 53), some (.int v1), none, none, none, none]) ⟨rfl, ⟨rfl, trivial⟩⟩ (g172_22_ok htr d p τ v1 0 s2 r H)
    · rw [q3] at H; exact False.elim H
