/-! reading: a byte, a number, a match; what both readers come to -/
/-- the byte at i, -1 behind the end -/
def nx (B : Nat → Int32) (L i : Nat) : Int32 := if L ≤ i then -1 else B i
def isd (x : Int32) : Bool := !decide (x < 48) && !decide (57 < x)
def att (x : Int32) : Bool := decide (x = 76 ∨ x = 83 ∨ x = 97 ∨ x = 99 ∨ x = 104 ∨ x = 108 ∨ x = 114 ∨ x = 115 ∨ x = 117)
def sgn (c s : Int32) : Bool := decide (s = 61 ∨ ((s = 60 ∨ s = 62) ∧ ¬ c = 114 ∧ ¬ c = 117))
def pn (B : Nat → Int32) (L i : Nat) : Nat × Int32 :=
  if nx B L i = 48 then (i + 1, 10 * 0 + nx B L i - 48)
  else bif isd (nx B L (i + 1)) then
    (bif isd (nx B L (i + 2)) then (i + 3, 10 * (10 * (10 * 0 + nx B L i - 48) + nx B L (i + 1) - 48) + nx B L (i + 2) - 48)
    else (i + 2, 10 * (10 * 0 + nx B L i - 48) + nx B L (i + 1) - 48))
  else (i + 1, 10 * 0 + nx B L i - 48)
/-- a match: is it right; where reading stands; letter, sign, number -/
def pm (B : Nat → Int32) (L i : Nat) : Bool × Nat × Int32 × Int32 × Int32 :=
  bif att (nx B L i) then
    (bif sgn (nx B L i) (nx B L (i + 1)) then
      (bif isd (nx B L (i + 2)) then (true, (pn B L (i + 2)).1, nx B L i, nx B L (i + 1), (pn B L (i + 2)).2)
      else (false, i + 2, 0, 0, 0))
    else (false, i + 1, 0, 0, 0))
  else (false, i, 0, 0, 0)
theorem nx_lt {B : Nat → Int32} {L i : Nat} (h : ¬ nx B L i = -1) : i < L := by
  by_cases q : L ≤ i
  · exact absurd (if_pos q) h
  · omega
theorem att_m1 {x : Int32} (h : att x = true) : ¬ x = -1 := fun q => by subst q; revert h; decide
theorem sgn_m1 {c x : Int32} (h : sgn c x = true) : ¬ x = -1 := fun q => by
  subst q
  have h := of_decide_eq_true h
  rcases h with h | ⟨h | h, _⟩ <;> revert h <;> decide
theorem isd_m1 {x : Int32} (h : isd x = true) : ¬ x = -1 := fun q => by subst q; revert h; decide
theorem g97_eq (x : Int32) (σ : xS) : g97 x σ = some (.inl (xb (att x)), σ) := by
  by_cases h : (x = 76 ∨ x = 83 ∨ x = 97 ∨ x = 99 ∨ x = 104 ∨ x = 108 ∨ x = 114 ∨ x = 115 ∨ x = 117)
  · have e : att x = true := decide_eq_true h
    rw [e]
    rcases h with rfl | rfl | rfl | rfl | rfl | rfl | rfl | rfl | rfl <;> rfl
  · have e : att x = false := decide_eq_false h
    rw [e]
    simp only [not_or] at h
    obtain ⟨h1, h2, h3, h4, h5, h6, h7, h8, h9⟩ := h
    unfold g97
    rw [if_neg h1, if_neg h2, if_neg h3, if_neg h4, if_neg h5, if_neg h6, if_neg h7, if_neg h8, if_neg h9]
    rfl
theorem g98_eq (x : Int32) (σ : xS) : g98 x σ = some (.inl (xb (isd x)), σ) := by
  unfold g98 isd
  by_cases h1 : x < 48
  · rw [if_pos h1, decide_eq_true h1]; rfl
  · rw [if_neg h1, decide_eq_false h1]
    by_cases h2 : 57 < x
    · rw [if_pos h2, decide_eq_true h2]; rfl
    · rw [if_neg h2, decide_eq_false h2]; rfl
/-- the class's reader stands at i -/
def cR (B : Nat → Int32) (L i : Nat) (σ : xS) : Prop := σ 20 2 = Int32.ofNat i ∧ σ 20 3 = nx B L i ∧ σ 21 1 = Int32.ofNat L ∧ σ 22 = B ∧ L ≤ 300
def mv (σ : xS) (j : Nat) (v : Int32) : xS := xh_ui (xh_ui σ 20 2 (Int32.ofNat j)) 20 3 v
theorem mv_o {σ : xS} {j : Nat} {v : Int32} {c : Nat} (h : ¬ c = 20) : mv σ j v c = σ c := by unfold mv; rw [xu_o h, xu_o h]
theorem mv_20 (σ : xS) (j : Nat) (v : Int32) : mv σ j v 20 = upd (upd (σ 20) 2 (Int32.ofNat j)) 3 v := by unfold mv; rw [xu_a, xu_a]
theorem mv_mv (σ : xS) (j k : Nat) (v w : Int32) : mv (mv σ j v) k w = mv σ k w := funext fun c => by
  by_cases h : c = 20
  · subst h
    rw [mv_20, mv_20, mv_20]
    funext i
    unfold upd
    by_cases h3 : i = 3
    · rw [if_pos h3, if_pos h3]
    · rw [if_neg h3]
      by_cases h2 : i = 2
      · rw [if_pos h2, if_neg h3, if_pos h2]
      · rw [if_neg h2, if_neg h3, if_neg h2, if_neg h3, if_neg h2]
  · rw [mv_o h, mv_o h, mv_o h]
theorem mv_id {B : Nat → Int32} {L i : Nat} {σ : xS} (h : cR B L i σ) : mv σ i (nx B L i) = σ := funext fun c => by
  by_cases q : c = 20
  · subst q
    rw [mv_20, upd_id h.1, upd_id h.2.1]
  · rw [mv_o q]
theorem cR_mv {B : Nat → Int32} {L i : Nat} {σ : xS} (h : cR B L i σ) (j : Nat) : cR B L j (mv σ j (nx B L j)) := ⟨rfl, rfl, h.2.2.1, h.2.2.2.1, h.2.2.2.2⟩
theorem g90_eq {B : Nat → Int32} {L i : Nat} {σ : xS} (h : cR B L i σ) {j : Nat} (hj : j ≤ 1000) : g90 (Int32.ofNat j) σ = some (.inl 0, mv σ j (nx B L j)) := by
  obtain ⟨h1, h2, h3, h4, h5⟩ := h
  have e1 : xh_ui σ 20 2 (Int32.ofNat j) 21 1 = Int32.ofNat L := h3
  have e2 : xh_ui σ 20 2 (Int32.ofNat j) 22 = B := h4
  unfold g90 mv nx
  rw [e1, e2]
  by_cases q : L ≤ j
  · have q' : Int32.ofNat L ≤ Int32.ofNat j := by
      rw [Int32.le_iff_toInt_le, Int32.toInt_ofNat_of_lt (by omega), Int32.toInt_ofNat_of_lt (by omega)]; omega
    rw [if_pos q', if_pos q]
  · have q' : ¬ Int32.ofNat L ≤ Int32.ofNat j := by
      rw [Int32.le_iff_toInt_le, Int32.toInt_ofNat_of_lt (by omega), Int32.toInt_ofNat_of_lt (by omega)]; omega
    rw [if_neg q', if_neg q, xn_of (by omega) (by omega), cond_true, Int32.toNatClampNeg_ofNat_of_lt (by omega)]
/-- on by one -/
theorem g90_s {B : Nat → Int32} {L i : Nat} {σ : xS} (h : cR B L i σ) (hi : i < 1000) : g90 (σ 20 2 + 1) σ = some (.inl 0, mv σ (i + 1) (nx B L (i + 1))) := by
  rw [h.1, x_succ]; exact g90_eq h (by omega)
theorem g102_eq {B : Nat → Int32} {L i : Nat} {σ : xS} (h : cR B L i σ) (hi : i < 1000) (a : Int32) : g102 a σ = some (if nx B L i = a then (.inl 1, mv σ (i + 1) (nx B L (i + 1))) else (.inl 0, σ)) := by
  unfold g102
  rw [h.2.1]
  by_cases q : nx B L i = a
  · rw [if_pos q, if_pos q, g90_s h hi]
  · rw [if_neg q, if_neg q]
theorem x48 : isd 48 = true := by decide
/-- the class reads a number -/
theorem g99_eq {B : Nat → Int32} {L i : Nat} {σ : xS} (h : cR B L i σ) (hd : isd (nx B L i) = true) : g99 σ = some (.inl (pn B L i).2, mv σ (pn B L i).1 (nx B L (pn B L i).1)) := by
  have hi : i < 300 := Nat.lt_of_lt_of_le (nx_lt (isd_m1 hd)) h.2.2.2.2
  have h1 := cR_mv h (i + 1)
  have h2 := cR_mv h (i + 2)
  have b0 : ∀ k : Int32, ¬ k ≤ 0 → g99_19b k 0 0 σ = some (.inl (k, 10 * 0 + nx B L i - 48, 1, mv σ (i + 1) (nx B L (i + 1)))) := fun k hk => by
    simp only [g99_19b, if_neg hk, h.2.1, g98_eq, hd, xb_t, x10, if_false, g90_s h (by omega : i < 1000)]
    rfl
  unfold pn
  by_cases q : nx B L i = 48
  · rw [if_pos q]
    have e1 : g99_19b 1 (10 * 0 + nx B L i - 48) 1 (mv σ (i + 1) (nx B L (i + 1))) = some (.inr (.inl (10 * 0 + nx B L i - 48), mv σ (i + 1) (nx B L (i + 1)))) := by
      simp only [g99_19b, if_pos (Int32.le_refl 1)]
    simp only [g99, h.2.1, if_pos q, g99_14, g99_19]
    rw [xlo_step (a := (1, 0, 0, σ)) (b0 1 (by decide)), xlo_end (a := (1, _, 1, _)) e1]
  · rw [if_neg q]
    simp only [g99, h.2.1, if_neg q, g99_14, g99_19]
    rw [xlo_step (a := (3, 0, 0, σ)) (b0 3 (by decide))]
    have n1 : ¬ (3 : Int32) ≤ 1 := by decide
    have n2 : ¬ (3 : Int32) ≤ 2 := by decide
    cases d1 : isd (nx B L (i + 1)) with
    | false =>
      have e1 : g99_19b 3 (10 * 0 + nx B L i - 48) 1 (mv σ (i + 1) (nx B L (i + 1))) = some (.inr (.inl (10 * 0 + nx B L i - 48), mv σ (i + 1) (nx B L (i + 1)))) := by
        simp only [g99_19b, if_neg n1, h1.2.1, g98_eq, d1, xb_f, if_true]
      rw [xlo_end (a := (3, _, 1, _)) e1]
      rfl
    | true =>
      have e1 : g99_19b 3 (10 * 0 + nx B L i - 48) 1 (mv σ (i + 1) (nx B L (i + 1))) = some (.inl (3, 10 * (10 * 0 + nx B L i - 48) + nx B L (i + 1) - 48, 2, mv σ (i + 2) (nx B L (i + 2)))) := by
        simp only [g99_19b, if_neg n1, h1.2.1, g98_eq, d1, xb_t, x10, if_false, g90_s h1 (by omega : i + 1 < 1000), mv_mv]
        rfl
      rw [xlo_step (a := (3, _, 1, _)) e1]
      cases d2 : isd (nx B L (i + 2)) with
      | false =>
        have e2 : g99_19b 3 (10 * (10 * 0 + nx B L i - 48) + nx B L (i + 1) - 48) 2 (mv σ (i + 2) (nx B L (i + 2))) = some (.inr (.inl (10 * (10 * 0 + nx B L i - 48) + nx B L (i + 1) - 48), mv σ (i + 2) (nx B L (i + 2)))) := by
          simp only [g99_19b, if_neg n2, h2.2.1, g98_eq, d2, xb_f, if_true]
        rw [xlo_end (a := (3, _, 2, _)) e2]
        rfl
      | true =>
        have e2 : g99_19b 3 (10 * (10 * 0 + nx B L i - 48) + nx B L (i + 1) - 48) 2 (mv σ (i + 2) (nx B L (i + 2))) = some (.inl (3, 10 * (10 * (10 * 0 + nx B L i - 48) + nx B L (i + 1) - 48) + nx B L (i + 2) - 48, 3, mv σ (i + 3) (nx B L (i + 3)))) := by
          simp only [g99_19b, if_neg n2, h2.2.1, g98_eq, d2, xb_t, x10, if_false, g90_s h2 (by omega : i + 2 < 1000), mv_mv]
          rfl
        have e3 : ∀ x s, g99_19b 3 x 3 s = some (.inr (.inl x, s)) := fun x s => by simp only [g99_19b, if_pos (Int32.le_refl 3)]
        rw [xlo_step (a := (3, _, 2, _)) e2, xlo_end (a := (3, _, 3, _)) (e3 _ _)]
        rfl
/-- a step more -/
def aS (p S : Nat) (l s n : Int32) (σ : xS) : xS := xh_ui (xh_ui (xh_ui (xh_ui σ (p + 8) S l) (p + 9) S s) (p + 10) S n) p 11 (Int32.ofNat (S + 1))
theorem g100_eq {p S : Nat} {σ : xS} (hS : σ p 11 = Int32.ofNat S) (h3 : S < 300) (l s n : Int32) : g100 p l s n σ = some (.inl 0, aS p S l s n σ) := by
  have e1 : ∀ v, xh_ui σ (p + 8) S v p 11 = Int32.ofNat S := fun v => by rw [xu_o (by omega)]; exact hS
  have e2 : ∀ v w, xh_ui (xh_ui σ (p + 8) S v) (p + 9) S w p 11 = Int32.ofNat S := fun v w => by rw [xu_o (by omega)]; exact e1 v
  have e3 : ∀ v w u, xh_ui (xh_ui (xh_ui σ (p + 8) S v) (p + 9) S w) (p + 10) S u p 11 = Int32.ofNat S := fun v w u => by rw [xu_o (by omega)]; exact e2 v w
  have n3 : ¬ 300 ≤ Int32.ofNat S := by
    have z : (300 : Int32).toInt = 300 := by decide
    rw [Int32.le_iff_toInt_le, z, Int32.toInt_ofNat_of_lt (by omega)]; omega
  unfold g100 aS
  rw [hS, if_neg n3, xn_of (by omega) h3, cond_true, Int32.toNatClampNeg_ofNat_of_lt (by omega), e1, xn_of (by omega) h3, cond_true, Int32.toNatClampNeg_ofNat_of_lt (by omega), e2, xn_of (by omega) h3, cond_true, Int32.toNatClampNeg_ofNat_of_lt (by omega), e3, x_succ]
/-- the class reads a match -/
theorem g96_eq {p : Nat} (hp : 22 < p) {B : Nat → Int32} {L i S : Nat} {σ : xS} (h : cR B L i σ) (hi : i ≤ 300) (hS : σ p 11 = Int32.ofNat S) (h3 : S ≤ i) :
    g96 p σ = some (bif (pm B L i).1 then (.inl 1, aS p S (pm B L i).2.2.1 (pm B L i).2.2.2.1 (pm B L i).2.2.2.2 (mv σ (pm B L i).2.1 (nx B L (pm B L i).2.1))) else (.inl 0, mv σ (pm B L i).2.1 (nx B L (pm B L i).2.1))) := by
  have h1 := cR_mv h (i + 1)
  have h2 := cR_mv h (i + 2)
  unfold pm
  cases a : att (nx B L i) with
  | false =>
    simp only [g96, h.2.1, g97_eq, a, xb_f, if_true, cond_false]
    rw [mv_id h]
  | true =>
    have k71 : ∀ x1 x2, g96_71 p x1 x2 (mv σ (i + 1) (nx B L (i + 1))) = some (bif isd (nx B L (i + 2)) then (.inl 1, aS p S x1 x2 (pn B L (i + 2)).2 (mv σ (pn B L (i + 2)).1 (nx B L (pn B L (i + 2)).1))) else (.inl 0, mv σ (i + 2) (nx B L (i + 2)))) := fun x1 x2 => by
      cases d : isd (nx B L (i + 2)) with
      | false => simp only [g96_71, g90_s h1 (by omega : i + 1 < 1000), mv_mv, h2.2.1, g98_eq, d, xb_f, if_true, cond_false]
      | true =>
        have e9 := g99_eq h2 d
        rw [mv_mv] at e9
        have eS : ∀ j v, mv σ j v p 11 = Int32.ofNat S := fun j v => by rw [mv_o (by omega)]; exact hS
        have hL := h.2.2.2.2
        have hlt := nx_lt (isd_m1 d)
        simp only [g96_71, g90_s h1 (by omega : i + 1 < 1000), mv_mv, h2.2.1, g98_eq, d, xb_t, x10, if_false, e9, g100_eq (eS _ _) (by omega : S < 300), cond_true]
    by_cases c1 : nx B L i = 114 ∨ nx B L i = 117
    · have k46 : g96 p σ = g96_46 p (nx B L i) (nx B L (i + 1)) 0 (mv σ (i + 1) (nx B L (i + 1))) := by
        rcases c1 with c1 | c1
        · simp only [g96, h.2.1, g97_eq, a, xb_t, x10, if_false, g90_s h (by omega : i < 1000), if_pos c1, h1.2.1, g96_45]
        · by_cases c2 : nx B L i = 114
          · simp only [g96, h.2.1, g97_eq, a, xb_t, x10, if_false, g90_s h (by omega : i < 1000), if_pos c2, h1.2.1, g96_45]
          · simp only [g96, h.2.1, g97_eq, a, xb_t, x10, if_false, g90_s h (by omega : i < 1000), if_neg c2, if_pos c1, h1.2.1, g96_45]
      rw [k46]
      unfold g96_46 sgn
      by_cases s1 : nx B L (i + 1) = 61
      · rw [if_pos s1, decide_eq_true (Or.inl s1), k71]
        cases isd (nx B L (i + 2)) <;> simp only [cond_true, cond_false]
      · rw [if_neg s1, if_pos rfl, decide_eq_false (fun q => by
          rcases q with q | ⟨q, q1, q2⟩
          · exact s1 q
          · rcases c1 with c1 | c1
            · exact q1 c1
            · exact q2 c1)]
        simp only [cond_true, cond_false]
    · have c1a : ¬ nx B L i = 114 := fun q => c1 (Or.inl q)
      have c1b : ¬ nx B L i = 117 := fun q => c1 (Or.inr q)
      have k46 : g96 p σ = g96_46 p (nx B L i) (nx B L (i + 1)) 1 (mv σ (i + 1) (nx B L (i + 1))) := by
        simp only [g96, h.2.1, g97_eq, a, xb_t, x10, if_false, g90_s h (by omega : i < 1000), if_neg c1a, if_neg c1b, h1.2.1]
      rw [k46]
      unfold g96_46 sgn
      by_cases s1 : nx B L (i + 1) = 61
      · rw [if_pos s1, decide_eq_true (Or.inl s1), k71]
        cases isd (nx B L (i + 2)) <;> simp only [cond_true, cond_false]
      · rw [if_neg s1, if_neg (by decide)]
        by_cases s2 : nx B L (i + 1) = 60
        · rw [if_pos s2, decide_eq_true (Or.inr ⟨Or.inl s2, c1a, c1b⟩), k71]
          cases isd (nx B L (i + 2)) <;> simp only [cond_true, cond_false]
        · rw [if_neg s2]
          by_cases s3 : nx B L (i + 1) = 62
          · rw [if_pos s3, decide_eq_true (Or.inr ⟨Or.inr s3, c1a, c1b⟩), k71]
            cases isd (nx B L (i + 2)) <;> simp only [cond_true, cond_false]
          · rw [if_neg s3, decide_eq_false (fun q => by
              rcases q with q | ⟨q | q, q1, q2⟩
              · exact s1 q
              · exact s2 q
              · exact s3 q)]
            simp only [cond_true, cond_false]
