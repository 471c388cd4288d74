/-! a target: both readers -/
abbrev xG : Type := xE × Int32 × Int32
def flg (c : Int32) : Int32 × Int32 := (if c = 44 then 0 else 1, if c = 38 then 1 else if c = 91 then 1 else 0)
def sep (e : Int32) : Bool := decide (e = 44 ∨ e = 124 ∨ e = 38)
/-- from the bracket or comma c at i: is it right; where reading stands; the class's steps; the matches with their flags -/
def pt (B : Nat → Int32) (L : Nat) : Nat → Int32 → Nat → Bool × Nat × List xE × List xG
  | 0, _, i => (false, i, [], [])
  | f + 1, c, i => bif (pm B L (i + 1)).1 then
      (bif sep (nx B L (pm B L (i + 1)).2.1) then
        ((pt B L f (nx B L (pm B L (i + 1)).2.1) (pm B L (i + 1)).2.1).1, (pt B L f (nx B L (pm B L (i + 1)).2.1) (pm B L (i + 1)).2.1).2.1,
          (pm B L (i + 1)).2.2 :: (nx B L (pm B L (i + 1)).2.1, 0, 0) :: (pt B L f (nx B L (pm B L (i + 1)).2.1) (pm B L (i + 1)).2.1).2.2.1,
          ((pm B L (i + 1)).2.2, flg c) :: (pt B L f (nx B L (pm B L (i + 1)).2.1) (pm B L (i + 1)).2.1).2.2.2)
      else if nx B L (pm B L (i + 1)).2.1 = 93 then (true, (pm B L (i + 1)).2.1 + 1, [(pm B L (i + 1)).2.2, (93, 0, 0)], [((pm B L (i + 1)).2.2, flg c)])
      else (false, (pm B L (i + 1)).2.1, [], []))
    else (false, (pm B L (i + 1)).2.1, [], [])
def pT (B : Nat → Int32) (L i : Nat) : Bool × Nat × List xE × List xG := if nx B L i = 91 then pt B L 300 91 i else (true, i, [], [])
theorem sep_m1 {e : Int32} (h : sep e = true) : ¬ e = -1 := fun q => by subst q; revert h; decide
theorem sep_93 {e : Int32} (h : sep e = true) : ¬ e = 93 := fun q => by subst q; revert h; decide
def ptG (L i : Nat) (r : Bool × Nat × List xE × List xG) : Prop := i ≤ r.2.1 ∧ r.2.1 ≤ L ∧ (r.1 = true → i + r.2.2.1.length ≤ r.2.1 ∧ i + 3 * r.2.2.2.length ≤ r.2.1)
theorem ptG_t {B : Nat → Int32} {L : Nat} : ∀ (f : Nat) (c : Int32) (i : Nat), i < L → ptG L i (pt B L f c i)
  | 0, _, i, h => ⟨Nat.le_refl _, Nat.le_of_lt h, fun z => by cases z⟩
  | f + 1, c, i, h => by
    obtain ⟨p0, p1, p2⟩ := pm_le (B := B) (i := i + 1) h
    rw [pt]
    cases g : (pm B L (i + 1)).1 with
    | false => exact ⟨by show i ≤ (pm B L (i + 1)).2.1; omega, p1, fun z => by cases z⟩
    | true =>
      have p2 := p2 g
      rw [cond_true]
      cases e : sep (nx B L (pm B L (i + 1)).2.1) with
      | true =>
        obtain ⟨a, b, d⟩ := ptG_t (B := B) f (nx B L (pm B L (i + 1)).2.1) (pm B L (i + 1)).2.1 (nx_lt (sep_m1 e))
        rw [cond_true]
        refine ⟨by show i ≤ (pt B L f _ _).2.1; omega, b, fun z => ?_⟩
        obtain ⟨x, y⟩ := d z
        constructor
        · rw [List.length_cons, List.length_cons]
          show i + ((pt B L f _ _).2.2.1.length + 1 + 1) ≤ (pt B L f _ _).2.1
          omega
        · rw [List.length_cons]
          show i + 3 * ((pt B L f _ _).2.2.2.length + 1) ≤ (pt B L f _ _).2.1
          omega
      | false =>
        rw [cond_false]
        by_cases z : nx B L (pm B L (i + 1)).2.1 = 93
        · rw [if_pos z]
          have hlt := nx_lt (B := B) (L := L) (i := (pm B L (i + 1)).2.1) (by rw [z]; decide)
          exact ⟨by show i ≤ (pm B L (i + 1)).2.1 + 1; omega, hlt, fun _ => ⟨by show i + 2 ≤ (pm B L (i + 1)).2.1 + 1; omega, by show i + 3 * 1 ≤ (pm B L (i + 1)).2.1 + 1; omega⟩⟩
        · rw [if_neg z]
          exact ⟨by show i ≤ (pm B L (i + 1)).2.1; omega, p1, fun z => by cases z⟩
theorem ptG_T {B : Nat → Int32} {L i : Nat} (h : i ≤ L) : ptG L i (pT B L i) := by
  unfold pT
  by_cases q : nx B L i = 91
  · rw [if_pos q]; exact ptG_t 300 91 i (nx_lt (by rw [q]; decide))
  · rw [if_neg q]; exact ⟨Nat.le_refl _, h, fun _ => ⟨Nat.le_refl _, Nat.le_refl _⟩⟩
theorem g101_eq (x : Int32) (σ : xS) : g101 x σ = some (.inl (xb (sep x || decide (x = 93))), σ) := by
  unfold g101 sep
  by_cases h1 : x = 44
  · rw [if_pos h1, decide_eq_true (Or.inl h1)]; rfl
  · rw [if_neg h1]
    by_cases h2 : x = 124
    · rw [if_pos h2, decide_eq_true (Or.inr (Or.inl h2))]; rfl
    · rw [if_neg h2]
      by_cases h3 : x = 38
      · rw [if_pos h3, decide_eq_true (Or.inr (Or.inr h3))]; rfl
      · rw [if_neg h3, decide_eq_false (fun q => by
          rcases q with q | q | q
          · exact h1 q
          · exact h2 q
          · exact h3 q)]
        by_cases h4 : x = 93
        · rw [if_pos h4, decide_eq_true h4]; rfl
        · rw [if_neg h4, decide_eq_false h4]; rfl
/-- the class reads a target's matches -/
theorem g95_lp {p : Nat} (hp : 22 < p) {B : Nat → Int32} {L : Nat} (x1 : Int32) : ∀ (f : Nat) (c : Int32) (i k m S : Nat) (σ : xS), L ≤ i + f → cR B L i σ → i < L → k ≤ i → L < i + m → σ p 11 = Int32.ofNat S → S ≤ i →
    ∃ σ', (xlo (fun a : Int32 × Int32 × Int32 × xS => g95_17b p a.1 a.2.1 a.2.2.1 a.2.2.2) (m + 1) (x1, 1, Int32.ofNat k, σ) = bif (pt B L f c i).1 then g95_91 p x1 σ' else some (.inl 0, σ')) ∧ cR B L (pt B L f c i).2.1 σ' ∧ cF p σ σ' ∧ ((pt B L f c i).1 = true → cT p S (pt B L f c i).2.2.1 σ σ')
  | 0, c, i, k, m, S, σ, h1, h, h2, _, _, _, _ => absurd h2 (by omega)
  | f + 1, c, i, k, m, S, σ, h1, h, h2, h3, h4, hS, hSi => by
    have hL := h.2.2.2.2
    obtain ⟨p0, p1, p2⟩ := pm_le (B := B) (i := i + 1) h2
    have hr1 := cR_mv h (i + 1)
    have hS1 : mv σ (i + 1) (nx B L (i + 1)) p 11 = Int32.ofNat S := by rw [mv_o (by omega)]; exact hS
    obtain ⟨σ1, e1, a1, a2, a3⟩ := cQ_m hp hr1 h2 hS1 (by omega)
    unfold pmt at e1 a1 a3
    rw [pt]
    cases g : (pm B L (i + 1)).1 with
    | false =>
      rw [g, cond_false] at e1 a1 a3
      refine ⟨σ1, xlo_end ?_, a1, cF_l a2, fun z => by cases z⟩
      simp only [g95_17b, if_neg (x300 (by omega : k < 300)), x10, if_false, g90_s h (by omega : i < 1000), e1, pno, xb_f, if_true]
    | true =>
      have p2 := p2 g
      rw [g, cond_true] at e1 a1 a3
      have ht : cT p S [(pm B L (i + 1)).2.2] σ σ1 := cT_l hp hS (a3 rfl)
      rw [cond_true]
      generalize hj : (pm B L (i + 1)).2.1 = j at *
      have a1 : cR B L j σ1 := a1
      have ha := cT_trans ht (cT_aS (nx B L j) 0 0)
      have hra := cR_aS (p := p) (S := S + 1) hp a1 (nx B L j) 0 0
      cases e : sep (nx B L j) with
      | true =>
        have n93 := sep_93 e
        have hlt := nx_lt (sep_m1 e)
        have b : g95_17b p x1 1 (Int32.ofNat k) σ = some (.inl (x1, 1, Int32.ofNat (k + 1), aS p (S + 1) (nx B L j) 0 0 σ1)) := by
          simp only [g95_17b, if_neg (x300 (by omega : k < 300)), x10, if_false, g90_s h (by omega : i < 1000), e1, xb_t, a1.2.1, g101_eq, e, Bool.true_or, g100_eq (S := S + 1) ht.2.2.1 (by omega), g102_eq hra (by omega), if_neg n93, if_true, g95_84, x_succ]
        match m, h4 with
        | 0, h4 => exact absurd h4 (by omega)
        | m + 1, h4 =>
        obtain ⟨σ2, d1, d2, d3, d4⟩ := g95_lp hp x1 f (nx B L j) j (k + 1) m (S + 2) (aS p (S + 1) (nx B L j) 0 0 σ1) (by omega) hra hlt (by omega) (by omega) ha.2.2.1 (by omega)
        refine ⟨σ2, ?_, d2, cF_trans (cF_T ha) d3, fun z => ?_⟩
        · rw [xlo_step (a := (x1, 1, Int32.ofNat k, σ)) b, d1]
          rfl
        · exact cT_trans ha (d4 z)
      | false =>
        rw [cond_false]
        by_cases z : nx B L j = 93
        · rw [if_pos z]
          have hlt := nx_lt (B := B) (L := L) (i := j) (by rw [z]; decide)
          have hm := cT_r hp ha (j + 1) (nx B L (j + 1))
          have b : g95_17b p x1 1 (Int32.ofNat k) σ = some (.inl (x1, 0, Int32.ofNat (k + 1), mv (aS p (S + 1) (nx B L j) 0 0 σ1) (j + 1) (nx B L (j + 1)))) := by
            simp only [g95_17b, if_neg (x300 (by omega : k < 300)), x10, if_false, g90_s h (by omega : i < 1000), e1, xb_t, a1.2.1, g101_eq, e, decide_eq_true z, Bool.or_true, g100_eq (S := S + 1) ht.2.2.1 (by omega), g102_eq hra (by omega), if_pos z, g95_84, x_succ]
          match m, h4 with
          | 0, h4 => exact absurd h4 (by omega)
          | m + 1, h4 =>
          refine ⟨mv (aS p (S + 1) (nx B L j) 0 0 σ1) (j + 1) (nx B L (j + 1)), ?_, cR_mv hra _, cF_T hm, fun _ => ?_⟩
          · rw [xlo_step (a := (x1, 1, Int32.ofNat k, σ)) b, cond_true]
            refine xlo_map ?_
            by_cases q : 300 ≤ Int32.ofNat (k + 1)
            · simp only [g95_17b, if_pos q]
            · simp only [g95_17b, if_neg q, if_true]
          · rw [z] at hm ⊢
            exact hm
        · rw [if_neg z]
          refine ⟨σ1, xlo_end ?_, a1, cF_T ht, fun z => by cases z⟩
          simp only [g95_17b, if_neg (x300 (by omega : k < 300)), x10, if_false, g90_s h (by omega : i < 1000), e1, xb_t, a1.2.1, g101_eq, e, decide_eq_false z, Bool.or_false, xb_f, if_true]
/-- the class reads a target -/
theorem g95_eq {p : Nat} (hp : 22 < p) {B : Nat → Int32} {L i S : Nat} {σ : xS} {x1 : Int32} (h : cR B L i σ) (hi : i ≤ L) (hS : σ p 11 = Int32.ofNat S) (hSi : S ≤ i) :
    ∃ σ', g95 p x1 σ = (bif (pT B L i).1 then g95_91 p x1 σ' else some (.inl 0, σ')) ∧ cR B L (pT B L i).2.1 σ' ∧ cF p σ σ' ∧ ((pT B L i).1 = true → cT p S (pT B L i).2.2.1 σ σ') := by
  have hL := h.2.2.2.2
  unfold g95 g95_14 g95_17 pT
  rw [h.2.1]
  by_cases q : nx B L i = 91
  · rw [if_pos q, if_pos q]
    exact g95_lp hp x1 300 91 i 0 999 S σ (by omega) h (nx_lt (by rw [q]; decide)) (by omega) (by omega) hS hSi
  · rw [if_neg q, if_neg q]
    have ht : cT p S [] σ σ := by
      have := cT_mv (S := S) hp hS i (nx B L i)
      rw [mv_id h] at this
      exact this
    refine ⟨σ, ?_, h, fun _ _ _ => rfl, fun _ => ht⟩
    rw [cond_true]
    refine xlo_map ?_
    simp only [g95_17b, if_neg (by decide : ¬ (300 : Int32) ≤ 0), if_true]
/-- matches more, with their flags -/
def rU (M : Nat) (Ms : List xG) (s s' : xS) : Prop :=
  (∀ c, ¬ c = 53 → ¬ (79 ≤ c ∧ c ≤ 83) → s' c = s c) ∧ (∀ j, ¬ j = 19 → ¬ j = 31 → s' 53 j = s 53 j) ∧ s' 53 31 = Int32.ofNat (M + Ms.length) ∧
  (∀ c, 79 ≤ c → c ≤ 83 → ∀ j, j < 100 + M → s' c j = s c j) ∧
  (∀ q t, Ms[q]? = some t → s' 79 (100 + M + q) = t.1.1 ∧ s' 80 (100 + M + q) = t.1.2.1 ∧ s' 81 (100 + M + q) = t.1.2.2 ∧ s' 82 (100 + M + q) = t.2.1 ∧ s' 83 (100 + M + q) = t.2.2)
theorem rU_trans {M : Nat} {Ms Ms' : List xG} {s s1 s2 : xS} (h : rU M Ms s s1) (h' : rU (M + Ms.length) Ms' s1 s2) : rU M (Ms ++ Ms') s s2 := by
  obtain ⟨a1, b1, c1, e1, f1⟩ := h
  obtain ⟨a2, b2, c2, e2, f2⟩ := h'
  refine ⟨fun c x y => (a2 c x y).trans (a1 c x y), fun j x y => (b2 j x y).trans (b1 j x y), ?_, fun c x y j z => (e2 c x y j (by omega)).trans (e1 c x y j z), fun q t hq => ?_⟩
  · rw [c2, List.length_append, Nat.add_assoc]
  · by_cases z : q < Ms.length
    · rw [List.getElem?_append_left z] at hq
      obtain ⟨x1, x2, x3, x4, x5⟩ := f1 q t hq
      exact ⟨(e2 79 (by decide) (by decide) _ (by omega)).trans x1, (e2 80 (by decide) (by decide) _ (by omega)).trans x2, (e2 81 (by decide) (by decide) _ (by omega)).trans x3, (e2 82 (by decide) (by decide) _ (by omega)).trans x4, (e2 83 (by decide) (by decide) _ (by omega)).trans x5⟩
    · rw [List.getElem?_append_right (by omega)] at hq
      have y := f2 _ t hq
      rw [show 100 + (M + Ms.length) + (q - Ms.length) = 100 + M + q by omega] at y
      exact y
theorem rU_aM {M : Nat} {s : xS} (j : Nat) (l g n a b : Int32) : rU M [((l, g, n), a, b)] s (aM M l g n a b (ra s j)) := by
  have e79 : aM M l g n a b (ra s j) 79 = upd (s 79) (100 + M) l := rfl
  have e80 : aM M l g n a b (ra s j) 80 = upd (s 80) (100 + M) g := rfl
  have e81 : aM M l g n a b (ra s j) 81 = upd (s 81) (100 + M) n := rfl
  have e82 : aM M l g n a b (ra s j) 82 = upd (s 82) (100 + M) a := rfl
  have e83 : aM M l g n a b (ra s j) 83 = upd (s 83) (100 + M) b := rfl
  refine ⟨fun c h h' => ?_, fun q h1 h => ?_, rfl, fun c h1 h2 j hj => ?_, fun q t h => ?_⟩
  · unfold aM ra; rw [xu_o h, xu_o (by omega), xu_o (by omega), xu_o (by omega), xu_o (by omega), xu_o (by omega), xu_o h]
  · show xh_ui _ 53 31 _ 53 q = _
    rw [xu_n h]
    show xh_ui s 53 19 _ 53 q = _
    rw [xu_n h1]
  · have hc : c = 79 ∨ c = 80 ∨ c = 81 ∨ c = 82 ∨ c = 83 := by omega
    rcases hc with rfl | rfl | rfl | rfl | rfl
    · rw [e79, upd_n (by omega)]
    · rw [e80, upd_n (by omega)]
    · rw [e81, upd_n (by omega)]
    · rw [e82, upd_n (by omega)]
    · rw [e83, upd_n (by omega)]
  · cases q with
    | zero => cases h; rw [e79, e80, e81, e82, e83]; exact ⟨upd_s _ _ _, upd_s _ _ _, upd_s _ _ _, upd_s _ _ _, upd_s _ _ _⟩
    | succ q => cases h
theorem rR_U {M : Nat} {Ms : List xG} {s s' : xS} {B : Nat → Int32} {L i j : Nat} (h : rR B L i s) (ht : rU M Ms s s') (hj : s' 53 19 = Int32.ofNat j) : rR B L j s' :=
  ⟨hj, by rw [ht.2.1 18 (by decide) (by decide)]; exact h.2.1, by rw [ht.1 69 (by decide) (by omega)]; exact h.2.2.1, h.2.2.2⟩
theorem flg_b (c : Int32) : vp_nar .boolean (flg c).1 = (flg c).1 ∧ vp_nar .boolean (flg c).2 = (flg c).2 := by
  unfold flg
  dsimp only
  constructor
  · by_cases h : c = 44
    · rw [if_pos h]; decide
    · rw [if_neg h]; decide
  · by_cases h : c = 38
    · rw [if_pos h]; decide
    · rw [if_neg h]
      by_cases h' : c = 91
      · rw [if_pos h']; decide
      · rw [if_neg h']; decide
/-- what failing leaves -/
def rV (s s' : xS) : Prop := (∀ c, ¬ c = 53 → ¬ (79 ≤ c ∧ c ≤ 83) → s' c = s c) ∧ (∀ j, ¬ j = 19 → ¬ j = 20 → ¬ j = 31 → s' 53 j = s 53 j) ∧ ∀ c, 79 ≤ c → c ≤ 83 → ∀ j, j < 100 → s' c j = s c j
theorem rV_U {M : Nat} {Ms : List xG} {s s' : xS} (h : rU M Ms s s') : rV s s' := ⟨h.1, fun j a _ b => h.2.1 j a b, fun c a b j z => h.2.2.2.1 c a b j (by omega)⟩
theorem rV_trans {s s1 s2 : xS} (h : rV s s1) (h' : rV s1 s2) : rV s s2 := ⟨fun c a b => (h'.1 c a b).trans (h.1 c a b), fun j a b c => (h'.2.1 j a b c).trans (h.2.1 j a b c), fun c a b j z => (h'.2.2 c a b j z).trans (h.2.2 c a b j z)⟩
abbrev rTp : Int32 × xS → Option ((Int32 × xS) ⊕ xQ) := fun a => g176_46b a.1 a.2
theorem g176_fail {x1 : Int32} {s : xS} {e m : Nat} (he : s 53 20 = Int32.ofNat e) (h1 : e ≤ 1000) : xlo rTp (m + 1) (x1, s) = g176_138 x1 s := by
  refine xlo_map ?_
  show g176_46b x1 s = _
  simp only [g176_46b, g171_0 he h1, if_true, g176_125]
/-- the reference reads a target's matches -/
theorem g176_lp {B : Nat → Int32} {L : Nat} (x1 : Int32) : ∀ (f : Nat) (c : Int32) (i m M : Nat) (s : xS), L ≤ i + f → rR B L i s → i < L → L < i + m → s 53 20 = -1 → s 53 31 = Int32.ofNat M → 3 * M ≤ i →
    ∃ s', (match g177 (flg c).1 (flg c).2 (ra s (i + 1)) with | some (Sum.inl v, s3) => xlo rTp (m + 1) (x1, s3) | some (Sum.inr v, s3) => none | none => none) = g176_138 x1 s' ∧
      ((pt B L f c i).1 = true → rR B L (pt B L f c i).2.1 s' ∧ rU M (pt B L f c i).2.2.2 s s') ∧ ((pt B L f c i).1 = false → s' 53 20 = Int32.ofNat (pt B L f c i).2.1 ∧ rV s s')
  | 0, c, i, m, M, s, h1, _, h2, _, _, _, _ => absurd h2 (by omega)
  | f + 1, c, i, m, M, s, h1, hr, h2, h3, hw, hM, h3M => by
    have hL := hr.2.2.2
    obtain ⟨p0, p1, p2⟩ := pm_le (B := B) (i := i + 1) h2
    obtain ⟨fb1, fb2⟩ := flg_b c
    have hr1 : rR B L (i + 1) (ra s (i + 1)) := rR_ra hr _
    have e := g177_eq (s := ra s (i + 1)) hr1 (by omega) hw hM (by omega) (flg c).1 (flg c).2 fb1 fb2
    rw [pt, e, ra_ra]
    cases g : (pm B L (i + 1)).1 with
    | false =>
      rw [cond_false, cond_false]
      dsimp only
      refine ⟨xh_ui (ra s (pm B L (i + 1)).2.1) 53 20 (Int32.ofNat (pm B L (i + 1)).2.1), ?_, fun z => (by cases z), fun _ => ⟨rfl, ⟨fun c h _ => ?_, fun q h h' _ => ?_, fun c a b j _ => ?_⟩⟩⟩
      · exact g176_fail (e := (pm B L (i + 1)).2.1) rfl (by omega)
      · unfold ra; rw [xu_o h, xu_o h]
      · unfold ra; rw [xu_n h', xu_n h]
      · unfold ra; rw [xu_o (by omega), xu_o (by omega)]
    | true =>
      have p2 := p2 g
      rw [cond_true, cond_true]
      dsimp only
      have hu : rU M [((pm B L (i + 1)).2.2, flg c)] s (aM M (pm B L (i + 1)).2.2.1 (pm B L (i + 1)).2.2.2.1 (pm B L (i + 1)).2.2.2.2 (flg c).1 (flg c).2 (ra s (pm B L (i + 1)).2.1)) := rU_aM _ _ _ _ _ _
      have hr2 := rR_U (j := (pm B L (i + 1)).2.1) hr hu rfl
      have hw2 : aM M (pm B L (i + 1)).2.2.1 (pm B L (i + 1)).2.2.2.1 (pm B L (i + 1)).2.2.2.2 (flg c).1 (flg c).2 (ra s (pm B L (i + 1)).2.1) 53 20 = -1 := hw
      have hM2 : aM M (pm B L (i + 1)).2.2.1 (pm B L (i + 1)).2.2.2.1 (pm B L (i + 1)).2.2.2.2 (flg c).1 (flg c).2 (ra s (pm B L (i + 1)).2.1) 53 31 = Int32.ofNat (M + 1) := rfl
      generalize aM M (pm B L (i + 1)).2.2.1 (pm B L (i + 1)).2.2.2.1 (pm B L (i + 1)).2.2.2.2 (flg c).1 (flg c).2 (ra s (pm B L (i + 1)).2.1) = s2 at *
      generalize hj : (pm B L (i + 1)).2.1 = j at *
      cases e : sep (nx B L j) with
      | true =>
        have hlt := nx_lt (sep_m1 e)
        have n91 : ¬ nx B L j = 91 := fun q => by rw [q] at e; revert e; decide
        match m, h3 with
        | 0, h3 => exact absurd h3 (by omega)
        | m + 1, h3 =>
        obtain ⟨s3, d1, d2, d3⟩ := g176_lp x1 f (nx B L j) j m (M + 1) s2 (by omega) hr2 hlt (by omega) hw2 hM2 (by omega)
        rw [cond_true]
        refine ⟨s3, ?_, fun z => ⟨(d2 z).1, rU_trans hu (d2 z).2⟩, fun z => ⟨(d3 z).1, rV_trans (rV_U hu) (d3 z).2⟩⟩
        have k80 : g176_46b x1 s2 = g176_80 x1 s2 := by
          unfold sep at e
          have e := of_decide_eq_true e
          by_cases q1 : nx B L j = 44
          · simp only [g176_46b, g171_1 hw2, x10, if_false, g173_eq hr2 (by omega), if_pos q1]
          · by_cases q2 : nx B L j = 124
            · simp only [g176_46b, g171_1 hw2, x10, if_false, g173_eq hr2 (by omega), if_neg q1, if_pos q2]
            · have q3 := (e.resolve_left q1).resolve_left q2
              simp only [g176_46b, g171_1 hw2, x10, if_false, g173_eq hr2 (by omega), if_neg q1, if_neg q2, if_pos q3]
        have w2 := ra_s hr2
        have k118 : g176_80 x1 s2 = g176_118 x1 (flg (nx B L j)).1 (flg (nx B L j)).2 (ra s2 (j + 1)) := by
          unfold flg
          dsimp only
          by_cases q1 : nx B L j = 44
          · have q3 : ¬ nx B L j = 38 := by rw [q1]; decide
            simp only [g176_80, g173_eq hr2 (by omega), if_pos q1, w2, g176_107, if_neg q3, if_neg n91]
          · by_cases q3 : nx B L j = 38
            · simp only [g176_80, g173_eq hr2 (by omega), if_neg q1, w2, g176_107, if_pos q3]
            · simp only [g176_80, g173_eq hr2 (by omega), if_neg q1, w2, g176_107, if_neg q3, if_neg n91]
        rw [← d1]
        have ek : rTp (x1, s2) = g176_118 x1 (flg (nx B L j)).1 (flg (nx B L j)).2 (ra s2 (j + 1)) := k80.trans k118
        rw [xlo, ek]
        unfold g176_118
        cases g177 (flg (nx B L j)).1 (flg (nx B L j)).2 (ra s2 (j + 1)) with
        | none => rfl
        | some q =>
          obtain ⟨v | v, s4⟩ := q <;> rfl
      | false =>
        rw [cond_false]
        have q1 : ¬ nx B L j = 44 := fun q => by rw [q] at e; revert e; decide
        have q2 : ¬ nx B L j = 124 := fun q => by rw [q] at e; revert e; decide
        have q3 : ¬ nx B L j = 38 := fun q => by rw [q] at e; revert e; decide
        by_cases z : nx B L j = 93
        · rw [if_pos z]
          refine ⟨ra s2 (j + 1), xlo_map ?_, fun _ => ⟨rR_ra hr2 _, ?_⟩, fun z => by cases z⟩
          · show g176_46b x1 s2 = _
            simp only [g176_46b, g171_1 hw2, x10, if_false, g173_eq hr2 (by omega), if_neg q1, if_neg q2, if_neg q3, g176_125, g180, if_pos z, ra_s hr2]
          · obtain ⟨y1, y2, y3, y4, y5⟩ := hu
            refine ⟨fun c a b => ?_, fun q a b => ?_, y3, fun c a b => ?_, fun q t hq => y5 q t hq⟩
            · unfold ra; rw [xu_o a]; exact y1 c a b
            · unfold ra; rw [xu_n a]; exact y2 q a b
            · unfold ra; rw [xu_o (by omega)]; exact y4 c a b
        · rw [if_neg z]
          refine ⟨xh_ui s2 53 20 (Int32.ofNat j), xlo_map ?_, fun z => (by cases z), fun _ => ⟨rfl, rV_trans (rV_U hu) ⟨fun c h _ => xu_o h, fun q _ h _ => xu_n h, fun c a b j _ => by rw [xu_o (by omega)]⟩⟩⟩
          show g176_46b x1 s2 = _
          simp only [g176_46b, g171_1 hw2, x10, if_false, g173_eq hr2 (by omega), if_neg q1, if_neg q2, if_neg q3, g176_125, g180, if_neg z, g175_eq hr2 hw2]
