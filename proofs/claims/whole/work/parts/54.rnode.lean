/-! the reference reads nodes: frames, target, condition -/
/-- nodes below N, matches below M, doings below D, open policies below w stand; what is in force stands -/
def rFn (N M D w : Nat) (s s' : xS) : Prop :=
  (∀ c, ¬ c = 53 → ¬ (70 ≤ c ∧ c ≤ 86) → s' c = s c) ∧ (∀ j, ¬ j = 19 → ¬ j = 20 → ¬ j = 31 → ¬ j = 32 → ¬ j = 40 → s' 53 j = s 53 j) ∧ s' 70 0 = s 70 0 ∧ (∀ c, 71 ≤ c → c ≤ 78 → ∀ j, j < 40 + N → s' c j = s c j) ∧
  (∀ c, 79 ≤ c → c ≤ 83 → ∀ j, j < 100 + M → s' c j = s c j) ∧ (∀ j, j < 300 + D → s' 84 j = s 84 j) ∧ ∀ j, j < w → s' 85 j = s 85 j
theorem rFn_trans {N M D w N' M' D' w' : Nat} {s s1 s2 : xS} (h : rFn N M D w s s1) (h' : rFn N' M' D' w' s1 s2) (hN : N ≤ N') (hM : M ≤ M') (hD : D ≤ D') (hw : w ≤ w') : rFn N M D w s s2 := by
  obtain ⟨a1, a2, a3, a4, a5, a6, a7⟩ := h
  obtain ⟨b1, b2, b3, b4, b5, b6, b7⟩ := h'
  exact ⟨fun c x y => (b1 c x y).trans (a1 c x y), fun j u v x y z => (b2 j u v x y z).trans (a2 j u v x y z), b3.trans a3, fun c x y j z => (b4 c x y j (by omega)).trans (a4 c x y j z), fun c x y j z => (b5 c x y j (by omega)).trans (a5 c x y j z), fun j z => (b6 j (by omega)).trans (a6 j z), fun j z => (b7 j (by omega)).trans (a7 j z)⟩
theorem rFn_id (N M D w : Nat) (s : xS) : rFn N M D w s s := ⟨fun _ _ _ => rfl, fun _ _ _ _ _ _ => rfl, rfl, fun _ _ _ _ _ => rfl, fun _ _ _ _ _ => rfl, fun _ _ => rfl, fun _ _ => rfl⟩
theorem rFn_mono {N M D w N' M' D' w' : Nat} {s s' : xS} (h : rFn N' M' D' w' s s') (hN : N ≤ N') (hM : M ≤ M') (hD : D ≤ D') (hw : w ≤ w') : rFn N M D w s s' := rFn_trans (rFn_id N M D w s) h hN hM hD hw
theorem rFn_53 {N M D w j : Nat} (hj : j = 19 ∨ j = 20 ∨ j = 31 ∨ j = 32 ∨ j = 40) (s : xS) (v : Int32) : rFn N M D w s (xh_ui s 53 j v) :=
  ⟨fun c h _ => xu_o h, fun k _ _ _ _ _ => xu_n (by omega), rfl, fun c _ _ k _ => by rw [xu_o (by omega)], fun c _ _ k _ => by rw [xu_o (by omega)], fun _ _ => rfl, fun _ _ => rfl⟩
theorem rFn_70 {N M D w : Nat} (s : xS) (v : Int32) : rFn N M D w s (xh_ui s 70 1 v) :=
  ⟨fun c _ h => xu_o (by omega), fun k _ _ _ _ _ => rfl, xu_n (by decide), fun c _ _ k _ => by rw [xu_o (by omega)], fun c _ _ k _ => by rw [xu_o (by omega)], fun _ _ => rfl, fun _ _ => rfl⟩
theorem rFn_nd {N M D w c j : Nat} (h1 : 71 ≤ c) (h2 : c ≤ 78) (hj : 40 + N ≤ j) (s : xS) (v : Int32) : rFn N M D w s (xh_ui s c j v) :=
  ⟨fun d _ h => xu_o (by omega), fun k _ _ _ _ _ => by rw [xu_o (by omega)], by rw [xu_o (by omega)], fun d _ _ k z => by
    by_cases q : d = c
    · subst q; rw [xu_n (by omega)]
    · rw [xu_o q], fun d _ _ k _ => by rw [xu_o (by omega)], fun k _ => by rw [xu_o (by omega)], fun k _ => by rw [xu_o (by omega)]⟩
theorem rFn_85 {N M D w j : Nat} (hj : w ≤ j) (s : xS) (v : Int32) : rFn N M D w s (xh_ui s 85 j v) :=
  ⟨fun c _ h => xu_o (by omega), fun k _ _ _ _ _ => rfl, rfl, fun c _ _ k _ => by rw [xu_o (by omega)], fun c _ _ k _ => by rw [xu_o (by omega)], fun _ _ => rfl, fun k _ => xu_n (by omega)⟩
theorem rFn_T {N M D w k : Nat} {Ms : List xE} {Ds : List Int32} {s s' : xS} (h : rT M D k Ms Ds s s') : rFn N M D w s s' := by
  obtain ⟨a1, a2, a3, a4, a5, a6, a7, a8, a9⟩ := h
  exact ⟨fun c x y => a1 c x (by omega) (by omega), fun j x _ y z _ => a2 j x y z, by rw [a1 70 (by decide) (by omega) (by decide)], fun c x y j _ => by rw [a1 c (by omega) (by omega) (by omega)], fun c x y j z => a5 c x y j z, fun j z => a7 j z, fun j _ => by rw [a1 85 (by decide) (by omega) (by decide)]⟩
theorem rFn_F {N w : Nat} {s s' : xS} (h : rF s s') : rFn N 0 0 w s s' := by
  obtain ⟨a1, a2, a3, a4⟩ := h
  exact ⟨fun c x y => a1 c x (by omega) (by omega), fun j x x' y z _ => a2 j x x' y z, by rw [a1 70 (by decide) (by omega) (by decide)], fun c x y j _ => by rw [a1 c (by omega) (by omega) (by omega)], fun c x y j z => a3 c x y j z, fun j z => a4 j z, fun j _ => by rw [a1 85 (by decide) (by omega) (by decide)]⟩
theorem rFn_U {N M D w : Nat} {Ms : List xG} {s s' : xS} (h : rU M Ms s s') : rFn N M D w s s' := by
  obtain ⟨a1, a2, a3, a4, a5⟩ := h
  exact ⟨fun c x y => a1 c x (by omega), fun j x _ y _ _ => a2 j x y, by rw [a1 70 (by decide) (by omega)], fun c x y j _ => by rw [a1 c (by omega) (by omega)], fun c x y j z => a4 c x y j z, fun j z => by rw [a1 84 (by decide) (by omega)], fun j _ => by rw [a1 85 (by decide) (by omega)]⟩
theorem rFn_V {N D w : Nat} {s s' : xS} (h : rV s s') : rFn N 0 D w s s' := by
  obtain ⟨a1, a2, a3⟩ := h
  exact ⟨fun c x y => a1 c x (by omega), fun j x x' y _ _ => a2 j x x' y, by rw [a1 70 (by decide) (by omega)], fun c x y j _ => by rw [a1 c (by omega) (by omega)], fun c x y j z => a3 c x y j z, fun j z => by rw [a1 84 (by decide) (by omega)], fun j _ => by rw [a1 85 (by decide) (by omega)]⟩
theorem x40a {N : Nat} : 40 + Int32.ofNat N = Int32.ofNat (40 + N) := by rw [Int32.ofNat_add]; rfl
theorem x100a {N : Nat} : 100 + Int32.ofNat N = Int32.ofNat (100 + N) := by rw [Int32.ofNat_add]; rfl
theorem x300a {N : Nat} : 300 + Int32.ofNat N = Int32.ofNat (300 + N) := by rw [Int32.ofNat_add]; rfl
/-- the reference reads a target -/
theorem r_tg {B : Nat → Int32} {L j N M : Nat} {s : xS} (hN : N < 40) (hr : rR B L j s) (hj : j ≤ L) (hw : s 53 20 = -1) (hM : s 53 31 = Int32.ofNat M) (h3 : 3 * M ≤ j) :
    ∃ s', g176 (Int32.ofNat (40 + N)) s = some (.inl 0, s') ∧ s' 53 32 = s 53 32 ∧ s' 53 40 = s 53 40 ∧ (∀ c, c = 70 ∨ c = 71 ∨ c = 72 ∨ (75 ≤ c ∧ c ≤ 78) ∨ 84 ≤ c → s' c = s c) ∧
      ((pT B L j).1 = true → rR B L (pT B L j).2.1 s' ∧ s' 53 20 = -1 ∧ s' 53 31 = Int32.ofNat (M + (pT B L j).2.2.2.length) ∧ (∀ D w, rFn N M D w s s') ∧ s' 73 (40 + N) = Int32.ofNat (100 + M) ∧ s' 74 (40 + N) = Int32.ofNat (100 + M + (pT B L j).2.2.2.length) ∧
        ∀ q t, (pT B L j).2.2.2[q]? = some t → s' 79 (100 + M + q) = t.1.1 ∧ s' 80 (100 + M + q) = t.1.2.1 ∧ s' 81 (100 + M + q) = t.1.2.2 ∧ s' 82 (100 + M + q) = t.2.1 ∧ s' 83 (100 + M + q) = t.2.2) ∧
      ((pT B L j).1 = false → s' 53 20 = Int32.ofNat (pT B L j).2.1 ∧ ∀ D w, rFn N 0 D w s s') := by
  have hL := hr.2.2.2
  have e138 : ∀ s1 : xS, g176_138 (Int32.ofNat (40 + N)) s1 = some (.inl 0, xh_ui s1 74 (40 + N) (100 + s1 53 31)) := fun s1 => by
    unfold g176_138
    rw [xn_of (by omega) (by omega), cond_true, Int32.toNatClampNeg_ofNat_of_lt (by omega)]
  let s0 : xS := xh_ui s 73 (40 + N) (Int32.ofNat (100 + M))
  have hr0 : rR B L j s0 := hr
  have hw0 : s0 53 20 = -1 := hw
  have hM0 : s0 53 31 = Int32.ofNat M := hM
  have hb : ∀ X : Option xQ, (nx B L j = 91 → (match g177 1 1 (ra s0 (j + 1)) with | some (Sum.inl v, s3) => xlo rTp (999 + 1) (Int32.ofNat (40 + N), s3) | some (Sum.inr v, s3) => none | none => none) = X) → (¬ nx B L j = 91 → g176_138 (Int32.ofNat (40 + N)) s0 = X) → g176 (Int32.ofNat (40 + N)) s = X := by
    intro X h1 h2
    unfold g176
    rw [xn_of (by omega) (by omega), cond_true, Int32.toNatClampNeg_ofNat_of_lt (by omega), hM, x100a, show g171 (xh_ui s 73 (40 + N) (Int32.ofNat (100 + M))) = _ from g171_1 hw0]
    dsimp only
    rw [if_neg x1n, show g173 (xh_ui s 73 (40 + N) (Int32.ofNat (100 + M))) = _ from g173_eq hr0 (by omega)]
    dsimp only
    by_cases q : nx B L j = 91
    · rw [if_pos q, ← h1 q, show xh_ui (xh_ui s 73 (40 + N) (Int32.ofNat (100 + M))) 53 19 (xh_ui s 73 (40 + N) (Int32.ofNat (100 + M)) 53 19 + 1) = _ from ra_s hr0]
      cases g177 1 1 (ra s0 (j + 1)) with
      | none => rfl
      | some y =>
        obtain ⟨v | v, s4⟩ := y <;> rfl
    · rw [if_neg q]; exact h2 q
  have fr0 : ∀ M D w, rFn N M D w s s0 := fun M D w => rFn_nd (by decide) (by decide) (Nat.le_refl _) s _
  unfold pT
  by_cases q : nx B L j = 91
  · have hlt := nx_lt (B := B) (L := L) (i := j) (by rw [q]; decide)
    obtain ⟨s1, a1, a2, a3⟩ := g176_lp (B := B) (L := L) (Int32.ofNat (40 + N)) 300 91 j 999 M s0 (by omega) hr0 hlt (by omega) hw0 hM0 h3
    rw [if_pos q]
    have hX := hb _ (fun _ => a1.trans (e138 s1)) (fun z => absurd q z)
    generalize pt B L 300 91 j = t at *
    cases g : t.1 with
    | true =>
      obtain ⟨b1, b2⟩ := a2 g
      obtain ⟨c1, c2, c3, c4, c5⟩ := id b2
      refine ⟨_, hX, ?_, ?_, fun c hc => ?_, fun _ => ⟨?_, ?_, c3, fun D w => ?_, ?_, ?_, fun z u hz => c5 z u hz⟩, fun z => by cases z⟩
      · show s1 53 32 = _; rw [c2 32 (by decide) (by decide)]; rfl
      · show s1 53 40 = _; rw [c2 40 (by decide) (by decide)]; rfl
      · rw [xu_o (by omega), c1 c (by omega) (by omega)]
        show xh_ui s 73 _ _ c = _
        rw [xu_o (by omega)]
      · exact b1
      · show s1 53 20 = -1; rw [c2 20 (by decide) (by decide)]; exact hw
      · exact rFn_trans (rFn_trans (fr0 M D w) (rFn_U b2) (Nat.le_refl _) (Nat.le_refl _) (Nat.le_refl _) (Nat.le_refl _)) (rFn_nd (by decide) (by decide) (Nat.le_refl _) s1 _) (Nat.le_refl _) (Nat.le_refl _) (Nat.le_refl _) (Nat.le_refl _)
      · show s1 73 (40 + N) = _
        rw [c1 73 (by decide) (by omega)]
        exact xu_s s 73 (40 + N) _
      · rw [xu_s, c3, x100a, Nat.add_assoc]
    | false =>
      obtain ⟨b1, b2⟩ := a3 g
      obtain ⟨c1, c2, c3⟩ := id b2
      refine ⟨_, hX, ?_, ?_, fun c hc => ?_, fun z => (by cases z), fun _ => ⟨b1, fun D w => ?_⟩⟩
      · show s1 53 32 = _; rw [c2 32 (by decide) (by decide) (by decide)]; rfl
      · show s1 53 40 = _; rw [c2 40 (by decide) (by decide) (by decide)]; rfl
      · rw [xu_o (by omega), c1 c (by omega) (by omega)]
        show xh_ui s 73 _ _ c = _
        rw [xu_o (by omega)]
      · exact rFn_trans (rFn_trans (fr0 0 D w) (rFn_V b2) (Nat.le_refl _) (Nat.le_refl _) (Nat.le_refl _) (Nat.le_refl _)) (rFn_nd (by decide) (by decide) (Nat.le_refl _) s1 _) (Nat.le_refl _) (Nat.le_refl _) (Nat.le_refl _) (Nat.le_refl _)
  · rw [if_neg q]
    refine ⟨_, hb _ (fun z => absurd z q) (fun _ => e138 s0), rfl, rfl, fun c hc => ?_, fun _ => ⟨hr0, hw0, hM0, fun D w => ?_, ?_, ?_, fun z u hz => by cases hz⟩, fun z => by cases z⟩
    · rw [xu_o (by omega)]
      show xh_ui s 73 _ _ c = _
      rw [xu_o (by omega)]
    · exact rFn_trans (fr0 M D w) (rFn_nd (by decide) (by decide) (Nat.le_refl _) s0 _) (Nat.le_refl _) (Nat.le_refl _) (Nat.le_refl _) (Nat.le_refl _)
    · exact xu_s s 73 (40 + N) _
    · rw [xu_s, hM0, x100a]; rfl
/-- the reference reads an expression, as a whole -/
theorem r_ex {B : Nat → Int32} {L i M D : Nat} {s : xS} (hr : rR B L i s) (hi : i ≤ L) (hw : s 53 20 = -1) (hM : s 53 31 = Int32.ofNat M) (hD : s 53 32 = Int32.ofNat D) (h3 : 3 * M ≤ i) (hDi : D ≤ i) :
    ∃ s', g182 s = some (.inl 0, s') ∧ ((px B L 8 0 i).1 = true → rR B L (px B L 8 0 i).2.1 s' ∧ rT M D 0 (px B L 8 0 i).2.2.2.1 ((px B L 8 0 i).2.2.2.2 M) s s') ∧ ((px B L 8 0 i).1 = false → s' 53 20 = Int32.ofNat (px B L 8 0 i).2.1 ∧ rF s s') := by
  have hL := hr.2.2.2
  have h := rX 8 0 i 0 M D s (by omega) (by omega) hr hi hw hM hD h3 (by omega) (Or.inl rfl)
  have hg := pG_x (B := B) 8 0 i hi
  generalize px B L 8 0 i = r at *
  obtain ⟨g0, g1, g2⟩ := hg
  cases g : r.1 with
  | true =>
    obtain ⟨n, s', a1, a2, a3, a4⟩ := h.1 g
    refine ⟨s', ?_, fun _ => ⟨a3, a4⟩, fun z => by cases z⟩
    have hw' : s' 53 20 = -1 := (a4.2.1 20 (by decide) (by decide) (by decide)).trans hw
    have e := a2 (1000 - n)
    rw [show n + (1000 - n) = 1000 by omega] at e
    show xlo rLp 1000 (Int32.ofNat 0, Int32.ofNat 0, 1, s) = _
    rw [e, show 1000 - n = (999 - n) + 1 by omega]
    refine xlo_end ?_
    show g182_6b (Int32.ofNat 0) (Int32.ofNat 0) 0 s' = _
    simp only [g182_6b, g171_1 hw', x10, if_false, if_true, if_pos (by decide : Int32.ofNat 0 ≤ 0)]
  | false =>
    obtain ⟨n, s', a1, a2, a3, a4⟩ := h.2 g
    refine ⟨s', ?_, fun z => (by cases z), fun _ => ⟨a3, a4⟩⟩
    have e := a2 (1000 - n)
    rw [show n + (1000 - n) = 1000 by omega] at e
    exact e
theorem pdl_012 {B : Nat → Int32} {L : Nat} : ∀ (m : Nat) (z : Int32) (i : Nat), (pdl B L m z i).1 = 0 ∨ (pdl B L m z i).1 = 1 ∨ (pdl B L m z i).1 = 2
  | 0, z, i => by
    show (if z = 0 then 0 else 1) = 0 ∨ (if z = 0 then 0 else 1) = 1 ∨ (if z = 0 then 0 else 1) = 2
    by_cases h : z = 0
    · rw [if_pos h]; exact Or.inl rfl
    · rw [if_neg h]; exact Or.inr (Or.inl rfl)
  | m + 1, z, i => by
    rw [pdl]
    cases o : od (nx B L i) with
    | false =>
      show (if z = 0 then 0 else 1) = 0 ∨ (if z = 0 then 0 else 1) = 1 ∨ (if z = 0 then 0 else 1) = 2
      by_cases h : z = 0
      · rw [if_pos h]; exact Or.inl rfl
      · rw [if_neg h]; exact Or.inr (Or.inl rfl)
    | true =>
      rw [cond_true]
      by_cases y : (z >>> ((nx B L i - 48) &&& 31)) &&& 1 = 1
      · rw [if_pos y]; exact Or.inr (Or.inr rfl)
      · rw [if_neg y]; exact pdl_012 m _ _
theorem pd_012 {B : Nat → Int32} {L : Nat} {g : Int32} {i : Nat} : (pd B L g i).1 = 0 ∨ (pd B L g i).1 = 1 ∨ (pd B L g i).1 = 2 := by
  unfold pd
  by_cases q : nx B L i = g
  · rw [if_pos q]; exact pdl_012 8 0 (i + 1)
  · rw [if_neg q]; exact Or.inr (Or.inl rfl)
def rv (par : Option Nat) : Int32 := match par with
  | none => -1
  | some m => Int32.ofNat (40 + m)
/-- the reference's rows of a node -/
def rN1 (N M D : Nat) (r : xN) (s : xS) : Prop := s 71 (40 + N) = r.1 ∧ s 72 (40 + N) = rv r.2.1 ∧ s 73 (40 + N) = Int32.ofNat (100 + M) ∧ s 74 (40 + N) = Int32.ofNat (100 + M + r.2.2.2.2.2.1.length) ∧ (isr r.1 = true → s 75 (40 + N) = Int32.ofNat (300 + D) ∧ s 76 (40 + N) = Int32.ofNat (300 + D + dtp M r)) ∧
  s 77 (40 + N) = (if r.1 = 100 then 0 else r.2.2.1) ∧ s 78 (40 + N) = (if r.1 = 112 then 0 else r.2.2.2.1) ∧
  (∀ q t, r.2.2.2.2.2.1[q]? = some t → s 79 (100 + M + q) = t.1.1 ∧ s 80 (100 + M + q) = t.1.2.1 ∧ s 81 (100 + M + q) = t.1.2.2 ∧ s 82 (100 + M + q) = t.2.1 ∧ s 83 (100 + M + q) = t.2.2) ∧
  (∀ q t, r.2.2.2.2.2.2.2.1[q]? = some t → s 79 (100 + M + r.2.2.2.2.2.1.length + q) = t.1 ∧ s 80 (100 + M + r.2.2.2.2.2.1.length + q) = t.2.1 ∧ s 81 (100 + M + r.2.2.2.2.2.1.length + q) = t.2.2) ∧
  ∀ q d, (r.2.2.2.2.2.2.2.2 (M + r.2.2.2.2.2.1.length))[q]? = some d → s 84 (300 + D + q) = d
def rNs : Nat → Nat → Nat → List xN → xS → Prop
  | _, _, _, [], _ => True
  | N, M, D, r :: rs, s => rN1 N M D r s ∧ rNs (N + 1) (M + mtp r) (D + dtp M r) rs s
theorem rN1_fr {N M D N' M' D' w : Nat} {r : xN} {s s' : xS} (h : rN1 N M D r s) (hf : rFn N' M' D' w s s') (hN : N < N') (hM : M + mtp r ≤ M') (hD : D + dtp M r ≤ D') : rN1 N M D r s' := by
  obtain ⟨h1, h2, h3, h4, h5, h6, h7, h8, h9, h10⟩ := h
  obtain ⟨f1, f2, f3, f4, f5, f6, f7⟩ := hf
  refine ⟨by rw [f4 71 (by decide) (by decide) _ (by omega)]; exact h1, by rw [f4 72 (by decide) (by decide) _ (by omega)]; exact h2, by rw [f4 73 (by decide) (by decide) _ (by omega)]; exact h3, by rw [f4 74 (by decide) (by decide) _ (by omega)]; exact h4, fun z => by rw [f4 75 (by decide) (by decide) _ (by omega), f4 76 (by decide) (by decide) _ (by omega)]; exact h5 z, by rw [f4 77 (by decide) (by decide) _ (by omega)]; exact h6, by rw [f4 78 (by decide) (by decide) _ (by omega)]; exact h7, fun q t hq => ?_, fun q t hq => ?_, fun q d hq => ?_⟩
  · have hlt := (List.getElem?_eq_some_iff.mp hq).1
    have hm : q < mtp r := by unfold mtp; omega
    rw [f5 79 (by decide) (by decide) _ (by omega), f5 80 (by decide) (by decide) _ (by omega), f5 81 (by decide) (by decide) _ (by omega), f5 82 (by decide) (by decide) _ (by omega), f5 83 (by decide) (by decide) _ (by omega)]
    exact h8 q t hq
  · have hlt := (List.getElem?_eq_some_iff.mp hq).1
    have hm : r.2.2.2.2.2.1.length + q < mtp r := by unfold mtp; omega
    rw [f5 79 (by decide) (by decide) _ (by omega), f5 80 (by decide) (by decide) _ (by omega), f5 81 (by decide) (by decide) _ (by omega)]
    exact h9 q t hq
  · have hlt : q < dtp M r := (List.getElem?_eq_some_iff.mp hq).1
    rw [f6 _ (by omega)]
    exact h10 q d hq
theorem rNs_fr {N' M' D' w : Nat} {s s' : xS} (hf : rFn N' M' D' w s s') : ∀ (rs : List xN) (N M D : Nat), rNs N M D rs s → N + rs.length ≤ N' → M + tM rs ≤ M' → D + tDn M rs ≤ D' → rNs N M D rs s'
  | [], _, _, _, _, _, _, _ => trivial
  | r :: rs, N, M, D, h, hN, hM, hD => by
    rw [List.length_cons] at hN
    rw [tM] at hM
    rw [tDn] at hD
    exact ⟨rN1_fr h.1 hf (by omega) (by omega) (by omega), rNs_fr hf rs (N + 1) (M + mtp r) (D + dtp M r) h.2 (by omega) (by omega) (by omega)⟩
theorem rNs_app {s : xS} : ∀ (a b : List xN) (N M D : Nat), rNs N M D a s → rNs (N + a.length) (M + tM a) (D + tDn M a) b s → rNs N M D (a ++ b) s
  | [], b, N, M, D, _, h => h
  | r :: a, b, N, M, D, h, h' => by
    refine ⟨h.1, rNs_app a b (N + 1) (M + mtp r) (D + dtp M r) h.2 ?_⟩
    rw [List.length_cons, tM, tDn] at h'
    rw [show N + 1 + a.length = N + (a.length + 1) by omega, show M + mtp r + tM a = M + (mtp r + tM a) by omega, show D + dtp M r + tDn (M + mtp r) a = D + (dtp M r + tDn (M + mtp r) a) by omega]
    exact h'
