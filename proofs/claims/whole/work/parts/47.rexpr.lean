/-! the reference reads an expression, with a stack of its own -/
def rT (M D k : Nat) (Ms : List xE) (Ds : List Int32) (s s' : xS) : Prop :=
  (∀ c, ¬ c = 53 → ¬ (79 ≤ c ∧ c ≤ 84) → ¬ c = 86 → s' c = s c) ∧ (∀ j, ¬ j = 19 → ¬ j = 31 → ¬ j = 32 → s' 53 j = s 53 j) ∧ s' 53 31 = Int32.ofNat (M + Ms.length) ∧ s' 53 32 = Int32.ofNat (D + Ds.length) ∧
  (∀ c, 79 ≤ c → c ≤ 83 → ∀ j, j < 100 + M → s' c j = s c j) ∧
  (∀ q t, Ms[q]? = some t → s' 79 (100 + M + q) = t.1 ∧ s' 80 (100 + M + q) = t.2.1 ∧ s' 81 (100 + M + q) = t.2.2 ∧ s' 82 (100 + M + q) = 0 ∧ s' 83 (100 + M + q) = 0) ∧
  (∀ j, j < 300 + D → s' 84 j = s 84 j) ∧ (∀ q d, Ds[q]? = some d → s' 84 (300 + D + q) = d) ∧ ∀ j, j < k → s' 86 j = s 86 j
def rF (s s' : xS) : Prop := (∀ c, ¬ c = 53 → ¬ (79 ≤ c ∧ c ≤ 84) → ¬ c = 86 → s' c = s c) ∧ (∀ j, ¬ j = 19 → ¬ j = 20 → ¬ j = 31 → ¬ j = 32 → s' 53 j = s 53 j) ∧ (∀ c, 79 ≤ c → c ≤ 83 → ∀ j, j < 100 → s' c j = s c j) ∧ ∀ j, j < 300 → s' 84 j = s 84 j
theorem rF_T {M D k : Nat} {Ms : List xE} {Ds : List Int32} {s s' : xS} (h : rT M D k Ms Ds s s') : rF s s' := ⟨h.1, fun j a _ b c => h.2.1 j a b c, fun c a b j z => h.2.2.2.2.1 c a b j (by omega), fun j z => h.2.2.2.2.2.2.1 j (by omega)⟩
theorem rF_trans {s s1 s2 : xS} (h : rF s s1) (h' : rF s1 s2) : rF s s2 := ⟨fun c a b d => (h'.1 c a b d).trans (h.1 c a b d), fun j a b c d => (h'.2.1 j a b c d).trans (h.2.1 j a b c d), fun c a b j z => (h'.2.2.1 c a b j z).trans (h.2.2.1 c a b j z), fun j z => (h'.2.2.2 j z).trans (h.2.2.2 j z)⟩
theorem rT_trans {M D k k' : Nat} {Ms Ms' : List xE} {Ds Ds' : List Int32} {s s1 s2 : xS} (h : rT M D k Ms Ds s s1) (h' : rT (M + Ms.length) (D + Ds.length) k' Ms' Ds' s1 s2) (hk : k ≤ k') : rT M D k (Ms ++ Ms') (Ds ++ Ds') s s2 := by
  obtain ⟨a1, b1, c1, d1, e1, f1, g1, h1, i1⟩ := h
  obtain ⟨a2, b2, c2, d2, e2, f2, g2, h2, i2⟩ := h'
  refine ⟨fun c x y z => (a2 c x y z).trans (a1 c x y z), fun j x y z => (b2 j x y z).trans (b1 j x y z), ?_, ?_, fun c x y j z => (e2 c x y j (by omega)).trans (e1 c x y j z), fun q t hq => ?_, fun j z => (g2 j (by omega)).trans (g1 j z), fun q d hq => ?_, fun j z => (i2 j (by omega)).trans (i1 j z)⟩
  · rw [c2, List.length_append, Nat.add_assoc]
  · rw [d2, List.length_append, Nat.add_assoc]
  · by_cases z : q < Ms.length
    · rw [List.getElem?_append_left z] at hq
      obtain ⟨x1, x2, x3, x4, x5⟩ := f1 q t hq
      exact ⟨(e2 79 (by decide) (by decide) _ (by omega)).trans x1, (e2 80 (by decide) (by decide) _ (by omega)).trans x2, (e2 81 (by decide) (by decide) _ (by omega)).trans x3, (e2 82 (by decide) (by decide) _ (by omega)).trans x4, (e2 83 (by decide) (by decide) _ (by omega)).trans x5⟩
    · rw [List.getElem?_append_right (by omega)] at hq
      have y := f2 _ t hq
      rw [show 100 + (M + Ms.length) + (q - Ms.length) = 100 + M + q by omega] at y
      exact y
  · by_cases z : q < Ds.length
    · rw [List.getElem?_append_left z] at hq
      exact (g2 _ (by omega)).trans (h1 q d hq)
    · rw [List.getElem?_append_right (by omega)] at hq
      have y := h2 _ d hq
      rw [show 300 + (D + Ds.length) + (q - Ds.length) = 300 + D + q by omega] at y
      exact y
theorem rT_ra {M D k : Nat} {s : xS} (hM : s 53 31 = Int32.ofNat M) (hD : s 53 32 = Int32.ofNat D) (j : Nat) : rT M D k [] [] s (ra s j) :=
  ⟨fun c h _ _ => xu_o h, fun j h _ _ => xu_n h, hM, hD, fun c _ _ j _ => by unfold ra; rw [xu_o (by omega)], fun q t h => (by cases h), fun j _ => rfl, fun q d h => (by cases h), fun j _ => rfl⟩
theorem rT_w {M D k m : Nat} {s : xS} (hM : s 53 31 = Int32.ofNat M) (hD : s 53 32 = Int32.ofNat D) (hm : k ≤ m) (v : Int32) : rT M D k [] [] s (xh_ui s 86 m v) :=
  ⟨fun c _ _ h => xu_o h, fun j _ _ _ => rfl, hM, hD, fun c _ _ j _ => by rw [xu_o (by omega)], fun q t h => (by cases h), fun j _ => rfl, fun q d h => (by cases h), fun j h => xu_n (by omega)⟩
/-- a doing more -/
def aD (D : Nat) (d : Int32) (s : xS) : xS := xh_ui (xh_ui s 84 (300 + D) d) 53 32 (Int32.ofNat (D + 1))
theorem g184_eq {D : Nat} {s : xS} (hD : s 53 32 = Int32.ofNat D) (h : D < 300) (d : Int32) : g184 d s = some (.inl 0, aD D d s) := by
  have h300 : 300 + Int32.ofNat D = Int32.ofNat (300 + D) := by rw [Int32.ofNat_add]; rfl
  have e : ∀ v, xh_ui s 84 (300 + D) v 53 32 = Int32.ofNat D := fun _ => hD
  unfold g184 aD
  rw [hD, h300, xn_of (by omega) (by omega), cond_true, Int32.toNatClampNeg_ofNat_of_lt (by omega), e, x_succ]
theorem rT_aD {M D k : Nat} {s : xS} (hM : s 53 31 = Int32.ofNat M) (d : Int32) : rT M D k [] [d] s (aD D d s) := by
  refine ⟨fun c h h' _ => ?_, fun j _ _ h => ?_, hM, rfl, fun c h1 h2 j _ => ?_, fun q t h => (by cases h), fun j h => ?_, fun q t h => ?_, fun j _ => rfl⟩
  · unfold aD; rw [xu_o h, xu_o (by omega)]
  · show xh_ui _ 53 32 _ 53 j = _; rw [xu_n h]; rfl
  · unfold aD; rw [xu_o (by omega), xu_o (by omega)]
  · show xh_ui s 84 (300 + D) d 84 j = _; rw [xu_n (by omega)]
  · cases q with
    | zero => cases h; exact xu_s s 84 (300 + D) d
    | succ q => cases h
theorem rT_aM {M D k : Nat} {s : xS} (hD : s 53 32 = Int32.ofNat D) (l g n : Int32) : rT M D k [(l, g, n)] [] s (aM M l g n 0 0 s) := by
  have e79 : aM M l g n 0 0 s 79 = upd (s 79) (100 + M) l := rfl
  have e80 : aM M l g n 0 0 s 80 = upd (s 80) (100 + M) g := rfl
  have e81 : aM M l g n 0 0 s 81 = upd (s 81) (100 + M) n := rfl
  have e82 : aM M l g n 0 0 s 82 = upd (s 82) (100 + M) 0 := rfl
  have e83 : aM M l g n 0 0 s 83 = upd (s 83) (100 + M) 0 := rfl
  refine ⟨fun c h h' _ => ?_, fun j _ h _ => ?_, rfl, hD, fun c h1 h2 j hj => ?_, fun q t h => ?_, fun j _ => rfl, fun q d h => (by cases h), fun j _ => rfl⟩
  · unfold aM; rw [xu_o h, xu_o (by omega), xu_o (by omega), xu_o (by omega), xu_o (by omega), xu_o (by omega)]
  · show xh_ui _ 53 31 _ 53 j = _; rw [xu_n h]; rfl
  · have hc : c = 79 ∨ c = 80 ∨ c = 81 ∨ c = 82 ∨ c = 83 := by omega
    rcases hc with rfl | rfl | rfl | rfl | rfl
    · rw [e79, upd_n (by omega)]
    · rw [e80, upd_n (by omega)]
    · rw [e81, upd_n (by omega)]
    · rw [e82, upd_n (by omega)]
    · rw [e83, upd_n (by omega)]
  · cases q with
    | zero => cases h; rw [e79, e80, e81, e82, e83]; exact ⟨upd_s _ _ _, upd_s _ _ _, upd_s _ _ _, upd_s _ _ _, upd_s _ _ _⟩
    | succ q => cases h
theorem rR_T {M D k : Nat} {Ms : List xE} {Ds : List Int32} {s s' : xS} {B : Nat → Int32} {L i j : Nat} (h : rR B L i s) (ht : rT M D k Ms Ds s s') (hj : s' 53 19 = Int32.ofNat j) : rR B L j s' :=
  ⟨hj, by rw [ht.2.1 18 (by decide) (by decide) (by decide)]; exact h.2.1, by rw [ht.1 69 (by decide) (by omega) (by decide)]; exact h.2.2.1, h.2.2.2⟩
/-- the loop's turn -/
abbrev rLp : Int32 × Int32 × Int32 × xS → Option ((Int32 × Int32 × Int32 × xS) ⊕ xQ) := fun a => g182_6b a.1 a.2.1 a.2.2.1 a.2.2.2
def rch (n : Nat) (a b : Int32 × Int32 × Int32 × xS) : Prop := ∀ f, xlo rLp (n + f) a = xlo rLp f b
theorem rch_trans {n m : Nat} {a b c : Int32 × Int32 × Int32 × xS} (h : rch n a b) (h' : rch m b c) : rch (n + m) a c := fun f => by rw [Nat.add_assoc, h, h']
theorem rch_1 {a b : Int32 × Int32 × Int32 × xS} (h : rLp a = some (.inl b)) : rch 1 a b := fun f => by rw [Nat.add_comm]; exact xlo_step h
def rend (n : Nat) (a : Int32 × Int32 × Int32 × xS) (q : xQ) : Prop := ∀ f, xlo rLp (n + f) a = some q
theorem rend_1 {a : Int32 × Int32 × Int32 × xS} {q : xQ} (h : rLp a = some (.inr q)) : rend 1 a q := fun f => by rw [Nat.add_comm]; exact xlo_end h
theorem rch_end {n m : Nat} {a b : Int32 × Int32 × Int32 × xS} {q : xQ} (h : rch n a b) (h' : rend m b q) : rend (n + m) a q := fun f => by rw [Nat.add_assoc, h, h']
theorem x_pred {n : Nat} : Int32.ofNat (n + 1) - 1 = Int32.ofNat n := by rw [← x_succ, Int32.add_sub_cancel]
theorem x_pred' {n : Nat} : Int32.ofNat (n + 1) + (-1) = Int32.ofNat n := by
  have := x_pred (n := n)
  rw [Int32.sub_eq_add_neg] at this
  exact this
theorem x_pos {n : Nat} (h : n < 1000) : ¬ Int32.ofNat (n + 1) ≤ 0 := by
  have z : (0 : Int32).toInt = 0 := by decide
  rw [Int32.le_iff_toInt_le, z, Int32.toInt_ofNat_of_lt (by omega)]; omega
/-- the denials are done -/
theorem g182_pop {B : Nat → Int32} {L i : Nat} (x2 : Int32) {k : Nat} (hk : k ≤ 300) : ∀ (t M D f : Nat) (s : xS), k + t ≤ 300 → D + t ≤ 300 → rR B L i s → s 53 31 = Int32.ofNat M → s 53 32 = Int32.ofNat D → (k = 0 ∨ ¬ s 86 (k - 1) = 1000) → (∀ q, q < t → s 86 (k + q) = 1000) → t < f →
    ∃ s', xlo (fun a : Int32 × Int32 × Int32 × xS => g182_153b a.1 a.2.1 a.2.2.1 a.2.2.2) f (Int32.ofNat (k + t), x2, 0, s) = some (.inl (Int32.ofNat k, x2, 0, s')) ∧ rR B L i s' ∧ rT M D k [] (List.replicate t 1000) s s'
  | _, _, _, 0, _, _, _, _, _, _, _, _, h => absurd h (Nat.not_lt_zero _)
  | 0, M, D, f + 1, s, h1, h2, hr, hM, hD, h0, hq, hf => by
    refine ⟨s, xlo_end ?_, hr, ⟨fun _ _ _ _ => rfl, fun _ _ _ _ => rfl, hM, hD, fun _ _ _ _ _ => rfl, fun q t h => (by cases h), fun _ _ => rfl, fun q d h => (by cases h), fun _ _ => rfl⟩⟩
    dsimp only
    rw [Nat.add_zero]
    by_cases z : k = 0
    · subst z
      simp only [g182_153b, if_true, if_pos (by decide : Int32.ofNat 0 ≤ 0)]
    · obtain ⟨m, rfl⟩ : ∃ m, k = m + 1 := ⟨k - 1, by omega⟩
      have h0' : ¬ s 86 m = 1000 := h0.resolve_left z
      simp only [g182_153b, if_true, if_neg (x_pos (by omega : m < 1000)), x_pred, xn_of (by omega : m < 2 ^ 31) (by omega : m < 300), cond_true, Int32.toNatClampNeg_ofNat_of_lt (by omega : m < 2 ^ 31), if_neg h0']
  | t + 1, M, D, f + 1, s, h1, h2, hr, hM, hD, h0, hq, hf => by
    have ht := rT_aD (D := D) (k := k) hM 1000
    have hr' : rR B L i (aD D 1000 s) := rR_T hr ht hr.1
    have e : g182_153b (Int32.ofNat (k + (t + 1))) x2 0 s = some (.inl (Int32.ofNat (k + t), x2, 0, aD D 1000 s)) := by
      have hq' : s 86 (k + t) = 1000 := hq t (by omega)
      rw [← Nat.add_assoc]
      simp only [g182_153b, if_true, if_neg (x_pos (by omega : k + t < 1000)), x_pred, x_pred', xn_of (by omega : k + t < 2 ^ 31) (by omega : k + t < 300), cond_true, Int32.toNatClampNeg_ofNat_of_lt (by omega : k + t < 2 ^ 31), if_pos hq', g184_eq hD (by omega : D < 300)]
    obtain ⟨s', a1, a2, a3⟩ := g182_pop x2 hk t M (D + 1) f (aD D 1000 s) (by omega) (by omega) hr' hM rfl h0 (fun q z => hq q (by omega)) (by omega)
    refine ⟨s', by rw [xlo_step (a := (Int32.ofNat (k + (t + 1)), x2, 0, s)) e, a1], a2, ?_⟩
    have := rT_trans ht a3 (Nat.le_refl k)
    exact this
/-- popping where reading has failed -/
theorem g182_popF (x2 : Int32) : ∀ (k D f : Nat) (s : xS), D + k ≤ 300 → s 53 32 = Int32.ofNat D → k < f →
    ∃ k' s', xlo (fun a : Int32 × Int32 × Int32 × xS => g182_153b a.1 a.2.1 a.2.2.1 a.2.2.2) f (Int32.ofNat k, x2, 0, s) = some (.inl (Int32.ofNat k', x2, 0, s')) ∧ rF s s' ∧ s' 53 20 = s 53 20
  | _, _, 0, _, _, _, h => absurd h (Nat.not_lt_zero _)
  | 0, D, f + 1, s, h1, hD, hf => by
    refine ⟨0, s, xlo_end ?_, ⟨fun _ _ _ _ => rfl, fun _ _ _ _ _ => rfl, fun _ _ _ _ _ => rfl, fun _ _ => rfl⟩, rfl⟩
    simp only [g182_153b, if_true, if_pos (by decide : Int32.ofNat 0 ≤ 0)]
  | k + 1, D, f + 1, s, h1, hD, hf => by
    by_cases z : s 86 k = 1000
    · have e : g182_153b (Int32.ofNat (k + 1)) x2 0 s = some (.inl (Int32.ofNat k, x2, 0, aD D 1000 s)) := by
        simp only [g182_153b, if_true, if_neg (x_pos (by omega : k < 1000)), x_pred, x_pred', xn_of (by omega : k < 2 ^ 31) (by omega : k < 300), cond_true, Int32.toNatClampNeg_ofNat_of_lt (by omega : k < 2 ^ 31), if_pos z, g184_eq hD (by omega : D < 300)]
      obtain ⟨k', s', a1, a2, a3⟩ := g182_popF x2 k (D + 1) f (aD D 1000 s) (by omega) rfl (by omega)
      have hF : rF s (aD D 1000 s) := by
        refine ⟨fun c h h' _ => ?_, fun j _ _ _ h => ?_, fun c a b j z => ?_, fun j z => ?_⟩
        · unfold aD; rw [xu_o h, xu_o (by omega)]
        · show xh_ui _ 53 32 _ 53 j = _; rw [xu_n h]; rfl
        · unfold aD; rw [xu_o (by omega), xu_o (by omega)]
        · show xh_ui s 84 (300 + D) _ 84 j = _; rw [xu_n (by omega)]
      exact ⟨k', s', by rw [xlo_step (a := (Int32.ofNat (k + 1), x2, 0, s)) e, a1], rF_trans hF a2, a3⟩
    · refine ⟨k + 1, s, xlo_end ?_, ⟨fun _ _ _ _ => rfl, fun _ _ _ _ _ => rfl, fun _ _ _ _ _ => rfl, fun _ _ => rfl⟩, rfl⟩
      simp only [g182_153b, if_true, if_neg (x_pos (by omega : k < 1000)), x_pred, xn_of (by omega : k < 2 ^ 31) (by omega : k < 300), cond_true, Int32.toNatClampNeg_ofNat_of_lt (by omega : k < 2 ^ 31), if_neg z]
theorem g182_153_1 (x1 x2 : Int32) (s : xS) : g182_153 x1 x2 1 s = some (.inl (x1, x2, 1, s)) := by
  unfold g182_153
  refine xlo_end ?_
  simp only [g182_153b, x10, if_false]
/-- the denials are read -/
theorem rch_nt {B : Nat → Int32} {L : Nat} (x2 : Int32) {M D : Nat} : ∀ (m i k : Nat) (s : xS), L ≤ i + m → rR B L i s → i ≤ L → s 53 20 = -1 → s 53 31 = Int32.ofNat M → s 53 32 = Int32.ofNat D → k ≤ i →
    ∃ s', rch (nt B L m i) (Int32.ofNat k, x2, 1, s) (Int32.ofNat (k + nt B L m i), x2, 1, s') ∧ rR B L (i + nt B L m i) s' ∧ rT M D k [] [] s s' ∧ ∀ q, q < nt B L m i → s' 86 (k + q) = 1000
  | m, i, k, s, hm, hr, hi, hw, hM, hD, hk => by
    have hL := hr.2.2.2
    have idT : rT M D k [] [] s s := ⟨fun _ _ _ _ => rfl, fun _ _ _ _ => rfl, hM, hD, fun _ _ _ _ _ => rfl, fun q t h => (by cases h), fun _ _ => rfl, fun q d h => (by cases h), fun _ _ => rfl⟩
    by_cases q : nx B L i = 33
    · have hlt := nx_lt (B := B) (L := L) (i := i) (by rw [q]; decide)
      match m, hm with
      | 0, hm => exact absurd hlt (by omega)
      | m + 1, hm =>
        rw [nt, if_pos q]
        have w1 : xh_ui (xh_ui s 86 k 1000) 53 19 (xh_ui s 86 k 1000 53 19 + 1) = ra (xh_ui s 86 k 1000) (i + 1) := ra_s (s := xh_ui s 86 k 1000) hr
        have e : rLp (Int32.ofNat k, x2, 1, s) = some (.inl (Int32.ofNat (k + 1), x2, 1, ra (xh_ui s 86 k 1000) (i + 1))) := by
          show g182_6b (Int32.ofNat k) x2 1 s = _
          simp only [g182_6b, g171_1 hw, x10, if_false, g182_21, g173_eq hr (by omega), if_pos q, xn_of (by omega : k < 2 ^ 31) (by omega : k < 300), cond_true, Int32.toNatClampNeg_ofNat_of_lt (by omega : k < 2 ^ 31), w1, g182_153_1, x_succ]
        have hT1 : rT M D k [] [] s (xh_ui s 86 k 1000) := rT_w hM hD (Nat.le_refl k) 1000
        have hT2 : rT M D (k + 1) [] [] (xh_ui s 86 k 1000) (ra (xh_ui s 86 k 1000) (i + 1)) := rT_ra (s := xh_ui s 86 k 1000) hM hD (i + 1)
        have hr1 : rR B L (i + 1) (ra (xh_ui s 86 k 1000) (i + 1)) := rR_ra (s := xh_ui s 86 k 1000) hr (i + 1)
        obtain ⟨s', a1, a2, a3, a4⟩ := rch_nt x2 m (i + 1) (k + 1) (ra (xh_ui s 86 k 1000) (i + 1)) (by omega) hr1 hlt hw hM hD (by omega)
        refine ⟨s', ?_, ?_, rT_trans hT1 (rT_trans hT2 a3 (Nat.le_refl _)) (Nat.le_succ k), fun z hz => ?_⟩
        · have := rch_trans (rch_1 e) a1
          rw [show k + 1 + nt B L m (i + 1) = k + (nt B L m (i + 1) + 1) by omega, Nat.add_comm 1] at this
          exact this
        · rw [show i + (nt B L m (i + 1) + 1) = i + 1 + nt B L m (i + 1) by omega]; exact a2
        · cases z with
          | zero =>
            have := a3.2.2.2.2.2.2.2.2 k (by omega)
            rw [Nat.add_zero, this]
            exact xu_s s 86 k 1000
          | succ z =>
            have := a4 z (by omega)
            rw [show k + (z + 1) = k + 1 + z by omega]; exact this
    · have e0 : nt B L m i = 0 := by
        cases m with
        | zero => rfl
        | succ m => rw [nt, if_neg q]
      rw [e0]
      exact ⟨s, fun f => by rw [Nat.zero_add]; rfl, hr, idT, fun z hz => absurd hz (Nat.not_lt_zero _)⟩
