/-! policy -/
def wJ (σ : xS) (p : Nat) : Prop := ∃ rs : List xN, rs.length ≤ 40 ∧ tS rs ≤ 300 ∧ tM rs ≤ 100 ∧ tDn 0 rs ≤ 300 ∧ σ (59 - p) 7 = Int32.ofNat rs.length ∧ σ 70 0 = Int32.ofNat rs.length ∧ cNs (59 - p) 0 0 rs σ ∧ jNs 0 0 0 rs σ ∧ gLs 0 none rs
def wI (t : Nat) (σ : xS) (p : Nat) : Prop := wK t σ ∧ wJ σ p ∧ (p = 23 ∨ p = 36)
theorem cNs_eq {p : Nat} {σ σ' : xS} (h : ∀ c, p ≤ c → c ≤ p + 10 → σ' c = σ c) : ∀ (rs : List xN) (N S : Nat), cNs p N S rs σ → cNs p N S rs σ'
  | [], _, _, _ => trivial
  | r :: rs, N, S, hh => by
    obtain ⟨⟨x1, x2, x3, x4, x5, x6, x7, x8⟩, x9⟩ := hh
    refine ⟨⟨by rw [h _ (by omega) (by omega)]; exact x1, by rw [h _ (by omega) (by omega)]; exact x2, by rw [h _ (by omega) (by omega)]; exact x3, by rw [h _ (by omega) (by omega)]; exact x4, by rw [h _ (by omega) (by omega)]; exact x5, by rw [h _ (by omega) (by omega)]; exact x6, fun z => by rw [h _ (by omega) (by omega)]; exact x7 z, fun q t hq => ?_⟩, cNs_eq h rs (N + 1) (S + stp r) x9⟩
    rw [h _ (by omega) (by omega), h _ (by omega) (by omega), h _ (by omega) (by omega)]
    exact x8 q t hq
/-- what is in force stands, as rows -/
def jFr (s s' : xS) : Prop := s' 70 0 = s 70 0 ∧ (∀ c, 71 ≤ c → c ≤ 78 → ∀ j, j < 40 → s' c j = s c j) ∧ (∀ c, 79 ≤ c → c ≤ 83 → ∀ j, j < 100 → s' c j = s c j) ∧ ∀ j, j < 300 → s' 84 j = s 84 j
theorem jNs_fr {s s' : xS} (hf : jFr s s') : ∀ (rs : List xN) (N M D : Nat), N + rs.length ≤ 40 → M + tM rs ≤ 100 → D + tDn M rs ≤ 300 → jNs N M D rs s → jNs N M D rs s'
  | [], _, _, _, _, _, _, _ => trivial
  | r :: rs, N, M, D, hN, hM, hD, h => by
    rw [List.length_cons] at hN
    rw [tM] at hM
    rw [tDn] at hD
    obtain ⟨f3, f4, f5, f6⟩ := hf
    obtain ⟨⟨h1, h2, h3, h4, h5, h6, h7, h8, h9, h10⟩, hs⟩ := h
    refine ⟨⟨by rw [f4 71 (by decide) (by decide) _ (by omega)]; exact h1, by rw [f4 72 (by decide) (by decide) _ (by omega)]; exact h2, by rw [f4 73 (by decide) (by decide) _ (by omega)]; exact h3, by rw [f4 74 (by decide) (by decide) _ (by omega)]; exact h4, fun z => by rw [f4 75 (by decide) (by decide) _ (by omega), f4 76 (by decide) (by decide) _ (by omega)]; exact h5 z, by rw [f4 77 (by decide) (by decide) _ (by omega)]; exact h6, by rw [f4 78 (by decide) (by decide) _ (by omega)]; exact h7, fun q t hq => ?_, fun q t hq => ?_, fun q d hq => ?_⟩, jNs_fr ⟨f3, f4, f5, f6⟩ rs (N + 1) (M + mtp r) (D + dtp M r) (by omega) (by omega) (by omega) hs⟩
    · have hlt := (List.getElem?_eq_some_iff.mp hq).1
      have hm : q < mtp r := by unfold mtp; omega
      rw [f5 79 (by decide) (by decide) _ (by omega), f5 80 (by decide) (by decide) _ (by omega), f5 81 (by decide) (by decide) _ (by omega), f5 82 (by decide) (by decide) _ (by omega), f5 83 (by decide) (by decide) _ (by omega)]
      exact h8 q t hq
    · have hlt := (List.getElem?_eq_some_iff.mp hq).1
      have hm : r.2.2.2.2.2.1.length + q < mtp r := by unfold mtp; omega
      rw [f5 79 (by decide) (by decide) _ (by omega), f5 80 (by decide) (by decide) _ (by omega), f5 81 (by decide) (by decide) _ (by omega)]
      exact h9 q t hq
    · have hlt : q < dtp M r := (List.getElem?_eq_some_iff.mp hq).1
      rw [f6 _ (by omega)]
      exact h10 q d hq
theorem wJ_fr {σ σ' : xS} {p : Nat} (hp : p = 23 ∨ p = 36) (h : wJ σ p) (h1 : ∀ c, 59 - p ≤ c → c ≤ 59 - p + 10 → σ' c = σ c) (h2 : jFr σ σ') : wJ σ' p := by
  obtain ⟨rs, a1, a2, a3, a4, a5, a6, a7, a8, a9⟩ := h
  exact ⟨rs, a1, a2, a3, a4, by rw [h1 _ (Nat.le_refl _) (by omega)]; exact a5, by rw [h2.1]; exact a6, cNs_eq h1 rs 0 0 a7, jNs_fr h2 rs 0 0 0 (by omega) (by omega) (by omega) a8, a9⟩
theorem wJ_wFr {σ σ' : xS} {p : Nat} (hp : p = 23 ∨ p = 36) (h : wJ σ p) (hf : wFr σ σ') : wJ σ' p :=
  wJ_fr hp h (fun c x y => hf c (by omega)) ⟨by rw [hf 70 (by omega)], fun c x y j _ => by rw [hf c (by omega)], fun c x y j _ => by rw [hf c (by omega)], fun j _ => by rw [hf 84 (by omega)]⟩
theorem wK_of {t : Nat} {σ σ' : xS} (h : wK t σ) (hc : ∀ c, (1 ≤ c ∧ c ≤ 19) ∨ c = 51 ∨ c = 52 ∨ (54 ≤ c ∧ c ≤ 68) ∨ c = 91 → σ' c = σ c) (h8 : σ' 53 8 = σ 53 8) (h51 : σ' 53 51 = σ 53 51) (h52 : σ' 53 52 = σ 53 52) (hF : wKF σ') (hG : wKG σ') : wK (t + 1) σ' := by
  obtain ⟨hA, hB, hC, hD, hE, -, -, hH⟩ := h
  refine ⟨?_, ?_, ?_, ?_, ?_, hF, hG, ?_⟩
  · unfold wKA at hA ⊢; rw [hc 2 (by omega), hc 54 (by omega)]; exact hA
  · unfold wKB at hB ⊢; rw [hc 4 (by omega), hc 55 (by omega), hc 5 (by omega), hc 56 (by omega), hc 6 (by omega), hc 57 (by omega)]; exact hB
  · unfold wKC at hC ⊢; rw [hc 58 (by omega), hc 8 (by omega), hc 9 (by omega), hc 60 (by omega), hc 10 (by omega), hc 61 (by omega), hc 59 (by omega)]; exact hC
  · unfold wKD at hD ⊢; rw [hc 11 (by omega), h8, hc 12 (by omega), hc 62 (by omega), hc 13 (by omega), hc 63 (by omega), hc 14 (by omega), hc 64 (by omega)]; exact hD
  · unfold wKE at hE ⊢; rw [hc 16 (by omega), hc 65 (by omega), hc 17 (by omega), hc 66 (by omega), hc 18 (by omega), hc 67 (by omega), hc 19 (by omega), hc 68 (by omega)]; exact hE
  · have hH := wKH_s hH
    unfold wKH at hH ⊢
    rw [hc 52 (by omega), hc 91 (by omega), hc 51 (by omega), h51, h52]; exact hH
/-- the class reads the tape -/
theorem c_read {σ : xS} {p L : Nat} (hp : p = 23 ∨ p = 36) (hL : L ≤ 300) (h21 : σ 21 1 = Int32.ofNat L) (hB : ∀ i, ∃ k, k < 256 ∧ σ 22 i = Int32.ofNat k) :
    ∃ σ3, g88 p σ = some (.inl (if (pnd (σ 22) L 8 0 none false 0 0).1 = true ∧ L ≤ (pnd (σ 22) L 8 0 none false 0 0).2.1 then -1 else Int32.ofNat (pnd (σ 22) L 8 0 none false 0 0).2.1), xh_ui σ3 21 1 0) ∧ cF p σ σ3 ∧ ((pnd (σ 22) L 8 0 none false 0 0).1 = true → σ3 p 7 = Int32.ofNat (pnd (σ 22) L 8 0 none false 0 0).2.2.length ∧ cNs p 0 0 (pnd (σ 22) L 8 0 none false 0 0).2.2 σ3) := by
  let σ1 : xS := xh_ui (xh_ui σ p 7 0) p 11 0
  have k1 : ∀ c, ¬ c = p → σ1 c = σ c := fun c hc => by show xh_ui (xh_ui σ p 7 0) p 11 0 c = _; rw [xu_o hc, xu_o hc]
  have h90 : g90 0 σ1 = some (.inl 0, mv σ1 0 (nx (σ 22) L 0)) := by
    have hz : σ1 21 1 = Int32.ofNat L := by rw [k1 21 (by omega)]; exact h21
    have hz2 : σ1 22 = σ 22 := k1 22 (by omega)
    have hr0 : cR (σ 22) L 0 (mv σ1 0 (nx (σ 22) L 0)) := ⟨rfl, rfl, hz, hz2, hL⟩
    have e1 : xh_ui σ1 20 2 0 21 1 = Int32.ofNat L := hz
    have e2 : xh_ui σ1 20 2 0 22 = σ 22 := hz2
    unfold g90
    rw [e1, e2]
    by_cases q : L ≤ 0
    · have q' : Int32.ofNat L ≤ 0 := by rw [show L = 0 by omega]; decide
      rw [if_pos q']
      show some (Sum.inl 0, mv σ1 0 (-1)) = _
      unfold nx
      rw [if_pos q]
    · have q' : ¬ Int32.ofNat L ≤ 0 := by
        have z : (0 : Int32).toInt = 0 := by decide
        rw [Int32.le_iff_toInt_le, z, Int32.toInt_ofNat_of_lt (by omega)]; omega
      rw [if_neg q']
      show some (Sum.inl 0, mv σ1 0 (σ 22 0)) = _
      unfold nx
      rw [if_neg q]
  have hpre : cPre p (σ 22) L 0 0 none false 0 (mv σ1 0 (nx (σ 22) L 0)) := by
    refine ⟨⟨rfl, rfl, ?_, ?_, hL⟩, Nat.zero_le _, ?_, ?_, Nat.le_refl _, Nat.zero_le _, rfl⟩
    · rw [mv_o (by decide), k1 21 (by omega)]; exact h21
    · rw [mv_o (by decide), k1 22 (by omega)]
    · rw [mv_o (by omega)]
      show xh_ui (xh_ui σ p 7 0) p 11 0 p 7 = _
      rw [xu_n (by decide), xu_s]; rfl
    · rw [mv_o (by omega)]
      show xh_ui (xh_ui σ p 7 0) p 11 0 p 11 = _
      rw [xu_s]; rfl
  obtain ⟨σ3, e, a1, a2, a3⟩ := c_nd (p := p) (by omega) 8 0 none false 0 0 0 _ (by omega) (by omega) hpre
  have hq := pQ_nd (B := σ 22) (L := L) 8 0 none false 0 0 (Nat.zero_le _)
  generalize pnd (σ 22) L 8 0 none false 0 0 = r at *
  refine ⟨σ3, ?_, fun c x y => ?_, fun z => ⟨?_, (a3 z).2.2.2⟩⟩
  · have e88 : g88 p σ = (match g91 p 8 (-1) 0 (mv σ1 0 (nx (σ 22) L 0)) with | some (Sum.inl v7, s8) => (if v7 = 0 then g88_33 p s8 else (if (s8 20 3) = (-1) then g88_34 p 1 s8 else g88_33 p s8)) | some (Sum.inr v7, s8) => none | none => none) := by
      unfold g88
      have : g89 p σ = some (.inl 0, σ1) := rfl
      rw [this]
      dsimp only
      rw [h90]
      rfl
    rw [e88, show g91 p 8 (-1) 0 (mv σ1 0 (nx (σ 22) L 0)) = _ from e]
    dsimp only
    have e33 : g88_33 p σ3 = some (.inl (Int32.ofNat r.2.1), xh_ui σ3 21 1 0) := by
      have z : xh_ui σ3 21 1 0 20 2 = Int32.ofNat r.2.1 := a1.1
      simp only [g88_33, g88_34, g109, if_true, z]
    have e34 : g88_34 p 1 σ3 = some (.inl (-1), xh_ui σ3 21 1 0) := by
      simp only [g88_34, g109, x10, if_false]
    cases g : r.1 with
    | false => rw [xb_f, if_pos x0p, e33, if_neg (fun z => by cases z.1)]
    | true =>
      rw [xb_t, if_neg x1n, a1.2.1]
      by_cases q : L ≤ r.2.1
      · rw [if_pos (by unfold nx; rw [if_pos q]), e34, if_pos ⟨rfl, q⟩]
      · have hn : ¬ nx (σ 22) L r.2.1 = -1 := by
          unfold nx
          rw [if_neg q]
          obtain ⟨k, hk, e⟩ := hB r.2.1
          rw [e]
          have : (List.range 256).all (fun k => decide (¬ Int32.ofNat k = -1)) = true := by decide +kernel
          exact of_decide_eq_true (List.all_eq_true.mp this k (List.mem_range.mpr hk))
        rw [if_neg hn, e33, if_neg (fun z => q z.2)]
  · rw [a2 c x y, mv_o x, k1 c (by omega)]
  · have := (a3 z).2.1
    rw [Nat.zero_add] at this
    exact this
theorem rNs_53 {s : xS} {j : Nat} {v : Int32} : ∀ (rs : List xN) (N M D : Nat), rNs N M D rs s → rNs N M D rs (xh_ui s 53 j v)
  | [], _, _, _, _ => trivial
  | r :: rs, N, M, D, h => ⟨h.1, rNs_53 rs (N + 1) (M + mtp r) (D + dtp M r) h.2⟩
/-- the reference reads the tape -/
theorem r_read {s : xS} {L : Nat} (hL : L ≤ 300) (h17 : s 53 17 = Int32.ofNat L) :
    ∃ s', (((pnd (s 69) L 8 0 none false 0 0).1 = true ∧ L ≤ (pnd (s 69) L 8 0 none false 0 0).2.1) → g170 s = some (.inl (Int32.ofNat (pnd (s 69) L 8 0 none false 0 0).2.2.length), s') ∧ s' 53 20 = -1 ∧ s' 53 21 = 0 ∧ s' 70 0 = Int32.ofNat (pnd (s 69) L 8 0 none false 0 0).2.2.length ∧ jNs 0 0 0 (pnd (s 69) L 8 0 none false 0 0).2.2 s') ∧
      (¬ ((pnd (s 69) L 8 0 none false 0 0).1 = true ∧ L ≤ (pnd (s 69) L 8 0 none false 0 0).2.1) → g170 s = some (.inl 0, s') ∧ s' 53 20 = Int32.ofNat (pnd (s 69) L 8 0 none false 0 0).2.1 ∧ s' 53 21 = 1 ∧ jFr s s') ∧
      (∀ c, ¬ c = 53 → ¬ (70 ≤ c ∧ c ≤ 86) → s' c = s c) ∧ s' 53 17 = 0 ∧ s' 53 8 = s 53 8 ∧ s' 53 51 = s 53 51 ∧ s' 53 52 = s 53 52 := by
  let s0 : xS := xh_ui (xh_ui (xh_ui (xh_ui (xh_ui (xh_ui (xh_ui (xh_ui s 53 18 (s 53 17)) 53 17 0) 53 19 0) 53 20 (-1)) 70 1 0) 53 31 0) 53 32 0) 53 40 0
  have hpre : rPre (s 69) L 0 0 0 none false 0 0 s0 := ⟨⟨rfl, h17, rfl, hL⟩, Nat.zero_le _, rfl, rfl, rfl, rfl, Nat.le_refl _, Nat.le_refl _, Nat.zero_le _, rfl, Nat.zero_le _, rfl, rfl⟩
  have hS := r_nd (B := s 69) (L := L) 8 0 0 0 none false 0 0 s0 (by omega) hpre
  obtain ⟨q0, q1, q2⟩ := pQ_nd (B := s 69) (L := L) 8 0 none false 0 0 (Nat.zero_le _)
  have hgood := gLs_nd (B := s 69) (L := L) 8 0 none false 0 0
  have e170 : g170 s = xlo oL 1000 (1, s0) := rfl
  have k0 : ∀ c, ¬ c = 53 → ¬ c = 70 → s0 c = s c := fun c x y => by
    show xh_ui (xh_ui (xh_ui (xh_ui (xh_ui (xh_ui (xh_ui (xh_ui s 53 18 (s 53 17)) 53 17 0) 53 19 0) 53 20 (-1)) 70 1 0) 53 31 0) 53 32 0) 53 40 0 c = _
    rw [xu_o x, xu_o x, xu_o x, xu_o y, xu_o x, xu_o x, xu_o x, xu_o x]
  have j0 : jFr s s0 := ⟨rfl, fun c x y j _ => by rw [k0 c (by omega) (by omega)], fun c x y j _ => by rw [k0 c (by omega) (by omega)], fun j _ => rfl⟩
  have jtr : ∀ s' : xS, rFn 0 0 0 0 s0 s' → jFr s s' := fun s' f => ⟨f.2.2.1.trans j0.1, fun c x y j z => (f.2.2.2.1 c x y j (by omega)).trans (j0.2.1 c x y j z), fun c x y j z => (f.2.2.2.2.1 c x y j (by omega)).trans (j0.2.2.1 c x y j z), fun j z => (f.2.2.2.2.2.1 j (by omega)).trans (j0.2.2.2 j z)⟩
  have e103 : ∀ (s' : xS) (e : Nat), s' 53 20 = Int32.ofNat e → e ≤ 1000 → g170_103 s' = some (.inl 0, xh_ui s' 53 21 1) := fun s' e he h1 => by
    simp only [g170_103, g171_0 he h1, if_true, g170_116, xu_s, x10, if_false]
  have bad : ∀ (s' : xS) (e : Nat), g170 s = g170_103 s' → s' 53 20 = Int32.ofNat e → e ≤ 1000 → rFn 0 0 0 0 s0 s' → g170 s = some (.inl 0, xh_ui s' 53 21 1) ∧ xh_ui s' 53 21 1 53 20 = Int32.ofNat e ∧ xh_ui s' 53 21 1 53 21 = 1 ∧ jFr s (xh_ui s' 53 21 1) ∧ (∀ c, ¬ c = 53 → ¬ (70 ≤ c ∧ c ≤ 86) → xh_ui s' 53 21 1 c = s c) ∧ xh_ui s' 53 21 1 53 17 = 0 ∧ xh_ui s' 53 21 1 53 8 = s 53 8 ∧ xh_ui s' 53 21 1 53 51 = s 53 51 ∧ xh_ui s' 53 21 1 53 52 = s 53 52 := by
    intro s' e h1 h2 h3 h4
    refine ⟨h1.trans (e103 s' e h2 h3), h2, rfl, ?_, fun c x y => ?_, ?_, ?_, ?_, ?_⟩
    · obtain ⟨a, b, c, d⟩ := jtr s' h4
      exact ⟨a, fun c x y j z => by rw [xu_o (by omega)]; exact b c x y j z, fun c' x y j z => by rw [xu_o (by omega)]; exact c c' x y j z, d⟩
    · rw [xu_o x, h4.1 c x y, k0 c x (by omega)]
    · show s' 53 17 = 0; rw [h4.2.1 17 (by decide) (by decide) (by decide) (by decide) (by decide)]; rfl
    · show s' 53 8 = _; rw [h4.2.1 8 (by decide) (by decide) (by decide) (by decide) (by decide)]; rfl
    · show s' 53 51 = _; rw [h4.2.1 51 (by decide) (by decide) (by decide) (by decide) (by decide)]; rfl
    · show s' 53 52 = _; rw [h4.2.1 52 (by decide) (by decide) (by decide) (by decide) (by decide)]; rfl
  generalize pnd (s 69) L 8 0 none false 0 0 = r at *
  cases g : r.1 with
  | false =>
    obtain ⟨n, s', a1, a2, a3, a4⟩ := hS.2 g
    have ex : g170 s = g170_103 s' := by
      have := a2 (1000 - n)
      rw [show n + (1000 - n) = 1000 by omega] at this
      exact e170.trans this
    obtain ⟨b1, b2, b3, b4, b5, b6⟩ := bad s' _ ex a3 (by omega) a4
    exact ⟨_, fun z => (by cases z.1), fun _ => ⟨b1, b2, b3, b4⟩, b5, b6⟩
  | true =>
    obtain ⟨n, m, s', a1, a2, a3, a4⟩ := hS.1 g
    obtain ⟨c1, c2, c3, c4, c5, c6, c7, c8⟩ := a4
    obtain ⟨q3, q4, q5, q6, q7, q8⟩ := q2 g
    have q8 := q8 0
    obtain ⟨m', rfl⟩ : ∃ m', m = m' + 1 := ⟨m - 1, by omega⟩
    have z0 : s' 53 40 ≤ 0 := by rw [c6]; decide
    have exC : xlo cL (m' + 1) s' = some (.inl 0, s') := by
      refine (xlo_map (X := g186_86 s') ?_).trans ?_
      · show g186_0b s' = _
        simp only [g186_0b, g171_1 c2, x10, if_false, if_pos z0]
      · unfold g186_86; rw [if_pos z0]
    have ex : g170 s = g170_81 s' := by
      have h1 := a3 (1000 - n)
      rw [show n + (1000 - n) = 1000 by omega] at h1
      rw [e170, h1]
      unfold cC
      rw [exC]
      dsimp only
      rw [if_pos rfl, show 1000 - n = (999 - n) + 1 by omega]
      refine xlo_map ?_
      show g170_47b 0 s' = _
      simp only [g170_47b, if_true]
    by_cases q : L ≤ r.2.1
    · have le : s' 53 18 ≤ s' 53 19 := by
        rw [c1.1, c1.2.1, Int32.le_iff_toInt_le, Int32.toInt_ofNat_of_lt (by omega), Int32.toInt_ofNat_of_lt (by omega)]; omega
      have c2' : xh_ui s' 53 21 0 53 20 = -1 := c2
      have h70 : xh_ui s' 53 21 0 70 1 = Int32.ofNat r.2.2.length := by rw [Nat.zero_add] at c3; exact c3
      have h31 : xh_ui s' 53 21 0 53 31 = Int32.ofNat (tM r.2.2) := by rw [Nat.zero_add] at c4; exact c4
      have h32 : xh_ui s' 53 21 0 53 32 = Int32.ofNat (tDn 0 r.2.2) := by rw [Nat.zero_add] at c5; exact c5
      obtain ⟨s2, d1, d2, d3, d4, d5, d6⟩ := g187_eq (s := xh_ui s' 53 21 0) (by omega) (by omega) (by omega) h70 h31 h32
      have hN : rNs 0 0 0 r.2.2 (xh_ui s' 53 21 0) := rNs_53 r.2.2 0 0 0 c8
      have e81 : g170_81 s' = some (.inl (Int32.ofNat r.2.2.length), s2) := by
        simp only [g170_81, g171_1 c2, x10, if_false, if_pos le, g170_103, g170_116, xu_s, if_true, d1, d3]
      have k2 : ∀ j, ¬ j = 21 → s2 53 j = s' 53 j := fun j hj => by rw [d2 53 (by decide), xu_n hj]
      refine ⟨s2, fun _ => ⟨ex.trans e81, by rw [k2 20 (by decide)]; exact c2, by rw [d2 53 (by decide), xu_s], d3, ?_⟩, fun z => (z ⟨rfl, q⟩).elim, fun c x y => ?_, ?_, ?_, ?_, ?_⟩
      · refine jNs_of (s := xh_ui s' 53 21 0) d4 d5 d6 r.2.2 0 0 0 (fun z t hz m hm => ?_) (by omega) (by omega) (by omega) hN
        obtain ⟨-, y1, y2⟩ := hgood g z t hz
        by_cases z0 : z = 0
        · rw [y1 z0] at hm; cases hm
        · obtain ⟨m', r', x1, x2, x3, -⟩ := y2 (by omega)
          rw [x1] at hm
          cases hm
          have := (List.getElem?_eq_some_iff.mp hz).1
          omega
      · rw [d2 c (by omega), xu_o x, c7.1 c x y, k0 c x (by omega)]
      · rw [k2 17 (by decide), c7.2.1 17 (by decide) (by decide) (by decide) (by decide) (by decide)]; rfl
      · rw [k2 8 (by decide), c7.2.1 8 (by decide) (by decide) (by decide) (by decide) (by decide)]; rfl
      · rw [k2 51 (by decide), c7.2.1 51 (by decide) (by decide) (by decide) (by decide) (by decide)]; rfl
      · rw [k2 52 (by decide), c7.2.1 52 (by decide) (by decide) (by decide) (by decide) (by decide)]; rfl
    · have nle : ¬ s' 53 18 ≤ s' 53 19 := by
        rw [c1.1, c1.2.1, Int32.le_iff_toInt_le, Int32.toInt_ofNat_of_lt (by omega), Int32.toInt_ofNat_of_lt (by omega)]; omega
      have e81 : g170_81 s' = g170_103 (xh_ui s' 53 20 (Int32.ofNat r.2.1)) := by
        simp only [g170_81, g171_1 c2, x10, if_false, if_neg nle, g175_eq c1 c2]
      obtain ⟨b1, b2, b3, b4, b5, b6⟩ := bad (xh_ui s' 53 20 (Int32.ofNat r.2.1)) _ (ex.trans e81) (xu_s _ _ _ _) (by omega) (rFn_trans c7 (rFn_53 (Or.inr (Or.inl rfl)) s' _) (Nat.le_refl _) (Nat.le_refl _) (Nat.le_refl _) (Nat.le_refl _))
      exact ⟨_, fun z => absurd z.2 q, fun _ => ⟨b1, b2, b3, b4⟩, b5, b6⟩
/-- policy -/
theorem op13 {t p : Nat} {σ : xS} (h : wI t σ p) (τ : xT) : ∃ c s τ' p' v s', g86 p σ τ = some (c, s, τ', p') ∧ g170 s = some (.inl v, s') ∧ s' 53 21 = c ∧ (c = 0 → τ' 92 0 = Int32.toInt64 v) ∧ wI (t + 1) s' p' := by
  obtain ⟨hK, hJ, hp⟩ := h
  obtain ⟨hA, hB, hC, hD, hE, ⟨f1, f2, L, f3, f4, f5⟩, hG, hH⟩ := id hK
  obtain ⟨σ3, e88, a1, a2⟩ := c_read hp f3 f4 f2
  have hgood := gLs_nd (B := σ 22) (L := L) 8 0 none false 0 0
  obtain ⟨-, q1, q2⟩ := pQ_nd (B := σ 22) (L := L) 8 0 none false 0 0 (Nat.zero_le _)
  have kc : ∀ v c, ¬ c = 0 → ¬ c = 20 → ¬ c = 21 → (c < p ∨ p + 10 < c) → xh_ui (xh_ui σ3 21 1 0) 0 8 v c = σ c := fun v c x y z w => by rw [xu_o x, xu_o z, a1 c y w]
  by_cases ok : (pnd (σ 22) L 8 0 none false 0 0).1 = true ∧ L ≤ (pnd (σ 22) L 8 0 none false 0 0).2.1
  · rw [if_pos ok] at e88
    let s : xS := xh_ui (xh_ui σ3 21 1 0) 0 8 (-1)
    have h69 : s 69 = σ 22 := by rw [f1]; exact kc _ 69 (by decide) (by decide) (by decide) (by omega)
    have h17 : s 53 17 = Int32.ofNat L := by
      have : s 53 = σ 53 := kc _ 53 (by decide) (by decide) (by decide) (by omega)
      rw [this]; exact f5
    obtain ⟨s', b1, b2, b3, b4, b5, b6, b7⟩ := r_read (s := s) f3 h17
    rw [h69] at b1 b2
    obtain ⟨c1, c2, c3, c4, c5⟩ := b1 ok
    obtain ⟨d1, d2⟩ := a2 ok.1
    obtain ⟨q3, q4, q5, q6, q7, q8⟩ := q2 ok.1
    have q8 := q8 0
    have hgood := hgood ok.1
    generalize pnd (σ 22) L 8 0 none false 0 0 = r at *
    have e87 : g87 p σ = some (Sum.inl (Int32.ofNat r.2.2.length), s, 59 - p) := by
      have z : xh_ui (xh_ui σ3 21 1 0) 0 8 (-1) p 7 = Int32.ofNat r.2.2.length := by rw [xu_o (by omega), xu_o (by omega)]; exact d1
      unfold g87
      rw [e88]
      dsimp only
      rw [if_pos rfl, z]
    have e86 : g86 p σ τ = some (0, s, xh_ul τ 92 0 (Int32.toInt64 (Int32.ofNat r.2.2.length)), 59 - p) := by
      unfold g86
      rw [e87]
    have kk : ∀ c, ¬ c = 53 → ¬ (70 ≤ c ∧ c ≤ 86) → ¬ c = 0 → ¬ c = 20 → ¬ c = 21 → (c < p ∨ p + 10 < c) → s' c = σ c := fun c x y z u v w => by rw [b3 c x y]; exact kc _ c z u v w
    have k53 : ∀ j, s 53 j = σ 53 j := fun j => by
      have : s 53 = σ 53 := kc _ 53 (by decide) (by decide) (by decide) (by omega)
      rw [this]
    refine ⟨0, s, _, 59 - p, _, s', e86, c1, c3, fun _ => rfl, ?_, ?_, by omega⟩
    · refine wK_of hK (fun c hc => kk c (by omega) (by omega) (by omega) (by omega) (by omega) (by omega)) (by rw [b5]; exact k53 8) (by rw [b6]; exact k53 51) (by rw [b7]; exact k53 52) ⟨?_, fun i => ?_, 0, by omega, ?_, b4⟩ ?_
      · rw [kk 22 (by decide) (by decide) (by decide) (by decide) (by decide) (by omega), kk 69 (by decide) (by decide) (by decide) (by decide) (by decide) (by omega)]; exact f1
      · rw [kk 22 (by decide) (by decide) (by decide) (by decide) (by decide) (by omega)]; exact f2 i
      · rw [b3 21 (by decide) (by decide)]; rfl
      · show s' 0 8 = s' 53 20
        rw [b3 0 (by decide) (by decide), c2]; rfl
    · have hpp : 59 - (59 - p) = p := by omega
      refine ⟨r.2.2, by omega, by omega, by omega, by omega, ?_, c4, ?_, c5, hgood⟩
      · rw [hpp, b3 p (by omega) (by omega)]
        show xh_ui (xh_ui σ3 21 1 0) 0 8 (-1) p 7 = _
        rw [xu_o (by omega), xu_o (by omega)]; exact d1
      · rw [hpp]
        refine cNs_eq (fun c x y => ?_) r.2.2 0 0 d2
        rw [b3 c (by omega) (by omega)]
        show xh_ui (xh_ui σ3 21 1 0) 0 8 (-1) c = _
        rw [xu_o (by omega), xu_o (by omega)]
  · rw [if_neg ok] at e88
    have hne : ¬ Int32.ofNat (pnd (σ 22) L 8 0 none false 0 0).2.1 = -1 := by
      have : (List.range 301).all (fun k => decide (¬ Int32.ofNat k = -1)) = true := by decide +kernel
      exact of_decide_eq_true (List.all_eq_true.mp this _ (List.mem_range.mpr (by omega)))
    let s : xS := xh_ui (xh_ui σ3 21 1 0) 0 8 (Int32.ofNat (pnd (σ 22) L 8 0 none false 0 0).2.1)
    have h69 : s 69 = σ 22 := by rw [f1]; exact kc _ 69 (by decide) (by decide) (by decide) (by omega)
    have h17 : s 53 17 = Int32.ofNat L := by
      have : s 53 = σ 53 := kc _ 53 (by decide) (by decide) (by decide) (by omega)
      rw [this]; exact f5
    obtain ⟨s', b1, b2, b3, b4, b5, b6, b7⟩ := r_read (s := s) f3 h17
    rw [h69] at b1 b2
    obtain ⟨c1, c2, c3, c4⟩ := b2 ok
    have e86 : g86 p σ τ = some (1, s, τ, p) := by
      unfold g86 g87
      rw [e88]
      dsimp only
      rw [if_neg hne]
      rfl
    have kk : ∀ c, ¬ c = 53 → ¬ (70 ≤ c ∧ c ≤ 86) → ¬ c = 0 → ¬ c = 20 → ¬ c = 21 → (c < p ∨ p + 10 < c) → s' c = σ c := fun c x y z u v w => by rw [b3 c x y]; exact kc _ c z u v w
    have k53 : ∀ j, s 53 j = σ 53 j := fun j => by
      have : s 53 = σ 53 := kc _ 53 (by decide) (by decide) (by decide) (by omega)
      rw [this]
    refine ⟨1, s, _, p, _, s', e86, c1, c3, fun z => absurd z (by decide), ?_, ?_, hp⟩
    · refine wK_of hK (fun c hc => kk c (by omega) (by omega) (by omega) (by omega) (by omega) (by omega)) (by rw [b5]; exact k53 8) (by rw [b6]; exact k53 51) (by rw [b7]; exact k53 52) ⟨?_, fun i => ?_, 0, by omega, ?_, b4⟩ ?_
      · rw [kk 22 (by decide) (by decide) (by decide) (by decide) (by decide) (by omega), kk 69 (by decide) (by decide) (by decide) (by decide) (by decide) (by omega)]; exact f1
      · rw [kk 22 (by decide) (by decide) (by decide) (by decide) (by decide) (by omega)]; exact f2 i
      · rw [b3 21 (by decide) (by decide)]; rfl
      · show s' 0 8 = s' 53 20
        rw [b3 0 (by decide) (by decide), c2]; rfl
    · refine wJ_fr hp hJ (fun c x y => kk c (by omega) (by omega) (by omega) (by omega) (by omega) (by omega)) ?_
      obtain ⟨x1, x2, x3, x4⟩ := c4
      refine ⟨by rw [x1]; exact congrFun (kc _ 70 (by decide) (by decide) (by decide) (by omega)) 0, fun c u v j z => by rw [x2 c u v j z]; exact congrFun (kc _ c (by omega) (by omega) (by omega) (by omega)) j, fun c u v j z => by rw [x3 c u v j z]; exact congrFun (kc _ c (by omega) (by omega) (by omega) (by omega)) j, fun j z => by rw [x4 j z]; exact congrFun (kc _ 84 (by decide) (by decide) (by decide) (by omega)) j⟩
