/-! decide -/
theorem wI_of {t p : Nat} {σ s : xS} (h : wI t σ p) (hc : ∀ c, ¬ c = 35 → ¬ (47 ≤ c ∧ c ≤ 50) → ¬ c = 53 → ¬ (87 ≤ c ∧ c ≤ 90) → s c = σ c) (h53 : ∀ j, ¬ j = 21 → j < 42 ∨ 45 < j → s 53 j = σ 53 j) : wI (t + 1) s p := by
  obtain ⟨hK, hJ, hp⟩ := h
  have hF := hK.2.2.2.2.2.1
  have hG := hK.2.2.2.2.2.2.1
  refine ⟨wK_of hK (fun c x => hc c (by omega) (by omega) (by omega) (by omega)) (h53 8 (by omega) (by omega)) (h53 51 (by omega) (by omega)) (h53 52 (by omega) (by omega)) ?_ ?_, wJ_fr hp hJ (fun c x y => hc c (by omega) (by omega) (by omega) (by omega)) ⟨?_, ?_, ?_, ?_⟩, hp⟩
  · unfold wKF at hF ⊢
    rw [hc 22 (by omega) (by omega) (by omega) (by omega), hc 69 (by omega) (by omega) (by omega) (by omega), hc 21 (by omega) (by omega) (by omega) (by omega), h53 17 (by omega) (by omega)]
    exact hF
  · unfold wKG at hG ⊢
    rw [hc 0 (by omega) (by omega) (by omega) (by omega), h53 20 (by omega) (by omega)]
    exact hG
  · rw [hc 70 (by omega) (by omega) (by omega) (by omega)]
  · intro c x y j _
    rw [hc c (by omega) (by omega) (by omega) (by omega)]
  · intro c x y j _
    rw [hc c (by omega) (by omega) (by omega) (by omega)]
  · intro j _
    rw [hc 84 (by omega) (by omega) (by omega) (by omega)]
theorem g112_b (p : Nat) (a b c d : Int32) (σ : xS) : g112 p a b c d σ = if (0 ≤ a ∧ a < 6) ∧ (0 ≤ b ∧ b < 10) ∧ (0 ≤ c ∧ c < 16) ∧ (0 ≤ d ∧ d < 24) then g112_46 p a b c d 1 σ else some (.inr 0, σ) := by
  by_cases hA : 0 ≤ a ∧ a < 6
  · by_cases hB : 0 ≤ b ∧ b < 10
    · by_cases hC : 0 ≤ c ∧ c < 16
      · by_cases hD : 0 ≤ d ∧ d < 24
        · rw [if_pos (show (0 ≤ a ∧ a < 6) ∧ (0 ≤ b ∧ b < 10) ∧ (0 ≤ c ∧ c < 16) ∧ (0 ≤ d ∧ d < 24) from ⟨hA, hB, hC, hD⟩)]
          simp only [g112, g63_eq, decide_eq_true hA, xb_t, x10, if_false, g25_eq, decide_eq_true hB, g112_21, g26_1, g80_eq, decide_eq_true hC, decide_eq_true hD]
        · rw [if_neg (show ¬ ((0 ≤ a ∧ a < 6) ∧ (0 ≤ b ∧ b < 10) ∧ (0 ≤ c ∧ c < 16) ∧ (0 ≤ d ∧ d < 24)) from fun z => hD z.2.2.2)]
          simp only [g112, g63_eq, decide_eq_true hA, xb_t, x10, if_false, g25_eq, decide_eq_true hB, g112_21, g26_1, g80_eq, decide_eq_true hC, decide_eq_false hD, xb_f, x00, if_true, g112_45, g112_46, g26_0]
      · rw [if_neg (show ¬ ((0 ≤ a ∧ a < 6) ∧ (0 ≤ b ∧ b < 10) ∧ (0 ≤ c ∧ c < 16) ∧ (0 ≤ d ∧ d < 24)) from fun z => hC z.2.2.1)]
        simp only [g112, g63_eq, decide_eq_true hA, xb_t, x10, if_false, g25_eq, decide_eq_true hB, g112_21, g26_1, g80_eq, decide_eq_false hC, xb_f, x00, if_true, g112_45, g112_46, g26_0]
    · rw [if_neg (show ¬ ((0 ≤ a ∧ a < 6) ∧ (0 ≤ b ∧ b < 10) ∧ (0 ≤ c ∧ c < 16) ∧ (0 ≤ d ∧ d < 24)) from fun z => hB z.2.1)]
      simp only [g112, g63_eq, decide_eq_true hA, xb_t, x10, if_false, g25_eq, decide_eq_false hB, xb_f, x00, if_true, g112_20, g112_21, g26_0]
  · rw [if_neg (show ¬ ((0 ≤ a ∧ a < 6) ∧ (0 ≤ b ∧ b < 10) ∧ (0 ≤ c ∧ c < 16) ∧ (0 ≤ d ∧ d < 24)) from fun z => hA z.1)]
    simp only [g112, g63_eq, decide_eq_false hA, xb_f, x00, if_true, g112_20, g112_21, g26_0]
theorem g190_b (a b c d : Int32) (σ : xS) : g190 a b c d σ = if (0 ≤ a ∧ a < 6) ∧ (0 ≤ b ∧ b < 10) ∧ (0 ≤ c ∧ c < 16) ∧ (0 ≤ d ∧ d < 24) then g190_42 a 1 σ else some (.inl 1, σ) := by
  by_cases hA : 0 ≤ a ∧ a < 6
  · by_cases hB : 0 ≤ b ∧ b < 10
    · by_cases hC : 0 ≤ c ∧ c < 16
      · by_cases hD : 0 ≤ d ∧ d < 24
        · rw [if_pos (show (0 ≤ a ∧ a < 6) ∧ (0 ≤ b ∧ b < 10) ∧ (0 ≤ c ∧ c < 16) ∧ (0 ≤ d ∧ d < 24) from ⟨hA, hB, hC, hD⟩)]
          simp only [g190, g152_eq, decide_eq_true hA, xb_t, x10, if_false, decide_eq_true hB, decide_eq_true hC, decide_eq_true hD]
        · rw [if_neg (show ¬ ((0 ≤ a ∧ a < 6) ∧ (0 ≤ b ∧ b < 10) ∧ (0 ≤ c ∧ c < 16) ∧ (0 ≤ d ∧ d < 24)) from fun z => hD z.2.2.2)]
          simp only [g190, g152_eq, decide_eq_true hA, xb_t, x10, if_false, decide_eq_true hB, decide_eq_true hC, decide_eq_false hD, xb_f, x00, if_true, g190_41, g190_42]
      · rw [if_neg (show ¬ ((0 ≤ a ∧ a < 6) ∧ (0 ≤ b ∧ b < 10) ∧ (0 ≤ c ∧ c < 16) ∧ (0 ≤ d ∧ d < 24)) from fun z => hC z.2.2.1)]
        simp only [g190, g152_eq, decide_eq_true hA, xb_t, x10, if_false, decide_eq_true hB, decide_eq_false hC, xb_f, x00, if_true, g190_41, g190_42]
    · rw [if_neg (show ¬ ((0 ≤ a ∧ a < 6) ∧ (0 ≤ b ∧ b < 10) ∧ (0 ≤ c ∧ c < 16) ∧ (0 ≤ d ∧ d < 24)) from fun z => hB z.2.1)]
      simp only [g190, g152_eq, decide_eq_true hA, xb_t, x10, if_false, decide_eq_false hB, xb_f, x00, if_true, g190_41, g190_42]
  · rw [if_neg (show ¬ ((0 ≤ a ∧ a < 6) ∧ (0 ≤ b ∧ b < 10) ∧ (0 ≤ c ∧ c < 16) ∧ (0 ≤ d ∧ d < 24)) from fun z => hA z.1)]
    simp only [g190, g152_eq, decide_eq_false hA, xb_f, x00, if_true, g190_41, g190_42]
theorem wI_say {t p : Nat} {σ : xS} (h : wI t σ p) (v : Int32) : wI (t + 1) (xh_ui σ 53 21 v) p := wI_of h (fun c _ _ x _ => xu_o x) (fun j x _ => xu_n x)
theorem op15 {t p : Nat} {σ : xS} (h : wI t σ p) (a b c d : Int32) (τ : xT) : ∃ e s τ' v s', g111 p a b c d σ τ = some (e, s, τ') ∧ g189 a b c d s = some (.inl v, s') ∧ s' 53 21 = e ∧ (e = 0 → τ' 92 0 = Int32.toInt64 v) ∧ wI (t + 1) s' p := by
  by_cases hall : (0 ≤ a ∧ a < 6) ∧ (0 ≤ b ∧ b < 10) ∧ (0 ≤ c ∧ c < 16) ∧ (0 ≤ d ∧ d < 24)
  · obtain ⟨se, hse, rfl⟩ := x_below (k := 6) (by decide) hall.1.1 hall.1.2
    obtain ⟨ob, hob, rfl⟩ := x_below (k := 16) (by decide) hall.2.2.1.1 hall.2.2.1.2
    obtain ⟨-, h2, h3, -⟩ := x6 se hse
    rcases h.1.2.2.1 se hse with ⟨c1, c2, c3⟩ | ⟨c1, c2, c3, c4, u, c5, c6, c7⟩
    · refine ⟨2, σ, τ, 0, xh_ui σ 53 21 2, ?_, ?_, xu_s _ _ _ _, fun q => absurd q (by decide), wI_say h 2⟩
      · unfold g111
        rw [g112_b, if_pos hall]
        simp only [g112_46, g26_1, g44, h2, cond_true, h3, c2, if_true, g31_0, n10, n11, if_false]
      · unfold g189
        rw [g190_b, if_pos hall]
        simp only [g190_42, x10, if_false, h2, cond_true, h3, c1, x00, if_true, xu_s, x20]
    · obtain ⟨w, D, σ1, v1, v2, v3, v4, v5, v6⟩ := verdict h.2.2 h.1.1 h.1.2.1 h.1.2.2.2.2.1 h.2.1 hse hob c5 c2 c3 c6 c7 b d
      obtain ⟨s1, y1, y2, y3, y4⟩ := v6 (xh_ui σ1 53 21 0) (fun c x _ _ _ _ => xu_o x)
      have e58 : σ1 58 se = 1 := by rw [v2 58 (by decide) (by decide) (by decide) (by decide) (by decide)]; exact c1
      have hs : ∀ s2 : xS, (∀ c, ¬ c = 89 → s2 c = s1 c) → wI (t + 1) s2 p ∧ s2 53 21 = 0 := fun s2 h2' => by
        refine ⟨wI_of h (fun c x1 x2 x3 x4 => ?_) (fun j x1 x2 => ?_), ?_⟩
        · rw [h2' c (by omega), y2 c x3 (by omega) (by omega) (by omega), xu_o x3, v2 c x1 (by omega) (by omega) (by omega) (by omega)]
        · rw [h2' 53 (by decide), y3 j x2, xu_n x1, v2 53 (by decide) (by decide) (by decide) (by decide) (by decide)]
        · rw [h2' 53 (by decide), y3 21 (by omega), xu_s]
      have eg : g111 p (Int32.ofNat se) b (Int32.ofNat ob) d σ τ = some (0, σ1, xh_ul τ 92 0 (Int32.toInt64 (w + 10 * D))) := by
        unfold g111
        rw [g112_b, if_pos hall]
        simp only [g112_46, g26_1, g44, h2, cond_true, h3, c6, xo_ne u c5, if_false, g31_1, v1]
      have er : g189 (Int32.ofNat se) b (Int32.ofNat ob) d σ1 = (if w = 1 then g189_45 w s1 else (if w = 2 then g189_45 w s1 else some ((Sum.inl w, s1)))) := by
        unfold g189
        rw [g190_b, if_pos hall]
        simp only [g190_42, x10, if_false, h2, cond_true, h3, e58, xu_s, x00, if_true, y1]
      by_cases w12 : w = 1 ∨ w = 2
      · obtain ⟨s2, z1, z2⟩ := y4 w12
        obtain ⟨i1, i2⟩ := hs s2 z2
        refine ⟨0, σ1, _, w + 10 * D, s2, eg, ?_, i2, fun _ => rfl, i1⟩
        have e45 : g189_45 w s1 = some (.inl (w + 10 * D), s2) := by
          unfold g189_45
          rw [z1]
        rw [er, e45]
        rcases w12 with z | z
        · rw [if_pos z]
        · rw [if_neg (show ¬ w = 1 by rw [z]; decide), if_pos z]
      · obtain ⟨i1, i2⟩ := hs s1 (fun _ _ => rfl)
        have D0 := v5 (fun z => w12 (Or.inl z)) (fun z => w12 (Or.inr z))
        refine ⟨0, σ1, _, w, s1, eg, ?_, i2, fun _ => ?_, i1⟩
        · rw [er, if_neg (show ¬ w = 1 from fun z => w12 (Or.inl z)), if_neg (show ¬ w = 2 from fun z => w12 (Or.inr z))]
        · rw [D0, show (10 : Int32) * 0 = 0 by decide, Int32.add_zero]
          rfl
  · refine ⟨1, σ, τ, 0, xh_ui σ 53 21 1, ?_, ?_, xu_s _ _ _ _, fun q => absurd q (by decide), wI_say h 1⟩
    · unfold g111
      rw [g112_b, if_neg hall]
      rfl
    · unfold g189
      rw [g190_b, if_neg hall]
      simp only [xu_s, x10, if_false]
