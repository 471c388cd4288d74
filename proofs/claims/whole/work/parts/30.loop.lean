/-! the loop: the law out of what holds at its head -/
theorem xL_lt {n t : Nat} (hn : n ≤ 2560) (ht : 5 * t ≤ n) : (Int32.ofNat n - 5 < Int32.ofNat (5 * t)) ↔ n < 5 * t + 5 := by
  have h : (List.range 2561).all (fun n => decide ((Int32.ofNat n - 5).toInt = (n : Int) - 5)) = true := by decide +kernel
  have h1 := of_decide_eq_true (List.all_eq_true.mp h n (List.mem_range.mpr (by omega)))
  rw [Int32.lt_iff_toInt_lt, h1, Int32.toInt_ofNat_of_lt (by omega)]
  omega
theorem xL_5 (t : Nat) : Int32.ofNat (5 * t) + 5 = Int32.ofNat (5 * (t + 1)) := by
  rw [Nat.mul_add, Int32.ofNat_add]; rfl
theorem xL_loop {l : Launch} {Ω : xo_O} (htr : xH l) (hn : xo_n Ω ≤ 2560) (I : Nat → xS → Nat → Prop) (hI : ∀ t σ p, I t σ p → p = 23 ∨ p = 36)
    (hs : ∀ t σ τ p, 5 * t + 5 ≤ xo_n Ω → I t σ p → ∃ σ' τ' p', gL (xo_n Ω) (xo_x Ω) p (Int32.ofNat (5 * t)) σ τ = some (σ', τ', p') ∧ I (t + 1) σ' p') (d : Nat) :
    ∀ (m t : Nat) (σ : xS) (τ : xT) (p : Nat), I t σ p → 5 * t ≤ xo_n Ω → xo_n Ω < 5 * t + 5 * m → ∃ h', xv l Ω (d + 220) (4 * m) (24 * m) 0 23 (xx_L0 (Int32.ofNat (5 * t))) [] (hM p σ τ) (.inl (some (.int 1)), h')
  | 0, t, σ, τ, p, _, h1, h2 => absurd h2 (by omega)
  | m + 1, t, σ, τ, p, hi, h1, h2 => by
    by_cases hq : 5 * t + 5 ≤ xo_n Ω
    · obtain ⟨σ', τ', p', e, hi'⟩ := hs t σ τ p hq hi
      obtain ⟨h', k⟩ := xL_loop htr hn I hI hs d m (t + 1) σ' τ' p' hi' (by omega) (by omega)
      rw [← xL_5] at k
      exact ⟨h', gL_ok htr d (4 * m) (24 * m) p (hI t σ p hi) (Int32.ofNat (5 * t)) σ τ _ (by rw [xL_lt hn h1]; omega) e k⟩
    · refine ⟨hM p σ τ, ?_⟩
      have hlt : Int32.ofNat (xo_n Ω) - 5 < Int32.ofNat (5 * t) := (xL_lt hn h1).mpr (by omega)
      exact xp_ok htr 8 (d + 220) (4 * (m + 1)) (24 * (m + 1)) [eB true] 0 23 (xx_L0 (Int32.ofNat (5 * t))) [] (hM p σ τ) ⟨hlt, Or.inr rfl, rfl⟩
/-- the law, out of what is kept by every turn -/
theorem xL_law (I : Nat → xS → Nat → Prop) (hI : ∀ t σ p, I t σ p → p = 23 ∨ p = 36) (h0 : I 0 xx_hc.2.1 23)
    (hs : ∀ (n : Nat) (xs : Nat → Int32), n ≤ 2560 → ∀ t σ τ p, 5 * t + 5 ≤ n → I t σ p → ∃ σ' τ' p', gL n xs p (Int32.ofNat (5 * t)) σ τ = some (σ', τ', p') ∧ I (t + 1) σ' p') (l : Launch) (htr : xH l) : xx_law l 2560 := by
  intro Ω hn
  obtain ⟨h', k⟩ := xL_loop (Ω := Ω) htr hn I hI (fun t σ τ p => hs (xo_n Ω) (xo_x Ω) hn t σ τ p) 0 513 0 xx_hc.2.1 xx_hc.2.2.2 23 h0 (by omega) (by omega)
  refine ⟨220, 20000, 200000, h', by decide, by decide, by decide, ?_⟩
  exact xx_pre (d := 216) htr (xv_mono (d' := 220) (Nat.le_refl _) (by decide) (by decide) k)
