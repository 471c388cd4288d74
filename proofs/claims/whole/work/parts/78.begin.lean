/-! at the law's start -/
set_option maxRecDepth 8000 in
theorem wI_0 : wI 0 xx_hc.2.1 23 := by
  have e8 : ∀ i, i < 6 → xx_hc.2.1 8 i = -1 := by decide +kernel
  have e11 : xx_hc.2.1 11 3 = 0 := by decide +kernel
  have e538 : xx_hc.2.1 53 8 = 0 := by decide +kernel
  have e21 : xx_hc.2.1 21 1 = 0 := by decide +kernel
  have e5317 : xx_hc.2.1 53 17 = 0 := by decide +kernel
  have e08 : xx_hc.2.1 0 8 = xx_hc.2.1 53 20 := by decide +kernel
  have e512 : xx_hc.2.1 51 2 = xx_hc.2.1 53 52 := by decide +kernel
  have e511 : xx_hc.2.1 51 1 = 0 := by decide +kernel
  have e5351 : xx_hc.2.1 53 51 = 0 := by decide +kernel
  have e513 : xx_hc.2.1 51 3 = xx_hc.2.1 53 52 := by decide +kernel
  have e367 : xx_hc.2.1 36 7 = 0 := by decide +kernel
  have e70 : xx_hc.2.1 70 0 = 0 := by decide +kernel
  have z2 : xx_hc.2.1 2 = fun _ => 0 := rfl
  have z4 : xx_hc.2.1 4 = fun _ => 0 := rfl
  have z5 : xx_hc.2.1 5 = fun _ => 0 := rfl
  have z6 : xx_hc.2.1 6 = fun _ => 0 := rfl
  have z9 : xx_hc.2.1 9 = fun _ => 0 := rfl
  have z16 : xx_hc.2.1 16 = fun _ => 0 := rfl
  have z17 : xx_hc.2.1 17 = fun _ => 0 := rfl
  have z18 : xx_hc.2.1 18 = fun _ => 0 := rfl
  have z19 : xx_hc.2.1 19 = fun _ => 0 := rfl
  have z22 : xx_hc.2.1 22 = fun _ => 0 := rfl
  have z52 : xx_hc.2.1 52 = fun _ => 0 := rfl
  have z54 : xx_hc.2.1 54 = fun _ => 0 := rfl
  have z55 : xx_hc.2.1 55 = fun _ => 0 := rfl
  have z56 : xx_hc.2.1 56 = fun _ => 0 := rfl
  have z57 : xx_hc.2.1 57 = fun _ => 0 := rfl
  have z58 : xx_hc.2.1 58 = fun _ => 0 := rfl
  have z65 : xx_hc.2.1 65 = fun _ => 0 := rfl
  have z66 : xx_hc.2.1 66 = fun _ => 0 := rfl
  have z67 : xx_hc.2.1 67 = fun _ => 0 := rfl
  have z68 : xx_hc.2.1 68 = fun _ => 0 := rfl
  have z69 : xx_hc.2.1 69 = fun _ => 0 := rfl
  have z91 : xx_hc.2.1 91 = fun _ => 0 := rfl
  refine ⟨⟨⟨?_, ?_⟩, ⟨?_, ?_, ?_, ?_, ?_⟩, ?_, ⟨0, by omega, e11, e538, fun i hi => absurd hi (Nat.not_lt_zero i)⟩, ⟨?_, ?_, ?_, ?_, ?_⟩, ⟨?_, ?_, 0, by omega, e21, e5317⟩, e08, ?_, e512, 0, by omega, e511, e5351, e513⟩, ⟨[], by decide, by decide, by decide, by decide, e367, e70, trivial, trivial, fun q r hq => by cases hq⟩, Or.inl rfl⟩
  · rw [z2, z54]
  · intro i _; rw [z2]; exact wM_0
  · rw [z4, z55]
  · intro i _; rw [z4]; exact wM_0
  · rw [z5, z56]
  · rw [z6, z57]
  · intro i _; rw [z6]; exact Or.inl rfl
  · intro i hi
    rw [z58, z9, e8 i hi]
    exact Or.inl ⟨rfl, rfl, rfl⟩
  · rw [z16, z65]
  · rw [z17, z66]
  · rw [z18, z67]
  · intro i _; rw [z18]; exact Or.inl rfl
  · rw [z19, z68]
  · rw [z22, z69]
  · intro i; rw [z22]; exact ⟨0, by decide, rfl⟩
  · rw [z52, z91]
theorem xx_all (l : Launch) (htr : ∀ e, l.admits e → e.platform.stackTraces = false) : xx_law l 2560 := xL_law wI (fun _ _ _ h => h.2.2) wI_0 (fun n xs hn t σ τ p hi h => gL_I hn hi h τ) l htr
