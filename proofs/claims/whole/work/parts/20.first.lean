/-! the first methods -/
/-- method M on the values vs over h answers v and leaves h' -/
def xe (l : Launch) (Ω : xo_O) (d M : Nat) (vs : List Value) (h : xh_H) (v : Option Value) (h' : xh_H) : Prop := xv l Ω d 0 0 M 0 (xs_loc (xm_l M) vs) [] h (.inl v, h')
def xb (p : Bool) : Int32 := bif p then 1 else 0
section XeA
variable {l : Launch} {Ω : xo_O} {h : xh_H}
theorem xe_isBelow (htr : ∀ e, l.admits e → e.platform.stackTraces = false) (d : Nat) (x b : Int32) : xe l Ω d 25 [.int x, .int b] h (some (.int (xb (decide (0 ≤ x ∧ x < b))))) h := by
  by_cases h1 : x < 0
  · have hn : ¬ (0 ≤ x ∧ x < b) := fun q => absurd h1 (Int32.not_lt.mpr q.1)
    rw [decide_eq_false hn]
    exact xp_ok htr 4 d 0 0 [eB true] 25 0 _ _ _ ⟨h1, Or.inl rfl, rfl⟩
  · by_cases h2 : b ≤ x
    · have hn : ¬ (0 ≤ x ∧ x < b) := fun q => absurd q.2 (Int32.not_lt.mpr h2)
      rw [decide_eq_false hn]
      exact xp_ok htr 7 d 0 0 [eB false, eB true] 25 0 _ _ _ ⟨h1, h2, Or.inl rfl, rfl⟩
    · rw [decide_eq_true ⟨Int32.not_lt.mp h1, Int32.not_le.mp h2⟩]
      exact xp_ok htr 8 d 0 0 [eB false, eB false] 25 0 _ _ _ ⟨h1, h2, Or.inr rfl, rfl⟩
theorem xe_isRole (htr : ∀ e, l.admits e → e.platform.stackTraces = false) (d : Nat) (x : Int32) : xe l Ω (d + 1) 24 [.int x] h (some (.int (xb (decide (0 ≤ x ∧ x < 12))))) h := by
  refine xp_ok htr 4 (d + 1) 0 0 [eC _ _] 24 0 _ _ _ ⟨xe_isBelow htr d x 12, ?_, rfl⟩
  cases decide (0 ≤ x ∧ x < 12) <;> simp [xb]
end XeA
