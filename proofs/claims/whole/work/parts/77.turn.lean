/-! a turn of the law keeps what holds -/
theorem g149_eq (s : xS) : g149 s = some (.inl (s 53 21), s) := rfl
theorem lg_self (x : Int64) : lg_cmp x x = 0 := by
  unfold lg_cmp
  rw [if_neg (show ¬ x > x from Int64.lt_irrefl), if_pos rfl]
theorem wI_s {t p : Nat} {σ : xS} (h : wI t σ p) : wI (t + 1) σ p := ⟨⟨h.1.1, h.1.2.1, h.1.2.2.1, h.1.2.2.2.1, h.1.2.2.2.2.1, h.1.2.2.2.2.2.1, h.1.2.2.2.2.2.2.1, wKH_s h.1.2.2.2.2.2.2.2⟩, h.2⟩
theorem gL_0_I {n p t : Nat} {xs : Nat → Int32} {i : Int32} {σ : xS} (h : wI t σ p) (ht : t < 700) (q1 : xn (i + 1) n = true) (q2 : xn (i + 2) n = true) (q3 : xn (i + 3) n = true) (q4 : xn (i + 4) n = true) (τ : xT) : ∃ σ' τ' p', gL_0 n xs p i σ τ = some (σ', τ', p') ∧ wI (t + 1) σ' p' := by
  unfold gL_0
  rw [q1, cond_true, q2, cond_true]
  obtain ⟨c, s, τ', v, s', e1, e2, e3, e5, e6⟩ := op0 h.1 (xs (Int32.toNatClampNeg (i + 1))) (xs (Int32.toNatClampNeg (i + 2))) τ
  rw [e1]
  dsimp only
  rw [e2]
  dsimp only
  rw [g149_eq]
  dsimp only
  rw [if_pos e3]
  exact ⟨s', τ', p, rfl, e5, wJ_wFr h.2.2 h.2.1 e6, h.2.2⟩
theorem gL_1_I {n p t : Nat} {xs : Nat → Int32} {i : Int32} {σ : xS} (h : wI t σ p) (ht : t < 700) (q1 : xn (i + 1) n = true) (q2 : xn (i + 2) n = true) (q3 : xn (i + 3) n = true) (q4 : xn (i + 4) n = true) (τ : xT) : ∃ σ' τ' p', gL_1 n xs p i σ τ = some (σ', τ', p') ∧ wI (t + 1) σ' p' := by
  unfold gL_1
  rw [q1, cond_true, q2, cond_true]
  obtain ⟨c, s, τ', v, s', e1, e2, e3, e5, e6⟩ := op1 h.1 (xs (Int32.toNatClampNeg (i + 1))) (xs (Int32.toNatClampNeg (i + 2))) τ
  rw [e1]
  dsimp only
  rw [e2]
  dsimp only
  rw [g149_eq]
  dsimp only
  rw [if_pos e3]
  exact ⟨s', τ', p, rfl, e5, wJ_wFr h.2.2 h.2.1 e6, h.2.2⟩
theorem gL_2_I {n p t : Nat} {xs : Nat → Int32} {i : Int32} {σ : xS} (h : wI t σ p) (ht : t < 700) (q1 : xn (i + 1) n = true) (q2 : xn (i + 2) n = true) (q3 : xn (i + 3) n = true) (q4 : xn (i + 4) n = true) (τ : xT) : ∃ σ' τ' p', gL_2 n xs p i σ τ = some (σ', τ', p') ∧ wI (t + 1) σ' p' := by
  unfold gL_2
  rw [q1, cond_true, q2, cond_true]
  obtain ⟨c, s, τ', v, s', e1, e2, e3, e5, e6⟩ := op2 h.1 (xs (Int32.toNatClampNeg (i + 1))) (xs (Int32.toNatClampNeg (i + 2))) τ
  rw [e1]
  dsimp only
  rw [e2]
  dsimp only
  rw [g149_eq]
  dsimp only
  rw [if_pos e3]
  exact ⟨s', τ', p, rfl, e5, wJ_wFr h.2.2 h.2.1 e6, h.2.2⟩
theorem gL_3_I {n p t : Nat} {xs : Nat → Int32} {i : Int32} {σ : xS} (h : wI t σ p) (ht : t < 700) (q1 : xn (i + 1) n = true) (q2 : xn (i + 2) n = true) (q3 : xn (i + 3) n = true) (q4 : xn (i + 4) n = true) (τ : xT) : ∃ σ' τ' p', gL_3 n xs p i σ τ = some (σ', τ', p') ∧ wI (t + 1) σ' p' := by
  unfold gL_3
  rw [q1, cond_true, q2, cond_true]
  obtain ⟨c, s, τ', v, s', e1, e2, e3, e5, e6⟩ := op3 h.1 (xs (Int32.toNatClampNeg (i + 1))) (xs (Int32.toNatClampNeg (i + 2))) τ
  rw [e1]
  dsimp only
  rw [e2]
  dsimp only
  rw [g149_eq]
  dsimp only
  rw [if_pos e3]
  exact ⟨s', τ', p, rfl, e5, wJ_wFr h.2.2 h.2.1 e6, h.2.2⟩
theorem gL_4_I {n p t : Nat} {xs : Nat → Int32} {i : Int32} {σ : xS} (h : wI t σ p) (ht : t < 700) (q1 : xn (i + 1) n = true) (q2 : xn (i + 2) n = true) (q3 : xn (i + 3) n = true) (q4 : xn (i + 4) n = true) (τ : xT) : ∃ σ' τ' p', gL_4 n xs p i σ τ = some (σ', τ', p') ∧ wI (t + 1) σ' p' := by
  unfold gL_4
  rw [q1, cond_true, q2, cond_true, cond_true, q3, cond_true, cond_true]
  by_cases z : (xs (Int32.toNatClampNeg (i + 1))) = 0
  · rw [if_pos z]
    obtain ⟨c, s, τ', v, s', e1, e2, e3, e4, e5, e6⟩ := op4 h.1 0 (xs (Int32.toNatClampNeg (i + 2))) (xs (Int32.toNatClampNeg (i + 3))) vpn0 τ
    rw [e1]
    dsimp only
    rw [e2]
    dsimp only
    rw [g149_eq]
    dsimp only
    rw [if_pos e3]
    by_cases c0 : c = 0
    · rw [if_pos c0, e4 c0, lg_self, if_pos x0p]
      exact ⟨s', τ', p, rfl, e5, wJ_wFr h.2.2 h.2.1 e6, h.2.2⟩
    · rw [if_neg c0]
      exact ⟨s', τ', p, rfl, e5, wJ_wFr h.2.2 h.2.1 e6, h.2.2⟩
  · rw [if_neg z]
    obtain ⟨c, s, τ', v, s', e1, e2, e3, e4, e5, e6⟩ := op4 h.1 1 (xs (Int32.toNatClampNeg (i + 2))) (xs (Int32.toNatClampNeg (i + 3))) vpn1 τ
    rw [e1]
    dsimp only
    rw [e2]
    dsimp only
    rw [g149_eq]
    dsimp only
    rw [if_pos e3]
    by_cases c0 : c = 0
    · rw [if_pos c0, e4 c0, lg_self, if_pos x0p]
      exact ⟨s', τ', p, rfl, e5, wJ_wFr h.2.2 h.2.1 e6, h.2.2⟩
    · rw [if_neg c0]
      exact ⟨s', τ', p, rfl, e5, wJ_wFr h.2.2 h.2.1 e6, h.2.2⟩
theorem gL_5_I {n p t : Nat} {xs : Nat → Int32} {i : Int32} {σ : xS} (h : wI t σ p) (ht : t < 700) (q1 : xn (i + 1) n = true) (q2 : xn (i + 2) n = true) (q3 : xn (i + 3) n = true) (q4 : xn (i + 4) n = true) (τ : xT) : ∃ σ' τ' p', gL_5 n xs p i σ τ = some (σ', τ', p') ∧ wI (t + 1) σ' p' := by
  unfold gL_5
  rw [q1, cond_true, q2, cond_true, q3, cond_true]
  by_cases z : (xs (Int32.toNatClampNeg (i + 3))) = 0
  · rw [if_pos z]
    obtain ⟨c, s, τ', v, s', e1, e2, e3, e5, e6⟩ := op5 h.1 (xs (Int32.toNatClampNeg (i + 1))) (xs (Int32.toNatClampNeg (i + 2))) 0 τ
    rw [e1]
    dsimp only
    rw [e2]
    dsimp only
    rw [g149_eq]
    dsimp only
    rw [if_pos e3]
    exact ⟨s', τ', p, rfl, e5, wJ_wFr h.2.2 h.2.1 e6, h.2.2⟩
  · rw [if_neg z]
    obtain ⟨c, s, τ', v, s', e1, e2, e3, e5, e6⟩ := op5 h.1 (xs (Int32.toNatClampNeg (i + 1))) (xs (Int32.toNatClampNeg (i + 2))) 1 τ
    rw [e1]
    dsimp only
    rw [e2]
    dsimp only
    rw [g149_eq]
    dsimp only
    rw [if_pos e3]
    exact ⟨s', τ', p, rfl, e5, wJ_wFr h.2.2 h.2.1 e6, h.2.2⟩
theorem gL_6_I {n p t : Nat} {xs : Nat → Int32} {i : Int32} {σ : xS} (h : wI t σ p) (ht : t < 700) (q1 : xn (i + 1) n = true) (q2 : xn (i + 2) n = true) (q3 : xn (i + 3) n = true) (q4 : xn (i + 4) n = true) (τ : xT) : ∃ σ' τ' p', gL_6 n xs p i σ τ = some (σ', τ', p') ∧ wI (t + 1) σ' p' := by
  unfold gL_6
  rw [q1, cond_true, q2, cond_true]
  obtain ⟨c, s, τ', v, s', e1, e2, e3, e5, e6⟩ := op6 h.1 (xs (Int32.toNatClampNeg (i + 1))) (xs (Int32.toNatClampNeg (i + 2))) τ
  rw [e1]
  dsimp only
  rw [e2]
  dsimp only
  rw [g149_eq]
  dsimp only
  rw [if_pos e3]
  exact ⟨s', τ', p, rfl, e5, wJ_wFr h.2.2 h.2.1 e6, h.2.2⟩
theorem gL_7_I {n p t : Nat} {xs : Nat → Int32} {i : Int32} {σ : xS} (h : wI t σ p) (ht : t < 700) (q1 : xn (i + 1) n = true) (q2 : xn (i + 2) n = true) (q3 : xn (i + 3) n = true) (q4 : xn (i + 4) n = true) (τ : xT) : ∃ σ' τ' p', gL_7 n xs p i σ τ = some (σ', τ', p') ∧ wI (t + 1) σ' p' := by
  unfold gL_7
  rw [q1, cond_true]
  obtain ⟨c, s, τ', v, s', e1, e2, e3, e5, e6⟩ := op7 h.1 (xs (Int32.toNatClampNeg (i + 1))) τ
  rw [e1]
  dsimp only
  rw [e2]
  dsimp only
  rw [g149_eq]
  dsimp only
  rw [if_pos e3]
  exact ⟨s', τ', p, rfl, e5, wJ_wFr h.2.2 h.2.1 e6, h.2.2⟩
theorem gL_8_I {n p t : Nat} {xs : Nat → Int32} {i : Int32} {σ : xS} (h : wI t σ p) (ht : t < 700) (q1 : xn (i + 1) n = true) (q2 : xn (i + 2) n = true) (q3 : xn (i + 3) n = true) (q4 : xn (i + 4) n = true) (τ : xT) : ∃ σ' τ' p', gL_8 n xs p i σ τ = some (σ', τ', p') ∧ wI (t + 1) σ' p' := by
  unfold gL_8
  rw [q1, cond_true, q2, cond_true, q3, cond_true]
  by_cases z : (xs (Int32.toNatClampNeg (i + 3))) = 0
  · rw [if_pos z]
    obtain ⟨c, s, τ', v, s', e1, e2, e3, e5, e6⟩ := op8_0 h.1 (xs (Int32.toNatClampNeg (i + 1))) (xs (Int32.toNatClampNeg (i + 2))) τ
    rw [e1]
    dsimp only
    rw [e2]
    dsimp only
    rw [g149_eq]
    dsimp only
    rw [if_pos e3]
    exact ⟨s', τ', p, rfl, e5, wJ_wFr h.2.2 h.2.1 e6, h.2.2⟩
  · rw [if_neg z]
    obtain ⟨c, s, τ', v, s', e1, e2, e3, e5, e6⟩ := op8_1 h.1 (xs (Int32.toNatClampNeg (i + 1))) (xs (Int32.toNatClampNeg (i + 2))) τ
    rw [e1]
    dsimp only
    rw [e2]
    dsimp only
    rw [g149_eq]
    dsimp only
    rw [if_pos e3]
    exact ⟨s', τ', p, rfl, e5, wJ_wFr h.2.2 h.2.1 e6, h.2.2⟩
theorem gL_9_I {n p t : Nat} {xs : Nat → Int32} {i : Int32} {σ : xS} (h : wI t σ p) (ht : t < 700) (q1 : xn (i + 1) n = true) (q2 : xn (i + 2) n = true) (q3 : xn (i + 3) n = true) (q4 : xn (i + 4) n = true) (τ : xT) : ∃ σ' τ' p', gL_9 n xs p i σ τ = some (σ', τ', p') ∧ wI (t + 1) σ' p' := by
  unfold gL_9
  rw [q1, cond_true]
  obtain ⟨c, s, τ', v, s', e1, e2, e3, e4, e5, e6⟩ := op9 h.1 (xs (Int32.toNatClampNeg (i + 1))) τ
  rw [e1]
  dsimp only
  rw [e2]
  dsimp only
  rw [g149_eq]
  dsimp only
  rw [if_pos e3]
  by_cases c0 : c = 0
  · rw [if_pos c0, e4 c0, lg_self, if_pos x0p]
    exact ⟨s', τ', p, rfl, e5, wJ_wFr h.2.2 h.2.1 e6, h.2.2⟩
  · rw [if_neg c0]
    exact ⟨s', τ', p, rfl, e5, wJ_wFr h.2.2 h.2.1 e6, h.2.2⟩
theorem gL_10_I {n p t : Nat} {xs : Nat → Int32} {i : Int32} {σ : xS} (h : wI t σ p) (ht : t < 700) (q1 : xn (i + 1) n = true) (q2 : xn (i + 2) n = true) (q3 : xn (i + 3) n = true) (q4 : xn (i + 4) n = true) (τ : xT) : ∃ σ' τ' p', gL_10 n xs p i σ τ = some (σ', τ', p') ∧ wI (t + 1) σ' p' := by
  unfold gL_10
  rw [q1, cond_true]
  obtain ⟨c, s, τ', v, s', e1, e2, e3, e4, e5, e6⟩ := op10 h.1 (xs (Int32.toNatClampNeg (i + 1))) τ
  rw [e1]
  dsimp only
  rw [e2]
  dsimp only
  rw [g149_eq]
  dsimp only
  rw [if_pos e3]
  by_cases c0 : c = 0
  · rw [if_pos c0, e4 c0, lg_self, if_pos x0p]
    exact ⟨s', τ', p, rfl, e5, wJ_wFr h.2.2 h.2.1 e6, h.2.2⟩
  · rw [if_neg c0]
    exact ⟨s', τ', p, rfl, e5, wJ_wFr h.2.2 h.2.1 e6, h.2.2⟩
theorem gL_11_I {n p t : Nat} {xs : Nat → Int32} {i : Int32} {σ : xS} (h : wI t σ p) (ht : t < 700) (q1 : xn (i + 1) n = true) (q2 : xn (i + 2) n = true) (q3 : xn (i + 3) n = true) (q4 : xn (i + 4) n = true) (τ : xT) : ∃ σ' τ' p', gL_11 n xs p i σ τ = some (σ', τ', p') ∧ wI (t + 1) σ' p' := by
  unfold gL_11
  rw [q1, cond_true, q2, cond_true, q3, cond_true, q4, cond_true]
  by_cases z : (xs (Int32.toNatClampNeg (i + 4))) = 0
  · rw [if_pos z]
    obtain ⟨c, s, τ', v, s', e1, e2, e3, e5, e6⟩ := op11 h.1 (xs (Int32.toNatClampNeg (i + 1))) (xs (Int32.toNatClampNeg (i + 2))) (xs (Int32.toNatClampNeg (i + 3))) 0 τ
    rw [e1]
    dsimp only
    rw [e2]
    dsimp only
    rw [g149_eq]
    dsimp only
    rw [if_pos e3]
    exact ⟨s', τ', p, rfl, e5, wJ_wFr h.2.2 h.2.1 e6, h.2.2⟩
  · rw [if_neg z]
    obtain ⟨c, s, τ', v, s', e1, e2, e3, e5, e6⟩ := op11 h.1 (xs (Int32.toNatClampNeg (i + 1))) (xs (Int32.toNatClampNeg (i + 2))) (xs (Int32.toNatClampNeg (i + 3))) 1 τ
    rw [e1]
    dsimp only
    rw [e2]
    dsimp only
    rw [g149_eq]
    dsimp only
    rw [if_pos e3]
    exact ⟨s', τ', p, rfl, e5, wJ_wFr h.2.2 h.2.1 e6, h.2.2⟩
theorem gL_12_I {n p t : Nat} {xs : Nat → Int32} {i : Int32} {σ : xS} (h : wI t σ p) (ht : t < 700) (q1 : xn (i + 1) n = true) (q2 : xn (i + 2) n = true) (q3 : xn (i + 3) n = true) (q4 : xn (i + 4) n = true) (τ : xT) : ∃ σ' τ' p', gL_12 n xs p i σ τ = some (σ', τ', p') ∧ wI (t + 1) σ' p' := by
  unfold gL_12
  rw [q1, cond_true, q2, cond_true, q3, cond_true]
  obtain ⟨c, s, τ', v, s', e1, e2, e3, e4, e5, e6⟩ := op12 h.1 (((Int32.toInt64 (xs (Int32.toNatClampNeg (i + 1)))) <<< (Int32.toInt64 32 &&& 63)) ||| ((Int32.toInt64 (xs (Int32.toNatClampNeg (i + 2)))) &&& 4294967295)) (xs (Int32.toNatClampNeg (i + 3))) τ
  rw [e1]
  dsimp only
  rw [e2]
  dsimp only
  rw [g149_eq]
  dsimp only
  rw [if_pos e3]
  by_cases c0 : c = 0
  · rw [if_pos c0, e4 c0, lg_self, if_pos x0p]
    exact ⟨s', τ', p, rfl, e5, wJ_wFr h.2.2 h.2.1 e6, h.2.2⟩
  · rw [if_neg c0]
    exact ⟨s', τ', p, rfl, e5, wJ_wFr h.2.2 h.2.1 e6, h.2.2⟩
theorem gL_13_I {n p t : Nat} {xs : Nat → Int32} {i : Int32} {σ : xS} (h : wI t σ p) (ht : t < 700) (q1 : xn (i + 1) n = true) (q2 : xn (i + 2) n = true) (q3 : xn (i + 3) n = true) (q4 : xn (i + 4) n = true) (τ : xT) : ∃ σ' τ' p', gL_13 n xs p i σ τ = some (σ', τ', p') ∧ wI (t + 1) σ' p' := by
  unfold gL_13
  obtain ⟨c, s, τ', p', v, s', e1, e2, e3, e4, e5⟩ := op13 h τ
  rw [e1]
  dsimp only
  rw [e2]
  dsimp only
  rw [g149_eq]
  dsimp only
  rw [if_pos e3]
  by_cases c0 : c = 0
  · rw [if_pos c0, e4 c0, lg_self, if_pos x0p]
    exact ⟨s', τ', p', rfl, e5⟩
  · rw [if_neg c0]
    exact ⟨s', τ', p', rfl, e5⟩
theorem gL_14_I {n p t : Nat} {xs : Nat → Int32} {i : Int32} {σ : xS} (h : wI t σ p) (ht : t < 700) (q1 : xn (i + 1) n = true) (q2 : xn (i + 2) n = true) (q3 : xn (i + 3) n = true) (q4 : xn (i + 4) n = true) (τ : xT) : ∃ σ' τ' p', gL_14 n xs p i σ τ = some (σ', τ', p') ∧ wI (t + 1) σ' p' := by
  unfold gL_14 g13 g188
  dsimp only
  rw [xu_n (show ¬ 20 = 21 by decide), if_pos (show σ 0 8 = σ 53 20 from h.1.2.2.2.2.2.2.1)]
  exact ⟨_, τ, p, rfl, wI_say h 0⟩
theorem gL_15_I {n p t : Nat} {xs : Nat → Int32} {i : Int32} {σ : xS} (h : wI t σ p) (ht : t < 700) (q1 : xn (i + 1) n = true) (q2 : xn (i + 2) n = true) (q3 : xn (i + 3) n = true) (q4 : xn (i + 4) n = true) (τ : xT) : ∃ σ' τ' p', gL_15 n xs p i σ τ = some (σ', τ', p') ∧ wI (t + 1) σ' p' := by
  unfold gL_15
  rw [q1, cond_true, q2, cond_true, q3, cond_true, q4, cond_true]
  obtain ⟨c, s, τ', v, s', e1, e2, e3, e4, e5⟩ := op15 h (xs (Int32.toNatClampNeg (i + 1))) (xs (Int32.toNatClampNeg (i + 2))) (xs (Int32.toNatClampNeg (i + 3))) (xs (Int32.toNatClampNeg (i + 4))) τ
  rw [e1]
  dsimp only
  rw [e2]
  dsimp only
  rw [g149_eq]
  dsimp only
  rw [if_pos e3]
  by_cases c0 : c = 0
  · rw [if_pos c0, e4 c0, lg_self, if_pos x0p]
    exact ⟨s', τ', p, rfl, e5⟩
  · rw [if_neg c0]
    exact ⟨s', τ', p, rfl, e5⟩
theorem gL_16_I {n p t : Nat} {xs : Nat → Int32} {i : Int32} {σ : xS} (h : wI t σ p) (ht : t < 700) (q1 : xn (i + 1) n = true) (q2 : xn (i + 2) n = true) (q3 : xn (i + 3) n = true) (q4 : xn (i + 4) n = true) (τ : xT) : ∃ σ' τ' p', gL_16 n xs p i σ τ = some (σ', τ', p') ∧ wI (t + 1) σ' p' := by
  unfold gL_16
  rw [q1, cond_true, q2, cond_true, q3, cond_true, q4, cond_true]
  obtain ⟨c, s, τ', v, s', e1, e2, e3, e4, e5⟩ := op16 h ht (xs (Int32.toNatClampNeg (i + 1))) (xs (Int32.toNatClampNeg (i + 2))) (xs (Int32.toNatClampNeg (i + 3))) (xs (Int32.toNatClampNeg (i + 4))) τ
  rw [e1]
  dsimp only
  rw [e2]
  dsimp only
  rw [g149_eq]
  dsimp only
  rw [if_pos e3]
  by_cases c0 : c = 0
  · rw [if_pos c0, e4 c0, lg_self, if_pos x0p]
    exact ⟨s', τ', p, rfl, e5⟩
  · rw [if_neg c0]
    exact ⟨s', τ', p, rfl, e5⟩
theorem gL_17_I {n p t : Nat} {xs : Nat → Int32} {i : Int32} {σ : xS} (h : wI t σ p) (ht : t < 700) (q1 : xn (i + 1) n = true) (q2 : xn (i + 2) n = true) (q3 : xn (i + 3) n = true) (q4 : xn (i + 4) n = true) (τ : xT) : ∃ σ' τ' p', gL_17 n xs p i σ τ = some (σ', τ', p') ∧ wI (t + 1) σ' p' := by
  unfold gL_17
  rw [q1, cond_true, q2, cond_true]
  obtain ⟨c, s, τ', v, s', e1, e2, e3, e4, e5, e6⟩ := op17 h.1 ht (xs (Int32.toNatClampNeg (i + 1))) (xs (Int32.toNatClampNeg (i + 2))) τ
  rw [e1]
  dsimp only
  rw [e2]
  dsimp only
  rw [g149_eq]
  dsimp only
  rw [if_pos e3]
  by_cases c0 : c = 0
  · rw [if_pos c0, e4 c0, lg_self, if_pos x0p]
    exact ⟨s', τ', p, rfl, e5, wJ_wFr h.2.2 h.2.1 e6, h.2.2⟩
  · rw [if_neg c0]
    exact ⟨s', τ', p, rfl, e5, wJ_wFr h.2.2 h.2.1 e6, h.2.2⟩
theorem gL_18_I {n p t : Nat} {xs : Nat → Int32} {i : Int32} {σ : xS} (h : wI t σ p) (ht : t < 700) (q1 : xn (i + 1) n = true) (q2 : xn (i + 2) n = true) (q3 : xn (i + 3) n = true) (q4 : xn (i + 4) n = true) (τ : xT) : ∃ σ' τ' p', gL_18 n xs p i σ τ = some (σ', τ', p') ∧ wI (t + 1) σ' p' := by
  unfold gL_18
  rw [q1, cond_true, q2, cond_true, q3, cond_true]
  obtain ⟨c, s, τ', v, s', e1, e2, e3, e5, e6⟩ := op18 h.1 ht (xs (Int32.toNatClampNeg (i + 1))) (xs (Int32.toNatClampNeg (i + 2))) (xs (Int32.toNatClampNeg (i + 3))) τ
  rw [e1]
  dsimp only
  rw [e2]
  dsimp only
  rw [g149_eq]
  dsimp only
  rw [if_pos e3]
  exact ⟨s', τ', p, rfl, e5, wJ_wFr h.2.2 h.2.1 e6, h.2.2⟩
theorem gL_19_I {n p t : Nat} {xs : Nat → Int32} {i : Int32} {σ : xS} (h : wI t σ p) (ht : t < 700) (q1 : xn (i + 1) n = true) (q2 : xn (i + 2) n = true) (q3 : xn (i + 3) n = true) (q4 : xn (i + 4) n = true) (τ : xT) : ∃ σ' τ' p', gL_19 n xs p i σ τ = some (σ', τ', p') ∧ wI (t + 1) σ' p' := by
  unfold gL_19
  obtain ⟨v, e1, e2⟩ := op19 h.1 ht
  rw [e1]
  dsimp only
  rw [e2]
  dsimp only
  rw [if_pos rfl]
  exact ⟨_, τ, p, rfl, wI_say h 0⟩
theorem gL_I {n p t : Nat} {xs : Nat → Int32} {σ : xS} (hn : n ≤ 2560) (hi : 5 * t + 5 ≤ n) (h : wI t σ p) (τ : xT) : ∃ σ' τ' p', gL n xs p (Int32.ofNat (5 * t)) σ τ = some (σ', τ', p') ∧ wI (t + 1) σ' p' := by
  have ht : t < 700 := by omega
  have q0 : xn (Int32.ofNat (5 * t)) n = true := xn_of (by omega) (by omega)
  have q1 : xn (Int32.ofNat (5 * t) + 1) n = true := by rw [x_succ]; exact xn_of (by omega) (by omega)
  have q2 : xn (Int32.ofNat (5 * t) + 2) n = true := by rw [xa2]; exact xn_of (by omega) (by omega)
  have q3 : xn (Int32.ofNat (5 * t) + 3) n = true := by rw [xa3]; exact xn_of (by omega) (by omega)
  have q4 : xn (Int32.ofNat (5 * t) + 4) n = true := by rw [xa4]; exact xn_of (by omega) (by omega)
  unfold gL
  rw [q0, cond_true]
  generalize xs (Int32.toNatClampNeg (Int32.ofNat (5 * t))) &&& 31 = k
  by_cases k0 : k = 0
  · rw [if_pos k0]; exact gL_0_I h ht q1 q2 q3 q4 τ
  rw [if_neg k0]
  by_cases k1 : k = 1
  · rw [if_pos k1]; exact gL_1_I h ht q1 q2 q3 q4 τ
  rw [if_neg k1]
  by_cases k2 : k = 2
  · rw [if_pos k2]; exact gL_2_I h ht q1 q2 q3 q4 τ
  rw [if_neg k2]
  by_cases k3 : k = 3
  · rw [if_pos k3]; exact gL_3_I h ht q1 q2 q3 q4 τ
  rw [if_neg k3]
  by_cases k4 : k = 4
  · rw [if_pos k4]; exact gL_4_I h ht q1 q2 q3 q4 τ
  rw [if_neg k4]
  by_cases k5 : k = 5
  · rw [if_pos k5]; exact gL_5_I h ht q1 q2 q3 q4 τ
  rw [if_neg k5]
  by_cases k6 : k = 6
  · rw [if_pos k6]; exact gL_6_I h ht q1 q2 q3 q4 τ
  rw [if_neg k6]
  by_cases k7 : k = 7
  · rw [if_pos k7]; exact gL_7_I h ht q1 q2 q3 q4 τ
  rw [if_neg k7]
  by_cases k8 : k = 8
  · rw [if_pos k8]; exact gL_8_I h ht q1 q2 q3 q4 τ
  rw [if_neg k8]
  by_cases k9 : k = 9
  · rw [if_pos k9]; exact gL_9_I h ht q1 q2 q3 q4 τ
  rw [if_neg k9]
  by_cases k10 : k = 10
  · rw [if_pos k10]; exact gL_10_I h ht q1 q2 q3 q4 τ
  rw [if_neg k10]
  by_cases k11 : k = 11
  · rw [if_pos k11]; exact gL_11_I h ht q1 q2 q3 q4 τ
  rw [if_neg k11]
  by_cases k12 : k = 12
  · rw [if_pos k12]; exact gL_12_I h ht q1 q2 q3 q4 τ
  rw [if_neg k12]
  by_cases k13 : k = 13
  · rw [if_pos k13]; exact gL_13_I h ht q1 q2 q3 q4 τ
  rw [if_neg k13]
  by_cases k14 : k = 14
  · rw [if_pos k14]; exact gL_14_I h ht q1 q2 q3 q4 τ
  rw [if_neg k14]
  by_cases k15 : k = 15
  · rw [if_pos k15]; exact gL_15_I h ht q1 q2 q3 q4 τ
  rw [if_neg k15]
  by_cases k16 : k = 16
  · rw [if_pos k16]; exact gL_16_I h ht q1 q2 q3 q4 τ
  rw [if_neg k16]
  by_cases k17 : k = 17
  · rw [if_pos k17]; exact gL_17_I h ht q1 q2 q3 q4 τ
  rw [if_neg k17]
  by_cases k18 : k = 18
  · rw [if_pos k18]; exact gL_18_I h ht q1 q2 q3 q4 τ
  rw [if_neg k18]
  by_cases k19 : k = 19
  · rw [if_pos k19]; exact gL_19_I h ht q1 q2 q3 q4 τ
  rw [if_neg k19]
  exact ⟨σ, τ, p, rfl, wI_s h⟩
