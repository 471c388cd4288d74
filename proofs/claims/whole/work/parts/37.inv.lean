/-! what holds between class and reference at the head of the law's loop (the plan in force aside) -/
theorem xu_s (σ : xS) (a i : Nat) (v : Int32) : xh_ui σ a i v a i = v := by
  unfold xh_ui upd; rw [if_pos rfl, if_pos rfl]
theorem xu_n {σ : xS} {a i j : Nat} {v : Int32} (h : ¬ j = i) : xh_ui σ a i v a j = σ a j := by
  unfold xh_ui upd; rw [if_pos rfl, if_neg h]
theorem xu_o {σ : xS} {a b i : Nat} {v : Int32} (h : ¬ b = a) : xh_ui σ a i v b = σ b := by
  unfold xh_ui; rw [if_neg h]
theorem xu_a (σ : xS) (a i : Nat) (v : Int32) : xh_ui σ a i v a = upd (σ a) i v := by
  unfold xh_ui; rw [if_pos rfl]
def wKA (σ : xS) : Prop := σ 2 = σ 54 ∧ ∀ i, i < 12 → wM (σ 2 i)
def wKB (σ : xS) : Prop := σ 4 = σ 55 ∧ (∀ i, i < 8 → wM (σ 4 i)) ∧ σ 5 = σ 56 ∧ σ 6 = σ 57 ∧ ∀ i, i < 8 → σ 6 i = 0 ∨ σ 6 i = 1
def wKC (σ : xS) : Prop := ∀ i, i < 6 → (σ 58 i = 0 ∧ σ 8 i = -1 ∧ σ 9 i = 0) ∨ (σ 58 i = 1 ∧ σ 9 i = σ 60 i ∧ wM (σ 9 i) ∧ σ 10 i = σ 61 i ∧ ∃ u, u < 8 ∧ σ 8 i = Int32.ofNat u ∧ σ 59 i = Int32.ofNat u)
def wKD (σ : xS) : Prop := ∃ n, n ≤ 6 ∧ σ 11 3 = Int32.ofNat n ∧ σ 53 8 = Int32.ofNat n ∧ ∀ i, i < n → σ 12 i = σ 62 i ∧ σ 13 i = σ 63 i ∧ wM (σ 13 i) ∧ σ 14 i = σ 64 i ∧ 0 < σ 14 i
def wKE (σ : xS) : Prop := σ 16 = σ 65 ∧ σ 17 = σ 66 ∧ σ 18 = σ 67 ∧ (∀ i, i < 16 → σ 18 i = 0 ∨ σ 18 i = 1) ∧ σ 19 = σ 68
def wKF (σ : xS) : Prop := σ 22 = σ 69 ∧ (∀ i, ∃ k, k < 256 ∧ σ 22 i = Int32.ofNat k) ∧ ∃ n, n ≤ 300 ∧ σ 21 1 = Int32.ofNat n ∧ σ 53 17 = Int32.ofNat n
def wKG (σ : xS) : Prop := σ 0 8 = σ 53 20
def wKH (t : Nat) (σ : xS) : Prop := σ 52 = σ 91 ∧ σ 51 2 = σ 53 52 ∧ ∃ n, n ≤ t ∧ σ 51 1 = Int32.ofNat n ∧ σ 53 51 = Int32.ofNat n ∧ σ 51 3 = if n = 0 then σ 53 52 else σ 91 (7 * ((n - 1) % 40) + 6)
def wK (t : Nat) (σ : xS) : Prop := wKA σ ∧ wKB σ ∧ wKC σ ∧ wKD σ ∧ wKE σ ∧ wKF σ ∧ wKG σ ∧ wKH t σ
theorem wKH_s {t : Nat} {σ : xS} (h : wKH t σ) : wKH (t + 1) σ := by
  obtain ⟨a, b, n, c, d⟩ := h
  exact ⟨a, b, n, Nat.le_succ_of_le c, d⟩
/-- the cells of the plans, and of the reference's rows of policies, stand -/
def wFr (σ σ' : xS) : Prop := ∀ c, (23 ≤ c ∧ c ≤ 46) ∨ (70 ≤ c ∧ c ≤ 84) → σ' c = σ c
theorem wFr_refl (σ : xS) : wFr σ σ := fun _ _ => rfl
theorem wFr_ui {σ σ' : xS} {a i : Nat} {v : Int32} (h : wFr σ σ') (ha : a < 23 ∨ (46 < a ∧ a < 70) ∨ 84 < a) : wFr σ (xh_ui σ' a i v) := fun c hc => by
  rw [xu_o (by omega)]; exact h c hc
theorem wFr_trans {σ σ' σ'' : xS} (h : wFr σ σ') (h' : wFr σ' σ'') : wFr σ σ'' := fun c hc => (h' c hc).trans (h c hc)
/-- a call: the class by its helper, then the reference; both say the same -/
def wOp (g : xS → xT → Option (Int32 × xS × xT)) (r : xS → xO) (t : Nat) (σ : xS) (τ : xT) : Prop := ∃ c s τ' v s', g σ τ = some (c, s, τ') ∧ r s = some (.inl v, s') ∧ s' 53 21 = c ∧ (c = 0 → τ' 92 0 = Int32.toInt64 v) ∧ wK (t + 1) s' ∧ wFr σ s'
def wOv (g : xS → xT → Option (Int32 × xS × xT)) (r : xS → xO) (t : Nat) (σ : xS) (τ : xT) : Prop := ∃ c s τ' v s', g σ τ = some (c, s, τ') ∧ r s = some (.inl v, s') ∧ s' 53 21 = c ∧ wK (t + 1) s' ∧ wFr σ s'
/-- the reference says what it throws, and nothing else changes -/
theorem wK_say {t : Nat} {σ : xS} (h : wK t σ) (v : Int32) : wK (t + 1) (xh_ui σ 53 21 v) := by
  obtain ⟨hA, hB, hC, hD, hE, hF, hG, hH⟩ := h
  exact ⟨hA, hB, hC, hD, hE, hF, hG, wKH_s hH⟩
theorem wFr_say (σ : xS) (v : Int32) : wFr σ (xh_ui σ 53 21 v) := wFr_ui (wFr_refl σ) (by decide)
theorem g26_0 (σ : xS) : g26 0 σ = some (.inr 0, σ) := rfl
theorem g26_1 (σ : xS) : g26 1 σ = some (.inl 0, σ) := rfl
theorem g31_0 (σ : xS) : g31 0 σ = some (.inr 1, σ) := rfl
theorem g31_1 (σ : xS) : g31 1 σ = some (.inl 0, σ) := rfl
theorem xb_t : xb true = 1 := rfl
theorem xb_f : xb false = 0 := rfl
theorem x10 : (1 : Int32) = 0 ↔ False := by decide
theorem x20 : (2 : Int32) = 0 ↔ False := by decide
theorem x00 : (0 : Int32) = 0 ↔ True := by decide
theorem n10 : (1 : Nat) = 0 ↔ False := by decide
theorem n00 : (0 : Nat) = 0 ↔ True := by decide
theorem n11 : (1 : Nat) = 1 ↔ True := by decide
theorem n30 : (3 : Nat) = 0 ↔ False := by decide
theorem n33 : (3 : Nat) = 3 ↔ True := by decide
theorem vpn1 : vp_nar .boolean 1 = 1 := by decide
theorem vpn0 : vp_nar .boolean 0 = 0 := by decide
theorem q54 (s : xS) (k : Nat) (v : Int32) : xh_ui s 53 k v 54 = s 54 := rfl
theorem q55 (s : xS) (k : Nat) (v : Int32) : xh_ui s 53 k v 55 = s 55 := rfl
theorem q58 (s : xS) (k : Nat) (v : Int32) : xh_ui s 53 k v 58 = s 58 := rfl
theorem q59 (s : xS) (k : Nat) (v : Int32) : xh_ui s 53 k v 59 = s 59 := rfl
theorem q60 (s : xS) (k : Nat) (v : Int32) : xh_ui s 53 k v 60 = s 60 := rfl
/-- rank -/
theorem op5 {t : Nat} {σ : xS} (h : wK t σ) (a b c : Int32) (τ : xT) : wOv (g58 a b c) (g162 a b c) t σ τ := by
  by_cases ha : 0 ≤ a ∧ a < 8
  · obtain ⟨i, hi, rfl⟩ := x_below (by decide) ha.1 ha.2
    obtain ⟨h1, h2, h3, h4⟩ := x8 i hi
    obtain ⟨hA, ⟨b1, b2, b3, b4, b5⟩, hC, hD, hE, hF, hG, hH⟩ := h
    by_cases hc : c = 0
    · refine ⟨0, xh_ui (xh_ui σ 5 i b) 6 i 1, τ, 0, xh_ui (xh_ui (xh_ui (xh_ui (xh_ui σ 5 i b) 6 i 1) 53 21 0) 57 i 1) 56 i b, ?_, ?_, rfl, ⟨hA, ⟨b1, b2, ?_, ?_, ?_⟩, hC, hD, hE, hF, hG, wKH_s hH⟩, ?_⟩
      · simp only [g58, g59, g47_eq, decide_eq_true ha, xb_t, g26_1, if_pos hc, g59_22, g60, h2, h3, cond_true, vpn1]
      · simp only [g162, g152_eq, decide_eq_true ha, xb_t, x10, if_false, g162_15, xu_s, x00, if_true, if_pos hc, g162_40, h2, h3, cond_true, vpn1]
      · show upd (σ 5) i b = upd (σ 56) i b; rw [b3]
      · show upd (σ 6) i 1 = upd (σ 57) i 1; rw [b4]
      · intro j hj
        show upd (σ 6) i 1 j = 0 ∨ upd (σ 6) i 1 j = 1
        unfold upd
        by_cases q : j = i
        · rw [if_pos q]; exact Or.inr rfl
        · rw [if_neg q]; exact b5 j hj
      · exact wFr_ui (wFr_ui (wFr_ui (wFr_ui (wFr_ui (wFr_refl σ) (by decide)) (by decide)) (by decide)) (by decide)) (by decide)
    · refine ⟨0, xh_ui (xh_ui σ 5 i b) 6 i 0, τ, 0, xh_ui (xh_ui (xh_ui (xh_ui (xh_ui σ 5 i b) 6 i 0) 53 21 0) 57 i 0) 56 i b, ?_, ?_, rfl, ⟨hA, ⟨b1, b2, ?_, ?_, ?_⟩, hC, hD, hE, hF, hG, wKH_s hH⟩, ?_⟩
      · simp only [g58, g59, g47_eq, decide_eq_true ha, xb_t, g26_1, if_neg hc, g59_22, g60, h2, h3, cond_true, vpn0]
      · simp only [g162, g152_eq, decide_eq_true ha, xb_t, x10, if_false, g162_15, xu_s, x00, if_true, if_neg hc, g162_40, h2, h3, cond_true, vpn0]
      · show upd (σ 5) i b = upd (σ 56) i b; rw [b3]
      · show upd (σ 6) i 0 = upd (σ 57) i 0; rw [b4]
      · intro j hj
        show upd (σ 6) i 0 j = 0 ∨ upd (σ 6) i 0 j = 1
        unfold upd
        by_cases q : j = i
        · rw [if_pos q]; exact Or.inl rfl
        · rw [if_neg q]; exact b5 j hj
      · exact wFr_ui (wFr_ui (wFr_ui (wFr_ui (wFr_ui (wFr_refl σ) (by decide)) (by decide)) (by decide)) (by decide)) (by decide)
  · refine ⟨1, σ, τ, 0, xh_ui σ 53 21 1, ?_, ?_, rfl, wK_say h 1, wFr_say σ 1⟩
    · simp only [g58, g59, g47_eq, decide_eq_false ha, xb_f, g26_0, n00, if_true]
    · simp only [g162, g152_eq, decide_eq_false ha, xb_f, x00, if_true, g162_15, xu_s, x10, if_false]
theorem upd_s (f : Nat → Int32) (i : Nat) (v : Int32) : upd f i v i = v := by unfold upd; rw [if_pos rfl]
theorem upd_n {f : Nat → Int32} {i j : Nat} {v : Int32} (h : ¬ j = i) : upd f i v j = f j := by unfold upd; rw [if_neg h]
theorem xo_ne : ∀ u, u < 8 → ¬ Int32.ofNat u = -1 := by decide
theorem x16 : ∀ i, i < 16 → xn (Int32.ofNat i) 16 = true ∧ (Int32.ofNat i).toNatClampNeg = i := by decide
/-- open -/
theorem op6 {t : Nat} {σ : xS} (h : wK t σ) (a b : Int32) (τ : xT) : wOv (g61 a b) (g163 a b) t σ τ := by
  by_cases ha : 0 ≤ a ∧ a < 6
  · by_cases hb : 0 ≤ b ∧ b < 8
    · obtain ⟨i, hi, rfl⟩ := x_below (by decide) ha.1 ha.2
      obtain ⟨u, hu, rfl⟩ := x_below (by decide) hb.1 hb.2
      obtain ⟨h1, h2, h3, h4⟩ := x6 i hi
      rcases h.2.2.1 i hi with ⟨c1, c2, c3⟩ | ⟨c1, c2, c3, c4, w, c5, c6, c7⟩
      · obtain ⟨hA, hB, hC, hD, hE, hF, hG, hH⟩ := h
        refine ⟨0, xh_ui (xh_ui σ 8 i (Int32.ofNat u)) 10 i 0, τ, 0, xh_ui (xh_ui (xh_ui (xh_ui (xh_ui (xh_ui (xh_ui σ 8 i (Int32.ofNat u)) 10 i 0) 53 21 0) 58 i 1) 59 i (Int32.ofNat u)) 60 i 0) 61 i 0, ?_, ?_, rfl, ⟨hA, hB, ?_, hD, hE, hF, hG, wKH_s hH⟩, ?_⟩
        · simp only [g61, g62, g63_eq, decide_eq_true ha, xb_t, x10, if_false, g47_eq, decide_eq_true hb, g62_19, g26_1, g44, h2, cond_true, h3, c2, if_true, x00, g62_38, g31_1, g64]
        · have c1' : xh_ui (xh_ui σ 8 i (Int32.ofNat u)) 10 i 0 58 i = 0 := c1
          generalize xh_ui (xh_ui σ 8 i (Int32.ofNat u)) 10 i 0 = s at c1' ⊢
          simp only [g163, g152_eq, decide_eq_true ha, xb_t, x10, if_false, decide_eq_true hb, h2, cond_true, h3, c1', x00, if_true, g163_37, xu_s, vpn1]
        · intro j hj
          show (upd (σ 58) i 1 j = 0 ∧ upd (σ 8) i (Int32.ofNat u) j = -1 ∧ σ 9 j = 0) ∨ (upd (σ 58) i 1 j = 1 ∧ σ 9 j = upd (σ 60) i 0 j ∧ wM (σ 9 j) ∧ upd (σ 10) i 0 j = upd (σ 61) i 0 j ∧ ∃ w, w < 8 ∧ upd (σ 8) i (Int32.ofNat u) j = Int32.ofNat w ∧ upd (σ 59) i (Int32.ofNat u) j = Int32.ofNat w)
          by_cases q : j = i
          · subst q
            simp only [upd_s]
            exact Or.inr ⟨trivial, c3, by rw [c3]; exact wM_0, trivial, u, hu, rfl, rfl⟩
          · simp only [upd_n q]
            exact hC j hj
        · exact wFr_ui (wFr_ui (wFr_ui (wFr_ui (wFr_ui (wFr_ui (wFr_ui (wFr_refl σ) (by decide)) (by decide)) (by decide)) (by decide)) (by decide)) (by decide)) (by decide)
      · refine ⟨2, σ, τ, 0, xh_ui σ 53 21 2, ?_, ?_, rfl, wK_say h 2, wFr_say σ 2⟩
        · simp only [g61, g62, g63_eq, decide_eq_true ha, xb_t, x10, if_false, g47_eq, decide_eq_true hb, g62_19, g26_1, g44, h2, cond_true, h3, c6, xo_ne w c5, g62_38, g31_0, n10, n11, if_true]
        · simp only [g163, g152_eq, decide_eq_true ha, xb_t, x10, if_false, decide_eq_true hb, h2, cond_true, h3, c1, g163_37, xu_s, x20]
    · refine ⟨1, σ, τ, 0, xh_ui σ 53 21 1, ?_, ?_, rfl, wK_say h 1, wFr_say σ 1⟩
      · simp only [g61, g62, g63_eq, decide_eq_true ha, xb_t, x10, if_false, g47_eq, decide_eq_false hb, xb_f, x00, if_true, g62_18, g62_19, g26_0, n00]
      · simp only [g163, g152_eq, decide_eq_true ha, xb_t, x10, if_false, decide_eq_false hb, xb_f, x00, if_true, g163_19, g163_37, xu_s]
  · refine ⟨1, σ, τ, 0, xh_ui σ 53 21 1, ?_, ?_, rfl, wK_say h 1, wFr_say σ 1⟩
    · simp only [g61, g62, g63_eq, decide_eq_false ha, xb_f, x00, if_true, g62_18, g62_19, g26_0, n00]
    · simp only [g163, g152_eq, decide_eq_false ha, xb_f, x00, if_true, g163_19, g163_37, xu_s, x10, if_false]
/-- close -/
theorem op7 {t : Nat} {σ : xS} (h : wK t σ) (a : Int32) (τ : xT) : wOv (g65 a) (g164 a) t σ τ := by
  by_cases ha : 0 ≤ a ∧ a < 6
  · obtain ⟨i, hi, rfl⟩ := x_below (by decide) ha.1 ha.2
    obtain ⟨h1, h2, h3, h4⟩ := x6 i hi
    rcases h.2.2.1 i hi with ⟨c1, c2, c3⟩ | ⟨c1, c2, c3, c4, w, c5, c6, c7⟩
    · refine ⟨2, σ, τ, 0, xh_ui σ 53 21 2, ?_, ?_, rfl, wK_say h 2, wFr_say σ 2⟩
      · simp only [g65, g66, g63_eq, decide_eq_true ha, xb_t, g26_1, g44, h2, cond_true, h3, c2, if_true, g31_0, n10, if_false, n11]
      · simp only [g164, g152_eq, decide_eq_true ha, xb_t, x10, if_false, h2, cond_true, h3, c1, x00, if_true, g164_28, xu_s, x20]
    · obtain ⟨hA, hB, hC, hD, hE, hF, hG, hH⟩ := h
      refine ⟨0, xh_ui (xh_ui σ 8 i (-1)) 9 i 0, τ, 0, xh_ui (xh_ui (xh_ui (xh_ui σ 8 i (-1)) 9 i 0) 53 21 0) 58 i 0, ?_, ?_, rfl, ⟨hA, hB, ?_, hD, hE, hF, hG, wKH_s hH⟩, ?_⟩
      · simp only [g65, g66, g63_eq, decide_eq_true ha, xb_t, g26_1, g44, h2, cond_true, h3, c6, xo_ne w c5, if_false, g31_1, g67]
      · have c1' : xh_ui (xh_ui σ 8 i (-1)) 9 i 0 58 i = 1 := c1
        generalize xh_ui (xh_ui σ 8 i (-1)) 9 i 0 = s at c1' ⊢
        simp only [g164, g152_eq, decide_eq_true ha, xb_t, x10, if_false, h2, cond_true, h3, c1', x00, if_true, g164_28, xu_s, vpn0]
      · intro j hj
        show (upd (σ 58) i 0 j = 0 ∧ upd (σ 8) i (-1) j = -1 ∧ upd (σ 9) i 0 j = 0) ∨ (upd (σ 58) i 0 j = 1 ∧ upd (σ 9) i 0 j = σ 60 j ∧ wM (upd (σ 9) i 0 j) ∧ σ 10 j = σ 61 j ∧ ∃ w, w < 8 ∧ upd (σ 8) i (-1) j = Int32.ofNat w ∧ σ 59 j = Int32.ofNat w)
        by_cases q : j = i
        · subst q
          simp only [upd_s]
          exact Or.inl ⟨trivial, trivial, trivial⟩
        · simp only [upd_n q]
          exact hC j hj
      · exact wFr_ui (wFr_ui (wFr_ui (wFr_ui (wFr_refl σ) (by decide)) (by decide)) (by decide)) (by decide)
  · refine ⟨1, σ, τ, 0, xh_ui σ 53 21 1, ?_, ?_, rfl, wK_say h 1, wFr_say σ 1⟩
    · simp only [g65, g66, g63_eq, decide_eq_false ha, xb_f, g26_0, n00, if_true]
    · simp only [g164, g152_eq, decide_eq_false ha, xb_f, x00, if_true, g164_28, xu_s, x10, if_false]
/-- holds -/
theorem op9 {t : Nat} {σ : xS} (h : wK t σ) (a : Int32) (τ : xT) : wOp (g74 a) (g166 a) t σ τ := by
  by_cases ha : 0 ≤ a ∧ a < 6
  · obtain ⟨i, hi, rfl⟩ := x_below (by decide) ha.1 ha.2
    obtain ⟨h1, h2, h3, h4⟩ := x6 i hi
    rcases h.2.2.1 i hi with ⟨c1, c2, c3⟩ | ⟨c1, c2, c3, c4, w, c5, c6, c7⟩
    · refine ⟨0, σ, xh_ul τ 92 0 (Int32.toInt64 (-1)), -1, xh_ui σ 53 21 0, ?_, ?_, rfl, fun _ => rfl, wK_say h 0, wFr_say σ 0⟩
      · simp only [g74, g75, g63_eq, decide_eq_true ha, xb_t, g26_1, g44, h2, cond_true, h3, c2, if_true, x00]
      · have c1' : xh_ui σ 53 21 0 58 i = 0 := c1
        simp only [g166, g152_eq, decide_eq_true ha, xb_t, x10, if_false, g166_15, xu_s, x00, if_true, h2, cond_true, h3, c1']
    · refine ⟨0, σ, xh_ul τ 92 0 (Int32.toInt64 (wc (σ 54) (σ 60 i))), wc (σ 54) (σ 60 i), xh_ui σ 53 21 0, ?_, ?_, rfl, fun _ => rfl, wK_say h 0, wFr_say σ 0⟩
      · simp only [g74, g75, g63_eq, decide_eq_true ha, xb_t, g26_1, g44, h2, cond_true, h3, c6, xo_ne w c5, if_false, x10, g36_eq hi, wk_wc h.1.2 c3]
        rw [← h.1.1, ← c2]
      · have c1' : xh_ui σ 53 21 0 58 i = 1 := c1
        simp only [g166, g152_eq, decide_eq_true ha, xb_t, x10, if_false, g166_15, xu_s, x00, if_true, h2, cond_true, h3, c1', g153_eq]
        rfl
  · refine ⟨1, σ, τ, 0, xh_ui σ 53 21 1, ?_, ?_, rfl, fun q => absurd q (by decide), wK_say h 1, wFr_say σ 1⟩
    · simp only [g74, g75, g63_eq, decide_eq_false ha, xb_f, g26_0, n00, if_true]
    · simp only [g166, g152_eq, decide_eq_false ha, xb_f, x00, if_true, g166_15, xu_s, x10, if_false]
/-- authorized -/
theorem op10 {t : Nat} {σ : xS} (h : wK t σ) (a : Int32) (τ : xT) : wOp (g76 a) (g167 a) t σ τ := by
  by_cases ha : 0 ≤ a ∧ a < 8
  · obtain ⟨i, hi, rfl⟩ := x_below (by decide) ha.1 ha.2
    obtain ⟨h1, h2, h3, h4⟩ := x8 i hi
    refine ⟨0, σ, xh_ul τ 92 0 (Int32.toInt64 (wc (σ 54) (σ 55 i))), wc (σ 54) (σ 55 i), xh_ui σ 53 21 0, ?_, ?_, rfl, fun _ => rfl, wK_say h 0, wFr_say σ 0⟩
    · simp only [g76, g77, g47_eq, decide_eq_true ha, xb_t, g26_1, g39_eq hi, wk_wc h.1.2 (h.2.1.2.1 i hi)]
      rw [← h.1.1, ← h.2.1.1]
    · simp only [g167, g152_eq, decide_eq_true ha, xb_t, x10, if_false, g167_15, xu_s, x00, if_true, h2, cond_true, h3, g153_eq]
      rfl
  · refine ⟨1, σ, τ, 0, xh_ui σ 53 21 1, ?_, ?_, rfl, fun q => absurd q (by decide), wK_say h 1, wFr_say σ 1⟩
    · simp only [g76, g77, g47_eq, decide_eq_false ha, xb_f, g26_0, n00, if_true]
    · simp only [g167, g152_eq, decide_eq_false ha, xb_f, x00, if_true, g167_15, xu_s, x10, if_false]
/-- object -/
theorem op11 {t : Nat} {σ : xS} (h : wK t σ) (a b c e : Int32) (τ : xT) : wOv (g78 a b c e) (g168 a b c e) t σ τ := by
  by_cases ha : 0 ≤ a ∧ a < 16
  · by_cases hb : 0 ≤ b ∧ b < 10
    · obtain ⟨i, hi, rfl⟩ := x_below (by decide) ha.1 ha.2
      obtain ⟨h2, h3⟩ := x16 i hi
      obtain ⟨hA, hB, hC, hD, ⟨e1, e2, e3, e4, e5⟩, hF, hG, hH⟩ := h
      have key : ∀ v : Int32, v = 0 ∨ v = 1 → wK (t + 1) (xh_ui (xh_ui (xh_ui (xh_ui (xh_ui (xh_ui (xh_ui σ 16 i b) 17 i c) 18 i v) 53 21 0) 65 i b) 67 i v) 66 i c) := by
        intro v hv
        refine ⟨hA, hB, hC, hD, ⟨?_, ?_, ?_, ?_, e5⟩, hF, hG, wKH_s hH⟩
        · show upd (σ 16) i b = upd (σ 65) i b; rw [e1]
        · show upd (σ 17) i c = upd (σ 66) i c; rw [e2]
        · show upd (σ 18) i v = upd (σ 67) i v; rw [e3]
        · intro j hj
          show upd (σ 18) i v j = 0 ∨ upd (σ 18) i v j = 1
          by_cases q : j = i
          · subst q; simp only [upd_s]; exact hv
          · simp only [upd_n q]; exact e4 j hj
      have fr : ∀ v : Int32, wFr σ (xh_ui (xh_ui (xh_ui (xh_ui (xh_ui (xh_ui (xh_ui σ 16 i b) 17 i c) 18 i v) 53 21 0) 65 i b) 67 i v) 66 i c) := fun v => wFr_ui (wFr_ui (wFr_ui (wFr_ui (wFr_ui (wFr_ui (wFr_ui (wFr_refl σ) (by decide)) (by decide)) (by decide)) (by decide)) (by decide)) (by decide)) (by decide)
      by_cases he : e = 0
      · refine ⟨0, xh_ui (xh_ui (xh_ui σ 16 i b) 17 i c) 18 i 1, τ, 0, _, ?_, ?_, rfl, key 1 (Or.inr rfl), fr 1⟩
        · simp only [g78, g79, g80_eq, decide_eq_true ha, xb_t, x10, if_false, g25_eq, decide_eq_true hb, g79_21, g26_1, if_pos he, g79_41, g81, h2, cond_true, h3, vpn1]
        · simp only [g168, g152_eq, decide_eq_true ha, xb_t, x10, if_false, decide_eq_true hb, g168_24, xu_s, x00, if_true, h2, cond_true, h3, if_pos he, g168_57, vpn1]
      · refine ⟨0, xh_ui (xh_ui (xh_ui σ 16 i b) 17 i c) 18 i 0, τ, 0, _, ?_, ?_, rfl, key 0 (Or.inl rfl), fr 0⟩
        · simp only [g78, g79, g80_eq, decide_eq_true ha, xb_t, x10, if_false, g25_eq, decide_eq_true hb, g79_21, g26_1, if_neg he, g79_41, g81, h2, cond_true, h3, vpn0]
        · simp only [g168, g152_eq, decide_eq_true ha, xb_t, x10, if_false, decide_eq_true hb, g168_24, xu_s, x00, if_true, h2, cond_true, h3, if_neg he, g168_57, vpn0]
    · refine ⟨1, σ, τ, 0, xh_ui σ 53 21 1, ?_, ?_, rfl, wK_say h 1, wFr_say σ 1⟩
      · simp only [g78, g79, g80_eq, decide_eq_true ha, xb_t, x10, if_false, g25_eq, decide_eq_false hb, xb_f, x00, if_true, g79_20, g79_21, g26_0, n00]
      · simp only [g168, g152_eq, decide_eq_true ha, xb_t, x10, if_false, decide_eq_false hb, xb_f, x00, if_true, g168_23, g168_24, xu_s]
  · refine ⟨1, σ, τ, 0, xh_ui σ 53 21 1, ?_, ?_, rfl, wK_say h 1, wFr_say σ 1⟩
    · simp only [g78, g79, g80_eq, decide_eq_false ha, xb_f, x00, if_true, g79_20, g79_21, g26_0, n00]
    · simp only [g168, g152_eq, decide_eq_false ha, xb_f, x00, if_true, g168_23, g168_24, xu_s, x10, if_false]
