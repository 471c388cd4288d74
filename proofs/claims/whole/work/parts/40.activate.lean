/-! activate, bound -/
theorem x01 : (0 : Int32) = 1 ↔ False := by decide
theorem wt_xor (x y : Int32) (i : Nat) : wt (x ^^^ y) i = (wt x i ^^ wt y i) := by
  unfold wt; rw [Int32.toBitVec_xor, BitVec.getLsbD_xor]
theorem wt_1 : ∀ j, j < 12 → ∀ k, k < 32 → wt (1 <<< (Int32.ofNat j &&& 31)) k = decide (k = j) := by decide +kernel
theorem wt_m1 : ∀ k, k < 32 → wt (-1) k = true := by decide +kernel
theorem w_off {x : Int32} {j : Nat} (hj : j < 12) (hb : wt x j = true) : x &&& (((1 : Int32) <<< (Int32.ofNat j &&& 31)) ^^^ (-1)) = x ^^^ ((1 : Int32) <<< (Int32.ofNat j &&& 31)) := wt_ext fun k hk => by
  rw [wt_and, wt_xor, wt_xor, wt_1 j hj k hk, wt_m1 k hk]
  by_cases q : k = j
  · subst q; rw [hb, decide_eq_true rfl]; rfl
  · rw [decide_eq_false q]; cases wt x k <;> rfl
theorem w_on {x : Int32} {j : Nat} (hj : j < 12) (hb : wt x j = false) : x ||| ((1 : Int32) <<< (Int32.ofNat j &&& 31)) = x ^^^ ((1 : Int32) <<< (Int32.ofNat j &&& 31)) := wt_ext fun k hk => by
  rw [wt_or, wt_xor, wt_1 j hj k hk]
  by_cases q : k = j
  · subst q; rw [hb, decide_eq_true rfl]; rfl
  · rw [decide_eq_false q]; cases wt x k <;> rfl
theorem w_back {x : Int32} {j : Nat} (hj : j < 12) (hb : wt x j = false) : (x ||| ((1 : Int32) <<< (Int32.ofNat j &&& 31))) &&& (((1 : Int32) <<< (Int32.ofNat j &&& 31)) ^^^ (-1)) = x := wt_ext fun k hk => by
  rw [wt_and, wt_or, wt_xor, wt_1 j hj k hk, wt_m1 k hk]
  by_cases q : k = j
  · subst q; rw [hb, decide_eq_true rfl]; rfl
  · rw [decide_eq_false q]; cases wt x k <;> rfl
theorem w_back2 (x m : Int32) : (x ^^^ m) ^^^ m = x := by rw [Int32.xor_assoc, Int32.xor_self, Int32.xor_zero]
theorem wt_nb {x : Int32} {j : Nat} (hj : j < 12) (hb : ¬ (x >>> (Int32.ofNat j &&& 31)) &&& 1 = 1) : wt x j = false := by
  cases h : wt x j with
  | false => rfl
  | true => exact absurd ((wt_bit x (by omega)).mpr h) hb
theorem wK_say2 {t : Nat} {σ : xS} (h : wK t σ) (u v : Int32) : wK (t + 1) (xh_ui (xh_ui σ 53 21 u) 53 21 v) := by
  obtain ⟨hA, hB, hC, hD, hE, hF, hG, hH⟩ := h
  exact ⟨hA, hB, hC, hD, hE, hF, hG, wKH_s hH⟩
theorem wFr_say2 (σ : xS) (u v : Int32) : wFr σ (xh_ui (xh_ui σ 53 21 u) 53 21 v) := wFr_ui (wFr_ui (wFr_refl σ) (by decide)) (by decide)
/-- the reference says no to an activation -/
theorem g165_no {i j : Nat} (hi : i < 6) (hj : j < 12) {c : Int32} {s : xS} (hc : s 58 i = 0 ∨ (¬ s 58 i = 0 ∧ xb (decide ((s 60 i >>> (Int32.ofNat j &&& 31)) &&& 1 = 1)) = c)) : g165 (Int32.ofNat i) (Int32.ofNat j) c s = some (.inl 0, xh_ui (xh_ui s 53 21 0) 53 21 2) := by
  obtain ⟨h1, h2, h3, h4⟩ := x6 i hi
  have z1 : ∀ i, i < 12 → 0 ≤ Int32.ofNat i := by decide
  have ha : 0 ≤ Int32.ofNat i ∧ Int32.ofNat i < 6 := ⟨z1 i (by omega), Int32.not_le.mp h1⟩
  have hb : 0 ≤ Int32.ofNat j ∧ Int32.ofNat j < 12 := ⟨z1 j hj, Int32.not_le.mp (x12 j hj).1⟩
  by_cases hbit : (s 60 i >>> (Int32.ofNat j &&& 31)) &&& 1 = 1
  · rcases hc with q | ⟨q, q'⟩
    · simp only [g165, g152_eq, decide_eq_true ha, decide_eq_true hb, xb_t, x10, if_false, g165_24, xu_s, if_true, h2, cond_true, h3, q54, q55, q58, q59, q60, if_pos hbit, g165_54, q, g165_102, g165_103, g165_116, x20]
    · rw [decide_eq_true hbit] at q'
      subst q'
      simp only [g165, g152_eq, decide_eq_true ha, decide_eq_true hb, xb_t, x10, if_false, g165_24, xu_s, if_true, h2, cond_true, h3, q54, q55, q58, q59, q60, if_pos hbit, g165_54, if_neg q, g165_102, g165_103, g165_116, x20]
  · rcases hc with q | ⟨q, q'⟩
    · simp only [g165, g152_eq, decide_eq_true ha, decide_eq_true hb, xb_t, x10, if_false, g165_24, xu_s, if_true, h2, cond_true, h3, q54, q55, q58, q59, q60, if_neg hbit, g165_54, q, g165_102, g165_103, g165_116, x20]
    · rw [decide_eq_false hbit] at q'
      subst q'
      simp only [g165, g152_eq, decide_eq_true ha, decide_eq_true hb, xb_t, xb_f, x10, if_false, g165_24, xu_s, if_true, h2, cond_true, h3, q54, q55, q58, q59, q60, if_neg hbit, g165_54, if_neg q, g165_102, g165_103, g165_116, x20]
theorem op8b (a b c : Int32) {t : Nat} {σ : xS} (h : wK t σ) (τ : xT) (hab : ¬ ((0 ≤ a ∧ a < 6) ∧ (0 ≤ b ∧ b < 12))) : wOv (g68 a b c) (g165 a b c) t σ τ := by
  refine ⟨1, σ, τ, 0, xh_ui σ 53 21 1, ?_, ?_, rfl, wK_say h 1, wFr_say σ 1⟩
  · by_cases ha : 0 ≤ a ∧ a < 6
    · have hb : ¬ (0 ≤ b ∧ b < 12) := fun q => hab ⟨ha, q⟩
      simp only [g68, g69, g63_eq, g24_eq, decide_eq_true ha, decide_eq_false hb, xb_t, xb_f, x10, if_false, if_true, g69_18, g69_19, g26_0]
    · simp only [g68, g69, g63_eq, decide_eq_false ha, xb_f, if_true, g69_18, g69_19, g26_0]
  · by_cases ha : 0 ≤ a ∧ a < 6
    · have hb : ¬ (0 ≤ b ∧ b < 12) := fun q => hab ⟨ha, q⟩
      simp only [g165, g152_eq, decide_eq_true ha, decide_eq_false hb, xb_t, xb_f, x10, if_false, if_true, g165_19, g165_24, xu_s]
    · simp only [g165, g152_eq, decide_eq_false ha, xb_f, if_true, g165_19, g165_24, xu_s, x10, if_false]
/-- activate, off -/
theorem op8_0 {t : Nat} {σ : xS} (h : wK t σ) (a b : Int32) (τ : xT) : wOv (g68 a b 0) (g165 a b 0) t σ τ := by
  by_cases hab : (0 ≤ a ∧ a < 6) ∧ (0 ≤ b ∧ b < 12)
  · obtain ⟨ha, hb⟩ := hab
    obtain ⟨i, hi, rfl⟩ := x_below (by decide) ha.1 ha.2
    obtain ⟨j, hj, rfl⟩ := x_below (by decide) hb.1 hb.2
    obtain ⟨h1, h2, h3, h4⟩ := x6 i hi
    rcases h.2.2.1 i hi with ⟨c1, c2, c3⟩ | ⟨c1, c2, c3, c4, w, c5, c6, c7⟩
    · refine ⟨2, σ, τ, 0, _, ?_, g165_no hi hj (Or.inl c1), rfl, wK_say2 h 0 2, wFr_say2 σ 0 2⟩
      simp only [g68, g69, g63_eq, g24_eq, decide_eq_true ha, decide_eq_true hb, xb_t, x10, if_false, g69_19, g26_1, g44, h2, cond_true, h3, c2, if_true, g69_50, g69_51, g31_0, n10]
    · have hne := xo_ne w c5
      by_cases hbit : (σ 9 i >>> (Int32.ofNat j &&& 31)) &&& 1 = 1
      · have hbit' : (σ 60 i >>> (Int32.ofNat j &&& 31)) &&& 1 = 1 := by rw [← c2]; exact hbit
        obtain ⟨hA, hB, hC, hD, hE, hF, hG, hH⟩ := h
        let s1 : xS := xh_ui σ 9 i (σ 9 i &&& ((1 <<< (Int32.ofNat j &&& 31)) ^^^ (-1)))
        let s4 : xS := xh_ui (xh_ui (xh_ui s1 53 21 0) 53 21 0) 60 i (σ 60 i ^^^ (1 <<< (Int32.ofNat j &&& 31)))
        refine ⟨0, s1, τ, 0, s4, ?_, ?_, rfl, ⟨hA, hB, ?_, hD, hE, hF, hG, wKH_s hH⟩, wFr_ui (wFr_ui (wFr_ui (wFr_ui (wFr_refl σ) (by decide)) (by decide)) (by decide)) (by decide)⟩
        · simp only [g68, g69, g63_eq, g24_eq, decide_eq_true ha, decide_eq_true hb, xb_t, x10, if_false, g69_19, g26_1, g44, h2, cond_true, h3, c6, if_neg hne, g70, g28_eq, decide_eq_true hbit, or_true, decide_true, g69_51, g31_1, if_true, g73]
          rfl
        · have e58 : s1 58 i = 1 := c1
          have eb : (s1 60 i >>> (Int32.ofNat j &&& 31)) &&& 1 = 1 := hbit'
          show g165 _ _ _ s1 = some (.inl 0, xh_ui (xh_ui (xh_ui s1 53 21 0) 53 21 0) 60 i (s1 60 i ^^^ (1 <<< (Int32.ofNat j &&& 31))))
          generalize s1 = s at e58 eb
          simp only [g165, g152_eq, decide_eq_true ha, decide_eq_true hb, xb_t, x10, if_false, g165_24, xu_s, if_true, h2, cond_true, h3, q54, q55, q58, q59, q60, if_pos eb, g165_54, e58, g165_98, g165_103, g165_116]
        · intro k hk
          show (σ 58 k = 0 ∧ σ 8 k = -1 ∧ upd (σ 9) i (σ 9 i &&& ((1 <<< (Int32.ofNat j &&& 31)) ^^^ (-1))) k = 0) ∨ (σ 58 k = 1 ∧ upd (σ 9) i (σ 9 i &&& ((1 <<< (Int32.ofNat j &&& 31)) ^^^ (-1))) k = upd (σ 60) i (σ 60 i ^^^ (1 <<< (Int32.ofNat j &&& 31))) k ∧ wM (upd (σ 9) i (σ 9 i &&& ((1 <<< (Int32.ofNat j &&& 31)) ^^^ (-1))) k) ∧ σ 10 k = σ 61 k ∧ ∃ w, w < 8 ∧ σ 8 k = Int32.ofNat w ∧ σ 59 k = Int32.ofNat w)
          by_cases q : k = i
          · subst q
            simp only [upd_s]
            refine Or.inr ⟨c1, ?_, wM_and c3, c4, w, c5, c6, c7⟩
            rw [← c2]
            exact w_off hj ((wt_bit _ (show j < 32 from Nat.lt_trans hj (by decide))).mp hbit)
          · simp only [upd_n q]
            exact hC k hk
      · have hbit' : ¬ (σ 60 i >>> (Int32.ofNat j &&& 31)) &&& 1 = 1 := by rw [← c2]; exact hbit
        refine ⟨2, σ, τ, 0, _, ?_, g165_no hi hj (Or.inr ⟨by rw [c1]; decide, by rw [decide_eq_false hbit']; rfl⟩), rfl, wK_say2 h 0 2, wFr_say2 σ 0 2⟩
        simp only [g68, g69, g63_eq, g24_eq, decide_eq_true ha, decide_eq_true hb, xb_t, x10, if_false, g69_19, g26_1, g44, h2, cond_true, h3, c6, if_neg hne, g70, g28_eq, decide_eq_false hbit, xb_f, true_or, decide_true, if_true, g69_50, g69_51, g31_0, n10]
  · exact op8b a b 0 h τ hab
/-- activate, on -/
theorem op8_1 {t : Nat} {σ : xS} (h : wK t σ) (a b : Int32) (τ : xT) : wOv (g68 a b 1) (g165 a b 1) t σ τ := by
  by_cases hab : (0 ≤ a ∧ a < 6) ∧ (0 ≤ b ∧ b < 12)
  · obtain ⟨ha, hb⟩ := hab
    obtain ⟨i, hi, rfl⟩ := x_below (by decide) ha.1 ha.2
    obtain ⟨j, hj, rfl⟩ := x_below (by decide) hb.1 hb.2
    obtain ⟨h1, h2, h3, h4⟩ := x6 i hi
    rcases h.2.2.1 i hi with ⟨c1, c2, c3⟩ | ⟨c1, c2, c3, c4, w, c5, c6, c7⟩
    · refine ⟨2, σ, τ, 0, _, ?_, g165_no hi hj (Or.inl c1), rfl, wK_say2 h 0 2, wFr_say2 σ 0 2⟩
      simp only [g68, g69, g63_eq, g24_eq, decide_eq_true ha, decide_eq_true hb, xb_t, x10, if_false, g69_19, g26_1, g44, h2, cond_true, h3, c2, if_true, g69_50, g69_51, g31_0, n10]
    · have hne := xo_ne w c5
      obtain ⟨k1, k2, k3, k4⟩ := x8 w c5
      by_cases hbit : (σ 9 i >>> (Int32.ofNat j &&& 31)) &&& 1 = 1
      · have hbit' : (σ 60 i >>> (Int32.ofNat j &&& 31)) &&& 1 = 1 := by rw [← c2]; exact hbit
        refine ⟨2, σ, τ, 0, _, ?_, g165_no hi hj (Or.inr ⟨by rw [c1]; decide, by rw [decide_eq_true hbit']; rfl⟩), rfl, wK_say2 h 0 2, wFr_say2 σ 0 2⟩
        simp only [g68, g69, g63_eq, g24_eq, decide_eq_true ha, decide_eq_true hb, xb_t, x10, if_false, g69_19, g26_1, g44, h2, cond_true, h3, c6, if_neg hne, g70, g28_eq, decide_eq_true hbit, or_true, decide_true, if_true, g69_50, g69_51, g31_0, n10]
      · have hbit' : ¬ (σ 60 i >>> (Int32.ofNat j &&& 31)) &&& 1 = 1 := by rw [← c2]; exact hbit
        have hwt := wt_nb hj hbit
        have hm := wM_1 j hj
        have ew : wk (σ 2) 11 (σ 4 w) = wc (σ 54) (σ 55 w) := by rw [wk_wc h.1.2 (h.2.1.2.1 w c5), h.1.1, h.2.1.1]
        by_cases hau : (wc (σ 54) (σ 55 w) >>> (Int32.ofNat j &&& 31)) &&& 1 = 1
        · obtain ⟨hA, hB, hC, ⟨n, hn, d1, d2, d3⟩, hE, hF, hG, hH⟩ := h
          let s1 : xS := xh_ui σ 9 i (σ 9 i ||| (1 <<< (Int32.ofNat j &&& 31)))
          have hS : ∀ k, k < 6 → wse (σ 58 k) (s1 9 k) (upd (σ 60) i (σ 60 i ^^^ (1 <<< (Int32.ofNat j &&& 31))) k) := fun k hk => by
            show wse (σ 58 k) (upd (σ 9) i (σ 9 i ||| (1 <<< (Int32.ofNat j &&& 31))) k) _
            by_cases q : k = i
            · subst q
              rw [upd_s, upd_s]
              exact Or.inr ⟨c1, by rw [← c2]; exact w_on hj hwt, wM_or c3 hm⟩
            · rw [upd_n q, upd_n q]; exact wse_of hC k hk
          have hX := wX_eq (n := n) (U := σ 2) (G := σ 4) (A := s1 9) (A' := upd (σ 60) i (σ 60 i ^^^ (1 <<< (Int32.ofNat j &&& 31)))) (O := σ 58) (D := σ 12) (R := σ 13) (L := σ 14) hA.2 hB.2.1 hS hA.1 hB.1 d3
          have e33 : g33 s1 = _ := g33_eq hn d1
          cases hq : (List.range' 0 n).any fun b => wz (s1 2) (s1 4) (s1 9) (s1 12 b) (s1 13 b) (s1 14 b) with
          | false =>
            let s3 : xS := xh_ui (xh_ui (xh_ui s1 53 21 0) 53 21 0) 60 i (s1 60 i ^^^ (1 <<< (Int32.ofNat j &&& 31)))
            have e154 : g154 s3 = _ := g154_eq (σ := s3) hn d2
            have hq3 : ((List.range' 0 n).any fun b => wy (s3 54) (s3 55) (s3 60) (s3 58) (s3 62 b) (s3 63 b) (s3 64 b)) = false := hX.symm.trans hq
            rw [hq3] at e154
            rw [hq] at e33
            refine ⟨0, s1, τ, 0, s3, ?_, ?_, rfl, ⟨hA, hB, ?_, ⟨n, hn, d1, d2, d3⟩, hE, hF, hG, wKH_s hH⟩, wFr_ui (wFr_ui (wFr_ui (wFr_ui (wFr_refl σ) (by decide)) (by decide)) (by decide)) (by decide)⟩
            · simp only [g68, g69, g63_eq, g24_eq, decide_eq_true ha, decide_eq_true hb, xb_t, x10, if_false, g69_19, g26_1, g44, h2, cond_true, h3, c6, if_neg hne, g70, g28_eq, decide_eq_false hbit, xb_f, x01, true_or, decide_true, g69_51, g31_1, g71, g39_eq c5, ew, decide_eq_true hau, g72]
              rw [e33]
              rfl
            · have e58 : s1 58 i = 1 := c1
              have e59 : s1 59 i = Int32.ofNat w := c7
              have eb : ¬ (s1 60 i >>> (Int32.ofNat j &&& 31)) &&& 1 = 1 := hbit'
              have ea : (wc (s1 54) (s1 55 w) >>> (Int32.ofNat j &&& 31)) &&& 1 = 1 := hau
              simp only [g165, g152_eq, decide_eq_true ha, decide_eq_true hb, xb_t, x10, if_false, g165_24, xu_s, if_true, h2, cond_true, h3, q54, q55, q58, q59, q60, if_neg eb, g165_54, e58, x01, e59, k2, k3, g153_eq, if_pos ea, g165_98, g165_103, g165_116]
              rw [show g154 (xh_ui (xh_ui (xh_ui s1 53 21 0) 53 21 0) 60 i (s1 60 i ^^^ (1 <<< (Int32.ofNat j &&& 31)))) = _ from e154]
              rfl
            · intro k hk
              show (σ 58 k = 0 ∧ σ 8 k = -1 ∧ upd (σ 9) i (σ 9 i ||| (1 <<< (Int32.ofNat j &&& 31))) k = 0) ∨ (σ 58 k = 1 ∧ upd (σ 9) i (σ 9 i ||| (1 <<< (Int32.ofNat j &&& 31))) k = upd (σ 60) i (σ 60 i ^^^ (1 <<< (Int32.ofNat j &&& 31))) k ∧ wM (upd (σ 9) i (σ 9 i ||| (1 <<< (Int32.ofNat j &&& 31))) k) ∧ σ 10 k = σ 61 k ∧ ∃ w, w < 8 ∧ σ 8 k = Int32.ofNat w ∧ σ 59 k = Int32.ofNat w)
              by_cases q : k = i
              · subst q
                simp only [upd_s]
                refine Or.inr ⟨c1, ?_, wM_or c3 hm, c4, w, c5, c6, c7⟩
                rw [← c2]
                exact w_on hj hwt
              · simp only [upd_n q]
                exact hC k hk
          | true =>
            let s2 : xS := xh_ui s1 9 i (s1 9 i &&& ((1 <<< (Int32.ofNat j &&& 31)) ^^^ (-1)))
            let s3 : xS := xh_ui (xh_ui (xh_ui s2 53 21 0) 53 21 0) 60 i (s2 60 i ^^^ (1 <<< (Int32.ofNat j &&& 31)))
            let s4 : xS := xh_ui (xh_ui s3 60 i (s3 60 i ^^^ (1 <<< (Int32.ofNat j &&& 31)))) 53 21 2
            have e154 : g154 s3 = _ := g154_eq (σ := s3) hn d2
            have hq3 : ((List.range' 0 n).any fun b => wy (s3 54) (s3 55) (s3 60) (s3 58) (s3 62 b) (s3 63 b) (s3 64 b)) = true := hX.symm.trans hq
            rw [hq3] at e154
            rw [hq] at e33
            refine ⟨2, s2, τ, 0, s4, ?_, ?_, rfl, ⟨hA, hB, ?_, ⟨n, hn, d1, d2, d3⟩, hE, hF, hG, wKH_s hH⟩, wFr_ui (wFr_ui (wFr_ui (wFr_ui (wFr_ui (wFr_ui (wFr_ui (wFr_refl σ) (by decide)) (by decide)) (by decide)) (by decide)) (by decide)) (by decide)) (by decide)⟩
            · simp only [g68, g69, g63_eq, g24_eq, decide_eq_true ha, decide_eq_true hb, xb_t, x10, if_false, g69_19, g26_1, g44, h2, cond_true, h3, c6, if_neg hne, g70, g28_eq, decide_eq_false hbit, xb_f, x01, true_or, decide_true, g69_51, g31_1, g71, g39_eq c5, ew, decide_eq_true hau, g72]
              rw [e33]
              simp only [xb_t, x10, if_false, g73, h2, cond_true, h3, n10, if_true]
              rfl
            · have e58 : s2 58 i = 1 := c1
              have e59 : s2 59 i = Int32.ofNat w := c7
              have eb : ¬ (s2 60 i >>> (Int32.ofNat j &&& 31)) &&& 1 = 1 := hbit'
              have ea : (wc (s2 54) (s2 55 w) >>> (Int32.ofNat j &&& 31)) &&& 1 = 1 := hau
              simp only [g165, g152_eq, decide_eq_true ha, decide_eq_true hb, xb_t, x10, if_false, g165_24, xu_s, if_true, h2, cond_true, h3, q54, q55, q58, q59, q60, if_neg eb, g165_54, e58, x01, e59, k2, k3, g153_eq, if_pos ea, g165_98, g165_103, g165_116]
              rw [show g154 (xh_ui (xh_ui (xh_ui s2 53 21 0) 53 21 0) 60 i (s2 60 i ^^^ (1 <<< (Int32.ofNat j &&& 31)))) = _ from e154]
              rfl
            · intro k hk
              show (σ 58 k = 0 ∧ σ 8 k = -1 ∧ upd (upd (σ 9) i (σ 9 i ||| (1 <<< (Int32.ofNat j &&& 31)))) i (upd (σ 9) i (σ 9 i ||| (1 <<< (Int32.ofNat j &&& 31))) i &&& ((1 <<< (Int32.ofNat j &&& 31)) ^^^ (-1))) k = 0) ∨ (σ 58 k = 1 ∧ upd (upd (σ 9) i (σ 9 i ||| (1 <<< (Int32.ofNat j &&& 31)))) i (upd (σ 9) i (σ 9 i ||| (1 <<< (Int32.ofNat j &&& 31))) i &&& ((1 <<< (Int32.ofNat j &&& 31)) ^^^ (-1))) k = upd (upd (σ 60) i (σ 60 i ^^^ (1 <<< (Int32.ofNat j &&& 31)))) i (upd (σ 60) i (σ 60 i ^^^ (1 <<< (Int32.ofNat j &&& 31))) i ^^^ (1 <<< (Int32.ofNat j &&& 31))) k ∧ wM (upd (upd (σ 9) i (σ 9 i ||| (1 <<< (Int32.ofNat j &&& 31)))) i (upd (σ 9) i (σ 9 i ||| (1 <<< (Int32.ofNat j &&& 31))) i &&& ((1 <<< (Int32.ofNat j &&& 31)) ^^^ (-1))) k) ∧ σ 10 k = σ 61 k ∧ ∃ w, w < 8 ∧ σ 8 k = Int32.ofNat w ∧ σ 59 k = Int32.ofNat w)
              by_cases q : k = i
              · subst q
                simp only [upd_s]
                rw [w_back2, w_back hj hwt]
                exact Or.inr ⟨c1, c2, c3, c4, w, c5, c6, c7⟩
              · simp only [upd_n q]
                exact hC k hk
        · refine ⟨2, σ, τ, 0, xh_ui (xh_ui σ 53 21 0) 53 21 2, ?_, ?_, rfl, wK_say2 h 0 2, wFr_say2 σ 0 2⟩
          · simp only [g68, g69, g63_eq, g24_eq, decide_eq_true ha, decide_eq_true hb, xb_t, x10, if_false, g69_19, g26_1, g44, h2, cond_true, h3, c6, if_neg hne, g70, g28_eq, decide_eq_false hbit, xb_f, x01, true_or, decide_true, g69_51, g31_1, g71, g39_eq c5, ew, decide_eq_false hau, g31_0, n10, if_true]
          · simp only [g165, g152_eq, decide_eq_true ha, decide_eq_true hb, xb_t, x10, if_false, g165_24, xu_s, if_true, h2, cond_true, h3, q54, q55, q58, q59, q60, if_neg hbit', g165_54, c1, x01, c7, k2, k3, g153_eq, if_neg hau, g165_102, g165_103, g165_116, x20]
  · exact op8b a b 1 h τ hab
/-- bound, d one of 0 and 1 -/
theorem op4 {t : Nat} {σ : xS} (h : wK t σ) (d a b : Int32) (hd : vp_nar .boolean d = d) (τ : xT) : wOp (g53 d a b) (g161 d a b) t σ τ := by
  by_cases hgood : (0 ≤ a ∧ a < 4096) ∧ ¬ b < 2 ∧ ¬ 6 < b ∧ ¬ wb a < b
  · obtain ⟨ha, hb1, hb2, hb3⟩ := hgood
    have hM := wM_of ha.1 ha.2
    have hwb := wb_wm' hM
    have hle : b ≤ wm a := Int32.not_lt.mp (by rw [← hwb]; exact hb3)
    have hn1 : ¬ a < 0 := Int32.not_lt.mpr ha.1
    have hn2 : ¬ 4096 ≤ a := Int32.not_le.mpr ha.2
    obtain ⟨hA, hB, hC, ⟨n, hn, d1, d2, d3⟩, hE, hF, hG, hH⟩ := id h
    by_cases hn6 : n = 6
    · have f1 : ¬ σ 11 3 < 6 := by rw [d1, hn6]; decide
      have f2 : σ 53 8 = 6 := by rw [d2, hn6]; decide
      refine ⟨2, σ, τ, 0, xh_ui σ 53 21 2, ?_, ?_, rfl, fun q => absurd q (by decide), wK_say h 2, wFr_say σ 2⟩
      · simp only [g53, g54, g55, g25_eq, decide_eq_true ha, xb_t, x10, if_false, if_neg hb1, if_neg hb2, g37_eq, if_neg hb3, g26_1, g56, if_neg f1, g54_32, g54_33, g31_0, n10, if_true]
      · simp only [g161, if_neg hn1, if_neg hn2, if_neg hb1, if_neg hb2, g161_27, x10, if_false, g156_eq, if_pos hle, if_pos f2, g161_61, xu_s, x20]
    · have hn5 : n < 6 := by omega
      obtain ⟨h1, h2, h3, h4⟩ := x6 n hn5
      have f1 : σ 11 3 < 6 := by rw [d1]; exact Int32.not_le.mp h1
      have f2 : ¬ σ 53 8 = 6 := by
        rw [d2]
        have : ∀ n, n < 6 → ¬ Int32.ofNat n = 6 := by decide
        exact this n hn5
      have hz := wz_wy (U := σ 2) (G := σ 4) (A := σ 9) (A' := σ 60) (O := σ 58) (d := d) (r := a) (n := b) hA.2 hB.2.1 (wse_of hC) hM (by
        have q := Int32.not_lt.mp hb1
        rw [Int32.le_iff_toInt_le] at q
        rw [Int32.lt_iff_toInt_lt]
        have e2 : (2 : Int32).toInt = 2 := by decide
        have e0 : (0 : Int32).toInt = 0 := by decide
        omega)
      rw [hA.1, hB.1] at hz
      cases hq : wz (σ 2) (σ 4) (σ 9) d a b with
      | true =>
        let s3 : xS := xh_ui (xh_ui (xh_ui (xh_ui σ 53 21 0) 62 n d) 63 n a) 64 n b
        have e155 : g155 (Int32.ofNat n) s3 = _ := g155_eq hn5 s3
        have hq3 : wy (s3 54) (s3 55) (s3 60) (s3 58) (s3 62 n) (s3 63 n) (s3 64 n) = true := by
          show wy (σ 54) (σ 55) (σ 60) (σ 58) (upd (σ 62) n d n) (upd (σ 63) n a n) (upd (σ 64) n b n) = true
          rw [upd_s, upd_s, upd_s, ← hz, ← hA.1, ← hB.1]; exact hq
        rw [hq3] at e155
        have hdd : ∀ i, i < n → σ 12 i = upd (σ 62) n d i ∧ σ 13 i = upd (σ 63) n a i ∧ wM (σ 13 i) ∧ σ 14 i = upd (σ 64) n b i ∧ 0 < σ 14 i := fun i hi => by
          rw [upd_n (Nat.ne_of_lt hi), upd_n (Nat.ne_of_lt hi), upd_n (Nat.ne_of_lt hi)]; exact d3 i hi
        refine ⟨2, σ, τ, 0, xh_ui s3 53 21 2, ?_, ?_, rfl, fun q => absurd q (by decide), ⟨hA, hB, hC, ⟨n, hn, d1, d2, hdd⟩, hE, hF, hG, wKH_s hH⟩, wFr_ui (wFr_ui (wFr_ui (wFr_ui (wFr_ui (wFr_refl σ) (by decide)) (by decide)) (by decide)) (by decide)) (by decide)⟩
        · simp only [g53, g54, g55, g25_eq, decide_eq_true ha, xb_t, x10, if_false, if_neg hb1, if_neg hb2, g37_eq, if_neg hb3, g26_1, g56, if_pos f1, if_true, g34_eq, hq, g54_32, g54_33, g31_0, n10]
        · have r1 : xh_ui σ 53 21 0 53 8 = Int32.ofNat n := d2
          have r2 : ∀ v, xh_ui (xh_ui σ 53 21 0) 62 n v 53 8 = Int32.ofNat n := fun _ => d2
          have r3 : ∀ v w, xh_ui (xh_ui (xh_ui σ 53 21 0) 62 n v) 63 n w 53 8 = Int32.ofNat n := fun _ _ => d2
          have r4 : ∀ v w u, xh_ui (xh_ui (xh_ui (xh_ui σ 53 21 0) 62 n v) 63 n w) 64 n u 53 8 = Int32.ofNat n := fun _ _ _ => d2
          simp only [g161, if_neg hn1, if_neg hn2, if_neg hb1, if_neg hb2, g161_27, x10, if_false, g156_eq, if_pos hle, if_neg f2, g161_61, xu_s, if_true, r1, h2, h3, cond_true, r2, r3, r4, hd]
          rw [show g155 (Int32.ofNat n) (xh_ui (xh_ui (xh_ui (xh_ui σ 53 21 0) 62 n d) 63 n a) 64 n b) = _ from e155]
          rfl
      | false =>
        let s1 : xS := xh_ui (xh_ui (xh_ui (xh_ui σ 12 n d) 13 n a) 14 n b) 11 3 (Int32.ofNat n + 1)
        let s3 : xS := xh_ui (xh_ui (xh_ui (xh_ui s1 53 21 0) 62 n d) 63 n a) 64 n b
        let s4 : xS := xh_ui (xh_ui s3 53 21 0) 53 8 (Int32.ofNat n + 1)
        have e155 : g155 (Int32.ofNat n) s3 = _ := g155_eq hn5 s3
        have hq3 : wy (s3 54) (s3 55) (s3 60) (s3 58) (s3 62 n) (s3 63 n) (s3 64 n) = false := by
          show wy (σ 54) (σ 55) (σ 60) (σ 58) (upd (σ 62) n d n) (upd (σ 63) n a n) (upd (σ 64) n b n) = false
          rw [upd_s, upd_s, upd_s, ← hz, ← hA.1, ← hB.1]; exact hq
        rw [hq3] at e155
        have hb0 : 0 < b := by
          have q := Int32.not_lt.mp hb1
          rw [Int32.le_iff_toInt_le] at q
          rw [Int32.lt_iff_toInt_lt]
          have e2 : (2 : Int32).toInt = 2 := by decide
          have e0 : (0 : Int32).toInt = 0 := by decide
          omega
        have hdd : ∀ i, i < n + 1 → upd (σ 12) n d i = upd (σ 62) n d i ∧ upd (σ 13) n a i = upd (σ 63) n a i ∧ wM (upd (σ 13) n a i) ∧ upd (σ 14) n b i = upd (σ 64) n b i ∧ 0 < upd (σ 14) n b i := fun i hi => by
          by_cases q : i = n
          · subst q; simp only [upd_s]; exact ⟨trivial, trivial, hM, trivial, hb0⟩
          · simp only [upd_n q]; exact d3 i (by omega)
        refine ⟨0, s1, xh_ul τ 92 0 (Int32.toInt64 (Int32.ofNat n)), Int32.ofNat n, s4, ?_, ?_, rfl, fun _ => rfl, ⟨hA, hB, hC, ⟨n + 1, hn5, h4, h4, hdd⟩, hE, hF, hG, wKH_s hH⟩, wFr_ui (wFr_ui (wFr_ui (wFr_ui (wFr_ui (wFr_ui (wFr_ui (wFr_ui (wFr_ui (wFr_ui (wFr_refl σ) (by decide)) (by decide)) (by decide)) (by decide)) (by decide)) (by decide)) (by decide)) (by decide)) (by decide)) (by decide)⟩
        · simp only [g53, g54, g55, g25_eq, decide_eq_true ha, xb_t, x10, if_false, if_neg hb1, if_neg hb2, g37_eq, if_neg hb3, g26_1, g56, d1, if_pos (Int32.not_le.mp h1), if_true, g34_eq, hq, xb_f, g54_33, g31_1, g57, h2, h3, cond_true, hd]
          have r1 : xh_ui (xh_ui (xh_ui σ 12 n d) 13 n a) 14 n b 11 3 = Int32.ofNat n := d1
          rw [r1]
        · have r0 : s1 53 8 = Int32.ofNat n := d2
          have r1 : xh_ui s1 53 21 0 53 8 = Int32.ofNat n := d2
          have r2 : ∀ v, xh_ui (xh_ui s1 53 21 0) 62 n v 53 8 = Int32.ofNat n := fun _ => d2
          have r3 : ∀ v w, xh_ui (xh_ui (xh_ui s1 53 21 0) 62 n v) 63 n w 53 8 = Int32.ofNat n := fun _ _ => d2
          have r4 : ∀ v w u, xh_ui (xh_ui (xh_ui (xh_ui s1 53 21 0) 62 n v) 63 n w) 64 n u 53 8 = Int32.ofNat n := fun _ _ _ => d2
          have f2' : ¬ s1 53 8 = 6 := f2
          simp only [g161, if_neg hn1, if_neg hn2, if_neg hb1, if_neg hb2, g161_27, x10, if_false, g156_eq, if_pos hle, if_neg f2', g161_61, xu_s, if_true, r1, h2, h3, cond_true, r2, r3, r4, hd]
          rw [show g155 (Int32.ofNat n) (xh_ui (xh_ui (xh_ui (xh_ui s1 53 21 0) 62 n d) 63 n a) 64 n b) = _ from e155]
          have r5 : xh_ui s3 53 21 0 53 8 = Int32.ofNat n := d2
          simp only [xb_f, if_true, g161_120, xu_s, r5]
          rw [Int32.add_sub_cancel]
  · refine ⟨1, σ, τ, 0, xh_ui σ 53 21 1, ?_, ?_, rfl, fun q => absurd q (by decide), wK_say h 1, wFr_say σ 1⟩
    · by_cases ha : 0 ≤ a ∧ a < 4096
      · by_cases hb1 : b < 2
        · simp only [g53, g54, g55, g25_eq, decide_eq_true ha, xb_t, x10, if_false, if_pos hb1, g26_0, if_true]
        · by_cases hb2 : 6 < b
          · simp only [g53, g54, g55, g25_eq, decide_eq_true ha, xb_t, x10, if_false, if_neg hb1, if_pos hb2, g26_0, if_true]
          · have hb3 : wb a < b := Decidable.byContradiction fun q => hgood ⟨ha, hb1, hb2, q⟩
            simp only [g53, g54, g55, g25_eq, decide_eq_true ha, xb_t, x10, if_false, if_neg hb1, if_neg hb2, g37_eq, if_pos hb3, g26_0, if_true]
      · simp only [g53, g54, g55, g25_eq, decide_eq_false ha, xb_f, if_true, g26_0]
    · by_cases ha1 : a < 0
      · simp only [g161, if_pos ha1, g161_26, g161_27, if_true, g161_43, g161_61, xu_s, x10, if_false]
      · by_cases ha2 : 4096 ≤ a
        · simp only [g161, if_neg ha1, if_pos ha2, g161_26, g161_27, if_true, g161_43, g161_61, xu_s, x10, if_false]
        · by_cases hb1 : b < 2
          · simp only [g161, if_neg ha1, if_neg ha2, if_pos hb1, g161_26, g161_27, if_true, g161_43, g161_61, xu_s, x10, if_false]
          · by_cases hb2 : 6 < b
            · simp only [g161, if_neg ha1, if_neg ha2, if_neg hb1, if_pos hb2, g161_26, g161_27, if_true, g161_43, g161_61, xu_s, x10, if_false]
            · have ha : 0 ≤ a ∧ a < 4096 := ⟨Int32.not_lt.mp ha1, Int32.not_le.mp ha2⟩
              have hb3 : wb a < b := Decidable.byContradiction fun q => hgood ⟨ha, hb1, hb2, q⟩
              have hb4 : ¬ b ≤ wm a := by rw [← wb_wm' (wM_of ha.1 ha.2)]; exact Int32.not_le.mpr hb3
              simp only [g161, if_neg ha1, if_neg ha2, if_neg hb1, if_neg hb2, g161_27, x10, if_false, g156_eq, if_neg hb4, g161_43, g161_61, xu_s]
