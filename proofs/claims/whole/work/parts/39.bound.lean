/-! senior, assign, activate, bound -/
theorem wse_of {σ : xS} (hC : wKC σ) : ∀ i, i < 6 → wse (σ 58 i) (σ 9 i) (σ 60 i) := fun i hi => by
  rcases hC i hi with ⟨c1, c2, c3⟩ | ⟨c1, c2, c3, c4, w, c5, c6, c7⟩
  · exact Or.inl ⟨c1, c3⟩
  · exact Or.inr ⟨c1, c2, c3⟩
theorem wX_eq {n : Nat} {U G A U' G' A' O D R L D' R' L' : Nat → Int32} (hU : ∀ i, i < 12 → wM (U i)) (hG : ∀ i, i < 8 → wM (G i)) (hS : ∀ i, i < 6 → wse (O i) (A i) (A' i)) (eU : U = U') (eG : G = G') (hb : ∀ b, b < n → D b = D' b ∧ R b = R' b ∧ wM (R b) ∧ L b = L' b ∧ 0 < L b) :
    ((List.range' 0 n).any fun b => wz U G A (D b) (R b) (L b)) = (List.range' 0 n).any fun b => wy U' G' A' O (D' b) (R' b) (L' b) := by
  subst eU eG
  refine w_anyr fun b hbn => ?_
  obtain ⟨h1, h2, h3, h4, h5⟩ := hb b hbn
  rw [wz_wy hU hG hS h3 h5, h1, h2, h4]
theorem ofNat_inj12 : ∀ i, i < 12 → ∀ j, j < 12 → Int32.ofNat i = Int32.ofNat j → i = j := by decide
/-- senior -/
theorem op0 {t : Nat} {σ : xS} (h : wK t σ) (a b : Int32) (τ : xT) : wOv (g22 a b) (g150 a b) t σ τ := by
  by_cases ha : 0 ≤ a ∧ a < 12
  · by_cases hb : 0 ≤ b ∧ b < 12
    · by_cases hab : a = b
      · refine ⟨1, σ, τ, 0, xh_ui σ 53 21 1, ?_, ?_, rfl, wK_say h 1, wFr_say σ 1⟩
        · simp only [g22, g23, g24_eq, decide_eq_true ha, decide_eq_true hb, xb_t, x10, if_false, if_pos hab, g23_23, g23_24, g26_0, if_true]
        · simp only [g150, g151, g152_eq, decide_eq_true ha, decide_eq_true hb, xb_t, x10, if_false, if_pos hab, g150_14, g150_52, xu_s]
      · obtain ⟨i, hi, rfl⟩ := x_below (by decide) ha.1 ha.2
        obtain ⟨j, hj, rfl⟩ := x_below (by decide) hb.1 hb.2
        obtain ⟨h1, h2, h3, h4⟩ := x12 i hi
        have hm := wM_1 j hj
        by_cases hbit : (σ 2 i >>> (Int32.ofNat j &&& 31)) &&& 1 = 1
        · have hbit' : (σ 54 i >>> (Int32.ofNat j &&& 31)) &&& 1 = 1 := by rw [← h.1.1]; exact hbit
          refine ⟨2, σ, τ, 0, xh_ui σ 53 21 2, ?_, ?_, rfl, wK_say h 2, wFr_say σ 2⟩
          · simp only [g22, g23, g24_eq, decide_eq_true ha, decide_eq_true hb, xb_t, x10, if_false, if_neg hab, g23_24, g26_1, g27, h2, cond_true, h3, g28_eq, decide_eq_true hbit, or_true, decide_true, g23_55, g23_56, g31_0, n10, if_true]
          · simp only [g150, g151, g152_eq, decide_eq_true ha, decide_eq_true hb, xb_t, x10, if_false, if_neg hab, h2, cond_true, h3, if_pos hbit', g150_47, g150_52, xu_s, x20]
        · have hbit' : ¬ (σ 54 i >>> (Int32.ofNat j &&& 31)) &&& 1 = 1 := by rw [← h.1.1]; exact hbit
          have ew : wk (σ 2) 11 (1 <<< (Int32.ofNat j &&& 31)) = wc (σ 54) (1 <<< (Int32.ofNat j &&& 31)) := by rw [wk_wc h.1.2 hm, h.1.1]
          by_cases hl : (wc (σ 54) (1 <<< (Int32.ofNat j &&& 31)) >>> (Int32.ofNat i &&& 31)) &&& 1 = 1
          · refine ⟨2, σ, τ, 0, xh_ui σ 53 21 2, ?_, ?_, rfl, wK_say h 2, wFr_say σ 2⟩
            · simp only [g22, g23, g24_eq, decide_eq_true ha, decide_eq_true hb, xb_t, x10, if_false, if_neg hab, g23_24, g26_1, g27, h2, cond_true, h3, g28_eq, decide_eq_false hbit, xb_f, true_or, or_true, decide_true, if_true, g29, g30_eq, ew, decide_eq_true hl, g23_55, g23_56, g31_0, n10]
            · simp only [g150, g151, g152_eq, decide_eq_true ha, decide_eq_true hb, xb_t, x10, if_false, if_neg hab, h2, cond_true, h3, if_neg hbit', g153_eq, if_pos hl, g150_47, g150_52, xu_s, x20]
          · obtain ⟨hA, hB, hC, ⟨n, hn, d1, d2, d3⟩, hE, hF, hG, hH⟩ := h
            let s1 : xS := xh_ui σ 2 i (σ 2 i ||| (1 <<< (Int32.ofNat j &&& 31)))
            have hU : ∀ k, k < 12 → wM (s1 2 k) := fun k hk => by
              show wM (upd (σ 2) i _ k)
              by_cases q : k = i
              · subst q; rw [upd_s]; exact wM_or (hA.2 k hk) hm
              · rw [upd_n q]; exact hA.2 k hk
            have eU : upd (σ 2) i (σ 2 i ||| (1 <<< (Int32.ofNat j &&& 31))) = upd (σ 54) i (σ 54 i ||| (1 <<< (Int32.ofNat j &&& 31))) := by rw [hA.1]
            have hX := wX_eq (n := n) (U := s1 2) (G := σ 4) (A := σ 9) (A' := σ 60) (O := σ 58) (D := σ 12) (R := σ 13) (L := σ 14) hU hB.2.1 (wse_of hC) eU hB.1 d3
            have e33 : g33 s1 = _ := g33_eq hn d1
            cases hq : (List.range' 0 n).any fun b => wz (s1 2) (s1 4) (s1 9) (s1 12 b) (s1 13 b) (s1 14 b) with
            | false =>
              let s3 : xS := xh_ui (xh_ui s1 53 21 0) 54 i (s1 54 i ||| (1 <<< (Int32.ofNat j &&& 31)))
              have e154 : g154 s3 = _ := g154_eq (σ := s3) hn d2
              have hq3 : ((List.range' 0 n).any fun b => wy (s3 54) (s3 55) (s3 60) (s3 58) (s3 62 b) (s3 63 b) (s3 64 b)) = false := hX.symm.trans hq
              rw [hq3] at e154
              rw [hq] at e33
              refine ⟨0, s1, τ, 0, s3, ?_, ?_, rfl, ⟨⟨eU, hU⟩, hB, hC, ⟨n, hn, d1, d2, d3⟩, hE, hF, hG, wKH_s hH⟩, wFr_ui (wFr_ui (wFr_ui (wFr_refl σ) (by decide)) (by decide)) (by decide)⟩
              · simp only [g22, g23, g24_eq, decide_eq_true ha, decide_eq_true hb, xb_t, x10, if_false, if_neg hab, g23_24, g26_1, g27, h2, cond_true, h3, g28_eq, decide_eq_false hbit, xb_f, true_or, decide_true, if_true, g29, g30_eq, ew, decide_eq_false hl, g23_56, g31_1, g32]
                rw [e33]
                rfl
              · have b' : ¬ (s1 54 i >>> (Int32.ofNat j &&& 31)) &&& 1 = 1 := hbit'
                have l' : ¬ (wc (s1 54) (1 <<< (Int32.ofNat j &&& 31)) >>> (Int32.ofNat i &&& 31)) &&& 1 = 1 := hl
                simp only [g150, g151, g152_eq, decide_eq_true ha, decide_eq_true hb, xb_t, x10, if_false, if_neg hab, h2, cond_true, h3, if_neg b', g153_eq, if_neg l', g150_52, xu_s, q54, if_true]
                rw [show g154 (xh_ui (xh_ui s1 53 21 0) 54 i (s1 54 i ||| (1 <<< (Int32.ofNat j &&& 31)))) = _ from e154]
                rfl
            | true =>
              let s2 : xS := xh_ui s1 2 i (s1 2 i &&& ((1 <<< (Int32.ofNat j &&& 31)) ^^^ (-1)))
              let s3 : xS := xh_ui (xh_ui s2 53 21 0) 54 i (s2 54 i ||| (1 <<< (Int32.ofNat j &&& 31)))
              let s4 : xS := xh_ui (xh_ui s3 54 i (s3 54 i &&& ((1 <<< (Int32.ofNat j &&& 31)) ^^^ (-1)))) 53 21 2
              have e154 : g154 s3 = _ := g154_eq (σ := s3) hn d2
              have hq3 : ((List.range' 0 n).any fun b => wy (s3 54) (s3 55) (s3 60) (s3 58) (s3 62 b) (s3 63 b) (s3 64 b)) = true := hX.symm.trans hq
              rw [hq3] at e154
              rw [hq] at e33
              have eU2 : s4 2 = s4 54 := by
                show upd (upd (σ 2) i (σ 2 i ||| (1 <<< (Int32.ofNat j &&& 31)))) i (upd (σ 2) i (σ 2 i ||| (1 <<< (Int32.ofNat j &&& 31))) i &&& ((1 <<< (Int32.ofNat j &&& 31)) ^^^ (-1))) = upd (upd (σ 54) i (σ 54 i ||| (1 <<< (Int32.ofNat j &&& 31)))) i (upd (σ 54) i (σ 54 i ||| (1 <<< (Int32.ofNat j &&& 31))) i &&& ((1 <<< (Int32.ofNat j &&& 31)) ^^^ (-1)))
                rw [eU]
              have hU2 : ∀ k, k < 12 → wM (s4 2 k) := fun k hk => by
                show wM (upd (s1 2) i _ k)
                by_cases q : k = i
                · subst q; rw [upd_s]; exact wM_and (hU k hk)
                · rw [upd_n q]; exact hU k hk
              refine ⟨2, s2, τ, 0, s4, ?_, ?_, rfl, ⟨⟨eU2, hU2⟩, hB, hC, ⟨n, hn, d1, d2, d3⟩, hE, hF, hG, wKH_s hH⟩, wFr_ui (wFr_ui (wFr_ui (wFr_ui (wFr_ui (wFr_ui (wFr_refl σ) (by decide)) (by decide)) (by decide)) (by decide)) (by decide)) (by decide)⟩
              · simp only [g22, g23, g24_eq, decide_eq_true ha, decide_eq_true hb, xb_t, x10, if_false, if_neg hab, g23_24, g26_1, g27, h2, cond_true, h3, g28_eq, decide_eq_false hbit, xb_f, true_or, decide_true, if_true, g29, g30_eq, ew, decide_eq_false hl, g23_56, g31_1, g32]
                rw [e33]
                simp only [xb_t, x10, if_false, g40, h2, cond_true, h3, n10, if_true]
                rfl
              · have b' : ¬ (s2 54 i >>> (Int32.ofNat j &&& 31)) &&& 1 = 1 := hbit'
                have l' : ¬ (wc (s2 54) (1 <<< (Int32.ofNat j &&& 31)) >>> (Int32.ofNat i &&& 31)) &&& 1 = 1 := hl
                simp only [g150, g151, g152_eq, decide_eq_true ha, decide_eq_true hb, xb_t, x10, if_false, if_neg hab, h2, cond_true, h3, if_neg b', g153_eq, if_neg l', g150_52, xu_s, q54, if_true]
                rw [show g154 (xh_ui (xh_ui s2 53 21 0) 54 i (s2 54 i ||| (1 <<< (Int32.ofNat j &&& 31)))) = _ from e154]
                rfl
    · refine ⟨1, σ, τ, 0, xh_ui σ 53 21 1, ?_, ?_, rfl, wK_say h 1, wFr_say σ 1⟩
      · simp only [g22, g23, g24_eq, decide_eq_true ha, decide_eq_false hb, xb_t, xb_f, x10, if_false, if_true, g23_23, g23_24, g26_0]
      · simp only [g150, g151, g152_eq, decide_eq_true ha, decide_eq_false hb, xb_t, xb_f, x10, if_false, if_true, g150_14, g150_52, xu_s]
  · refine ⟨1, σ, τ, 0, xh_ui σ 53 21 1, ?_, ?_, rfl, wK_say h 1, wFr_say σ 1⟩
    · simp only [g22, g23, g24_eq, decide_eq_false ha, xb_f, if_true, g23_23, g23_24, g26_0]
    · simp only [g150, g151, g152_eq, decide_eq_false ha, xb_f, if_true, g150_14, g150_52, xu_s, x10, if_false]
/-- assign -/
theorem op2 {t : Nat} {σ : xS} (h : wK t σ) (a b : Int32) (τ : xT) : wOv (g45 a b) (g159 a b) t σ τ := by
  by_cases ha : 0 ≤ a ∧ a < 8
  · by_cases hb : 0 ≤ b ∧ b < 12
    · obtain ⟨i, hi, rfl⟩ := x_below (by decide) ha.1 ha.2
      obtain ⟨j, hj, rfl⟩ := x_below (by decide) hb.1 hb.2
      obtain ⟨h1, h2, h3, h4⟩ := x8 i hi
      have hm := wM_1 j hj
      by_cases hbit : (σ 4 i >>> (Int32.ofNat j &&& 31)) &&& 1 = 1
      · have hbit' : (σ 55 i >>> (Int32.ofNat j &&& 31)) &&& 1 = 1 := by rw [← h.2.1.1]; exact hbit
        refine ⟨2, σ, τ, 0, xh_ui σ 53 21 2, ?_, ?_, rfl, wK_say h 2, wFr_say σ 2⟩
        · simp only [g45, g46, g47_eq, g24_eq, decide_eq_true ha, decide_eq_true hb, xb_t, x10, if_false, g46_19, g26_1, g48, h2, cond_true, h3, g28_eq, decide_eq_true hbit, or_true, decide_true, g46_39, g31_0, n10, if_true]
        · simp only [g159, g152_eq, decide_eq_true ha, decide_eq_true hb, xb_t, x10, if_false, h2, cond_true, h3, if_pos hbit', g159_42, xu_s, x20]
      · have hbit' : ¬ (σ 55 i >>> (Int32.ofNat j &&& 31)) &&& 1 = 1 := by rw [← h.2.1.1]; exact hbit
        obtain ⟨hA, hB, hC, ⟨n, hn, d1, d2, d3⟩, hE, hF, hG, hH⟩ := h
        let s1 : xS := xh_ui σ 4 i (σ 4 i ||| (1 <<< (Int32.ofNat j &&& 31)))
        have hU : ∀ k, k < 8 → wM (s1 4 k) := fun k hk => by
          show wM (upd (σ 4) i _ k)
          by_cases q : k = i
          · subst q; rw [upd_s]; exact wM_or (hB.2.1 k hk) hm
          · rw [upd_n q]; exact hB.2.1 k hk
        have eU : upd (σ 4) i (σ 4 i ||| (1 <<< (Int32.ofNat j &&& 31))) = upd (σ 55) i (σ 55 i ||| (1 <<< (Int32.ofNat j &&& 31))) := by rw [hB.1]
        have hX := wX_eq (n := n) (U := σ 2) (G := s1 4) (A := σ 9) (A' := σ 60) (O := σ 58) (D := σ 12) (R := σ 13) (L := σ 14) hA.2 hU (wse_of hC) hA.1 eU d3
        have e33 : g33 s1 = _ := g33_eq hn d1
        cases hq : (List.range' 0 n).any fun b => wz (s1 2) (s1 4) (s1 9) (s1 12 b) (s1 13 b) (s1 14 b) with
        | false =>
          let s3 : xS := xh_ui (xh_ui s1 53 21 0) 55 i (s1 55 i ||| (1 <<< (Int32.ofNat j &&& 31)))
          have e154 : g154 s3 = _ := g154_eq (σ := s3) hn d2
          have hq3 : ((List.range' 0 n).any fun b => wy (s3 54) (s3 55) (s3 60) (s3 58) (s3 62 b) (s3 63 b) (s3 64 b)) = false := hX.symm.trans hq
          rw [hq3] at e154
          rw [hq] at e33
          refine ⟨0, s1, τ, 0, s3, ?_, ?_, rfl, ⟨hA, ⟨eU, hU, hB.2.2⟩, hC, ⟨n, hn, d1, d2, d3⟩, hE, hF, hG, wKH_s hH⟩, wFr_ui (wFr_ui (wFr_ui (wFr_refl σ) (by decide)) (by decide)) (by decide)⟩
          · simp only [g45, g46, g47_eq, g24_eq, decide_eq_true ha, decide_eq_true hb, xb_t, x10, if_false, g46_19, g26_1, g48, h2, cond_true, h3, g28_eq, decide_eq_false hbit, xb_f, true_or, decide_true, if_true, g46_39, g31_1, g49]
            rw [e33]
            rfl
          · have b' : ¬ (s1 55 i >>> (Int32.ofNat j &&& 31)) &&& 1 = 1 := hbit'
            simp only [g159, g152_eq, decide_eq_true ha, decide_eq_true hb, xb_t, x10, if_false, h2, cond_true, h3, if_neg b', g159_42, xu_s, q55, if_true]
            rw [show g154 (xh_ui (xh_ui s1 53 21 0) 55 i (s1 55 i ||| (1 <<< (Int32.ofNat j &&& 31)))) = _ from e154]
            rfl
        | true =>
          let s2 : xS := xh_ui s1 4 i (s1 4 i &&& ((1 <<< (Int32.ofNat j &&& 31)) ^^^ (-1)))
          let s3 : xS := xh_ui (xh_ui s2 53 21 0) 55 i (s2 55 i ||| (1 <<< (Int32.ofNat j &&& 31)))
          let s4 : xS := xh_ui (xh_ui s3 55 i (s3 55 i &&& ((1 <<< (Int32.ofNat j &&& 31)) ^^^ (-1)))) 53 21 2
          have e154 : g154 s3 = _ := g154_eq (σ := s3) hn d2
          have hq3 : ((List.range' 0 n).any fun b => wy (s3 54) (s3 55) (s3 60) (s3 58) (s3 62 b) (s3 63 b) (s3 64 b)) = true := hX.symm.trans hq
          rw [hq3] at e154
          rw [hq] at e33
          have eU2 : s4 4 = s4 55 := by
            show upd (upd (σ 4) i (σ 4 i ||| (1 <<< (Int32.ofNat j &&& 31)))) i (upd (σ 4) i (σ 4 i ||| (1 <<< (Int32.ofNat j &&& 31))) i &&& ((1 <<< (Int32.ofNat j &&& 31)) ^^^ (-1))) = upd (upd (σ 55) i (σ 55 i ||| (1 <<< (Int32.ofNat j &&& 31)))) i (upd (σ 55) i (σ 55 i ||| (1 <<< (Int32.ofNat j &&& 31))) i &&& ((1 <<< (Int32.ofNat j &&& 31)) ^^^ (-1)))
            rw [eU]
          have hU2 : ∀ k, k < 8 → wM (s4 4 k) := fun k hk => by
            show wM (upd (s1 4) i _ k)
            by_cases q : k = i
            · subst q; rw [upd_s]; exact wM_and (hU k hk)
            · rw [upd_n q]; exact hU k hk
          refine ⟨2, s2, τ, 0, s4, ?_, ?_, rfl, ⟨hA, ⟨eU2, hU2, hB.2.2⟩, hC, ⟨n, hn, d1, d2, d3⟩, hE, hF, hG, wKH_s hH⟩, wFr_ui (wFr_ui (wFr_ui (wFr_ui (wFr_ui (wFr_ui (wFr_refl σ) (by decide)) (by decide)) (by decide)) (by decide)) (by decide)) (by decide)⟩
          · simp only [g45, g46, g47_eq, g24_eq, decide_eq_true ha, decide_eq_true hb, xb_t, x10, if_false, g46_19, g26_1, g48, h2, cond_true, h3, g28_eq, decide_eq_false hbit, xb_f, true_or, decide_true, if_true, g46_39, g31_1, g49]
            rw [e33]
            simp only [xb_t, x10, if_false, g50, h2, cond_true, h3, n10, if_true]
            rfl
          · have b' : ¬ (s2 55 i >>> (Int32.ofNat j &&& 31)) &&& 1 = 1 := hbit'
            simp only [g159, g152_eq, decide_eq_true ha, decide_eq_true hb, xb_t, x10, if_false, h2, cond_true, h3, if_neg b', g159_42, xu_s, q55, if_true]
            rw [show g154 (xh_ui (xh_ui s2 53 21 0) 55 i (s2 55 i ||| (1 <<< (Int32.ofNat j &&& 31)))) = _ from e154]
            rfl
    · refine ⟨1, σ, τ, 0, xh_ui σ 53 21 1, ?_, ?_, rfl, wK_say h 1, wFr_say σ 1⟩
      · simp only [g45, g46, g47_eq, g24_eq, decide_eq_true ha, decide_eq_false hb, xb_t, xb_f, x10, if_false, if_true, g46_18, g46_19, g26_0]
      · simp only [g159, g152_eq, decide_eq_true ha, decide_eq_false hb, xb_t, xb_f, x10, if_false, if_true, g159_19, g159_42, xu_s]
  · refine ⟨1, σ, τ, 0, xh_ui σ 53 21 1, ?_, ?_, rfl, wK_say h 1, wFr_say σ 1⟩
    · simp only [g45, g46, g47_eq, decide_eq_false ha, xb_f, if_true, g46_18, g46_19, g26_0]
    · simp only [g159, g152_eq, decide_eq_false ha, xb_f, if_true, g159_19, g159_42, xu_s, x10, if_false]
