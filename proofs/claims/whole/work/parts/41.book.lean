/-! place, entry, touch, audit, feed -/
theorem xrow_0 : (List.range 700).all (fun m => decide (0 ≤ (Int32.ofNat m ^^^ 40) ∧ Int32.ofNat m - Int32.ofNat m / 40 * 40 = Int32.ofNat (m % 40))) = true := by decide +kernel
theorem xrow {m : Nat} (hm : m < 700) : 0 ≤ (Int32.ofNat m ^^^ 40) ∧ Int32.ofNat m - Int32.ofNat m / 40 * 40 = Int32.ofNat (m % 40) := of_decide_eq_true (List.all_eq_true.mp xrow_0 m (List.mem_range.mpr hm))
theorem xcell_0 : (List.range 40).all (fun r => (List.range 7).all fun w => decide (Int32.ofNat r * 7 + Int32.ofNat w = Int32.ofNat (7 * r + w) ∧ 7 * Int32.ofNat r + Int32.ofNat w = Int32.ofNat (7 * r + w))) = true := by decide +kernel
theorem xcell {r w : Nat} (hr : r < 40) (hw : w < 7) : Int32.ofNat r * 7 + Int32.ofNat w = Int32.ofNat (7 * r + w) ∧ 7 * Int32.ofNat r + Int32.ofNat w = Int32.ofNat (7 * r + w) := of_decide_eq_true (List.all_eq_true.mp (List.all_eq_true.mp xcell_0 r (List.mem_range.mpr hr)) w (List.mem_range.mpr hw))
theorem xnc {n : Nat} (h : n < 280) : xn (Int32.ofNat n) 280 = true ∧ (Int32.ofNat n).toNatClampNeg = n := ⟨xn_of (by omega) h, Int32.toNatClampNeg_ofNat_of_lt (by omega)⟩
theorem g20_eq {m : Nat} (hm : m < 700) (σ : xS) : g20 (Int32.ofNat m) σ = some (.inl (Int32.ofNat (m % 40) * 7), σ) := by
  obtain ⟨h1, h2⟩ := xrow hm
  have h4 : decide ((40 : Int32) = 0) = false := by decide
  simp only [g20, g21, h4, Bool.not_false, cond_true, if_pos h1, h2]
theorem g19_eq {m w : Nat} (hm : m < 700) (hw : w < 7) (σ : xS) : g19 (Int32.ofNat m) (Int32.ofNat w) σ = some (.inl (σ 52 (7 * (m % 40) + w)), σ) := by
  have hr : m % 40 < 40 := Nat.mod_lt _ (by decide)
  obtain ⟨h1, h2⟩ := xnc (n := 7 * (m % 40) + w) (by omega)
  simp only [g19, g20_eq hm, (xcell hr hw).1, h1, cond_true, h2]
theorem xsub40 {n : Nat} (hn : n < 700) : (if 0 < Int32.ofNat n - 40 then Int32.ofNat n - 40 else 0) = Int32.ofNat (n - 40) ∧ (if 40 ≤ Int32.ofNat n then Int32.ofNat n - 40 else 0) = Int32.ofNat (n - 40) := by
  have h : (List.range 700).all (fun n => decide ((if 0 < Int32.ofNat n - 40 then Int32.ofNat n - 40 else 0) = Int32.ofNat (n - 40) ∧ (if 40 ≤ Int32.ofNat n then Int32.ofNat n - 40 else 0) = Int32.ofNat (n - 40))) = true := by decide +kernel
  exact of_decide_eq_true (List.all_eq_true.mp h n (List.mem_range.mpr hn))
theorem g16_eq {σ : xS} {n : Nat} (hn : n < 700) (h : σ 51 1 = Int32.ofNat n) : g16 σ = some (.inl (Int32.ofNat (n - 40)), σ) := by
  rw [← (xsub40 hn).1]
  unfold g16 g17
  rw [h]
  by_cases q : 0 < Int32.ofNat n - 40
  · rw [if_pos q, if_pos q]
  · rw [if_neg q, if_neg q]
theorem g213_eq {σ : xS} {n : Nat} (hn : n < 700) (h : σ 53 51 = Int32.ofNat n) : g213 σ = some (.inl (Int32.ofNat (n - 40)), σ) := by
  rw [← (xsub40 hn).2]
  unfold g213
  rw [h]
  by_cases q : 40 ≤ Int32.ofNat n
  · rw [if_pos q, if_pos q]
  · rw [if_neg q, if_neg q]
theorem x_kept {n : Nat} (hn : n < 700) {k : Int32} (h1 : ¬ k < Int32.ofNat (n - 40)) (h2 : ¬ Int32.ofNat n ≤ k) : ∃ m, m < n ∧ k = Int32.ofNat m := by
  refine x_below (by omega) ?_ (Int32.not_le.mp h2)
  have a := Int32.le_iff_toInt_le.mp (Int32.not_lt.mp h1)
  rw [Int32.toInt_ofNat_of_lt (by omega)] at a
  rw [Int32.le_iff_toInt_le]
  have e0 : (0 : Int32).toInt = 0 := by decide
  omega
/-- entry -/
theorem op17 {t : Nat} {σ : xS} (h : wK t σ) (ht : t < 700) (a b : Int32) (τ : xT) : wOp (g141 a b) (g211 a b) t σ τ := by
  obtain ⟨h52, h2, n, hn, n1, n2, n3⟩ := h.2.2.2.2.2.2.2
  have hn7 : n < 700 := by omega
  by_cases hb : 0 ≤ b ∧ b < 7
  · obtain ⟨w, hw, rfl⟩ := x_below (k := 7) (by decide) hb.1 hb.2
    by_cases ha : a = -1
    · refine ⟨0, σ, xh_ul τ 92 0 (Int32.toInt64 (Int32.ofNat n)), Int32.ofNat n, xh_ui σ 53 21 0, ?_, ?_, rfl, fun _ => rfl, wK_say h 0, wFr_say σ 0⟩
      · simp only [g141, g142, g25_eq, decide_eq_true hb, xb_t, g26_1, if_pos ha, n1]
      · have e : xh_ui σ 53 21 0 53 51 = Int32.ofNat n := n2
        simp only [g211, g152_eq, decide_eq_true hb, xb_t, x10, if_false, if_pos ha, g211_31, g211_32, xu_s, if_true, e]
    · by_cases k1 : a < Int32.ofNat (n - 40)
      · refine ⟨2, σ, τ, 0, xh_ui σ 53 21 2, ?_, ?_, rfl, fun q => absurd q (by decide), wK_say h 2, wFr_say σ 2⟩
        · simp only [g141, g142, g25_eq, decide_eq_true hb, xb_t, g26_1, if_neg ha, g143, g144, g16_eq hn7 n1, if_pos k1, if_true, n30, if_false]
        · simp only [g211, g152_eq, decide_eq_true hb, xb_t, x10, if_false, if_neg ha, g212, g213_eq hn7 n2, if_pos k1, if_true, g211_32, xu_s, x20]
      · by_cases k2 : Int32.ofNat n ≤ a
        · refine ⟨2, σ, τ, 0, xh_ui σ 53 21 2, ?_, ?_, rfl, fun q => absurd q (by decide), wK_say h 2, wFr_say σ 2⟩
          · simp only [g141, g142, g25_eq, decide_eq_true hb, xb_t, g26_1, if_neg ha, g143, g144, g16_eq hn7 n1, if_neg k1, n1, if_pos k2, if_true, n30, if_false]
          · simp only [g211, g152_eq, decide_eq_true hb, xb_t, x10, if_false, if_neg ha, g212, g213_eq hn7 n2, if_neg k1, n2, if_pos k2, if_true, g211_32, xu_s, x20]
        · obtain ⟨m, hm, rfl⟩ := x_kept hn7 k1 k2
          have hr : m % 40 < 40 := Nat.mod_lt _ (by decide)
          obtain ⟨c1, c2⟩ := xnc (n := 7 * (m % 40) + w) (by omega)
          refine ⟨0, σ, xh_ul τ 92 0 (Int32.toInt64 (σ 91 (7 * (m % 40) + w))), σ 91 (7 * (m % 40) + w), xh_ui σ 53 21 0, ?_, ?_, rfl, fun _ => rfl, wK_say h 0, wFr_say σ 0⟩
          · simp only [g141, g142, g25_eq, decide_eq_true hb, xb_t, g26_1, if_neg ha, g143, g144, g16_eq hn7 n1, if_neg k1, n1, if_neg k2, x10, if_false, g19_eq (by omega : m < 700) hw]
            rw [h52]
          · have e : xh_ui σ 53 21 0 91 (7 * (m % 40) + w) = σ 91 (7 * (m % 40) + w) := rfl
            simp only [g211, g152_eq, decide_eq_true hb, xb_t, x10, if_false, if_neg ha, g212, g213_eq hn7 n2, if_neg k1, n2, if_neg k2, g211_31, g211_32, xu_s, if_true, (xrow (by omega : m < 700)).2, (xcell hr hw).2, c1, cond_true, c2, e]
  · refine ⟨1, σ, τ, 0, xh_ui σ 53 21 1, ?_, ?_, rfl, fun q => absurd q (by decide), wK_say h 1, wFr_say σ 1⟩
    · simp only [g141, g142, g25_eq, decide_eq_false hb, xb_f, g26_0, if_true]
    · simp only [g211, g152_eq, decide_eq_false hb, xb_f, if_true, g211_32, xu_s, x10, if_false]
/-- touch -/
theorem op18 {t : Nat} {σ : xS} (h : wK t σ) (ht : t < 700) (a b c : Int32) (τ : xT) : wOv (g145 a b c) (g214 a b c) t σ τ := by
  obtain ⟨hA, hB, hC, hD, hE, hF, hG, h52, h2, n, hn, n1, n2, n3⟩ := id h
  have hn7 : n < 700 := by omega
  by_cases hb : 0 ≤ b ∧ b < 6
  · obtain ⟨w, hw, rfl⟩ := x_below (k := 6) (by decide) hb.1 hb.2
    by_cases k1 : a < Int32.ofNat (n - 40)
    · refine ⟨2, σ, τ, 0, xh_ui σ 53 21 2, ?_, ?_, rfl, wK_say h 2, wFr_say σ 2⟩
      · simp only [g145, g146, g25_eq, decide_eq_true hb, xb_t, g26_1, g143, g144, g16_eq hn7 n1, if_pos k1, if_true, n30, if_false]
      · simp only [g214, g152_eq, decide_eq_true hb, xb_t, x10, if_false, g212, g213_eq hn7 n2, if_pos k1, if_true, g214_27, xu_s, x20]
    · by_cases k2 : Int32.ofNat n ≤ a
      · refine ⟨2, σ, τ, 0, xh_ui σ 53 21 2, ?_, ?_, rfl, wK_say h 2, wFr_say σ 2⟩
        · simp only [g145, g146, g25_eq, decide_eq_true hb, xb_t, g26_1, g143, g144, g16_eq hn7 n1, if_neg k1, n1, if_pos k2, if_true, n30, if_false]
        · simp only [g214, g152_eq, decide_eq_true hb, xb_t, x10, if_false, g212, g213_eq hn7 n2, if_neg k1, n2, if_pos k2, if_true, g214_27, xu_s, x20]
      · obtain ⟨m, hm, rfl⟩ := x_kept hn7 k1 k2
        have hr : m % 40 < 40 := Nat.mod_lt _ (by decide)
        obtain ⟨c1, c2⟩ := xnc (n := 7 * (m % 40) + w) (by omega)
        let s1 : xS := xh_ui σ 52 (7 * (m % 40) + w) (σ 52 (7 * (m % 40) + w) ^^^ c)
        let s4 : xS := xh_ui (xh_ui s1 53 21 0) 91 (7 * (m % 40) + w) (σ 91 (7 * (m % 40) + w) ^^^ c)
        have hH : wKH (t + 1) s4 := by
          refine ⟨?_, h2, n, by omega, n1, n2, ?_⟩
          · show upd (σ 52) _ (σ 52 (7 * (m % 40) + w) ^^^ c) = upd (σ 91) _ (σ 91 (7 * (m % 40) + w) ^^^ c)
            rw [h52]
          · show σ 51 3 = if n = 0 then σ 53 52 else upd (σ 91) (7 * (m % 40) + w) (σ 91 (7 * (m % 40) + w) ^^^ c) (7 * ((n - 1) % 40) + 6)
            rw [upd_n (by omega)]
            exact n3
        refine ⟨0, s1, τ, 0, s4, ?_, ?_, rfl, ⟨hA, hB, hC, hD, hE, hF, hG, hH⟩, wFr_ui (wFr_ui (wFr_ui (wFr_refl σ) (by decide)) (by decide)) (by decide)⟩
        · simp only [g145, g146, g25_eq, decide_eq_true hb, xb_t, g26_1, g143, g144, g16_eq hn7 n1, if_neg k1, n1, if_neg k2, x10, if_false, g147, g20_eq (by omega : m < 700), (xcell hr (by omega : w < 7)).1, c1, cond_true, c2]
          rfl
        · have e1 : s1 53 51 = Int32.ofNat n := n2
          have e2 : ∀ v, xh_ui s1 53 21 v 91 = s1 91 := fun _ => rfl
          simp only [g214, g152_eq, decide_eq_true hb, xb_t, x10, if_false, g212, g213_eq hn7 e1, if_neg k1, e1, if_neg k2, g214_27, xu_s, if_true, (xrow (by omega : m < 700)).2, (xcell hr (by omega : w < 7)).2, c1, cond_true, c2]
          rfl
  · refine ⟨1, σ, τ, 0, xh_ui σ 53 21 1, ?_, ?_, rfl, wK_say h 1, wFr_say σ 1⟩
    · simp only [g145, g146, g25_eq, decide_eq_false hb, xb_f, g26_0, if_true]
    · simp only [g214, g152_eq, decide_eq_false hb, xb_f, if_true, g214_27, xu_s, x10, if_false]
/-- a link of the book -/
def wl (B : Nat → Int32) (m : Nat) (h : Int32) : Int32 := (((List.range' 0 6).foldl (fun h w => (h ^^^ B (7 * (m % 40) + w)) * 16777619) h) ^^^ Int32.ofNat m) * 16777619
theorem g18_eq {m : Nat} (hm : m < 700) (x : Int32) (σ : xS) : g18 (Int32.ofNat m) x σ = some (.inl (wl (σ 52) m x), σ) := by
  unfold g18 g18_5
  exact xlo_for (f := fun a : Int32 × Int32 × Int32 × xS => g18_5b a.1 a.2.1 a.2.2.1 a.2.2.2) (fun i y => (Int32.ofNat m, y, Int32.ofNat i, σ)) 6 (fun i y => (y ^^^ σ 52 (7 * (m % 40) + i)) * 16777619) (fun y => (Sum.inl ((y ^^^ Int32.ofNat m) * 16777619), σ)) (fun i y hi => by
    obtain ⟨h1, h2, h3, h4⟩ := x6 i hi
    dsimp only
    unfold g18_5b
    rw [if_neg h1, g19_eq hm (by omega), h4]) (fun y => by
    dsimp only
    unfold g18_5b
    rw [if_pos (by decide)]) 6 1000 0 x rfl (by decide)
theorem g210_eq {m : Nat} (hm : m < 700) (x : Int32) (σ : xS) : g210 x (Int32.ofNat m) σ = some (.inl (wl (σ 91) m x), σ) := by
  have hr : m % 40 < 40 := Nat.mod_lt _ (by decide)
  unfold g210 g210_5
  exact xlo_for (f := fun a : Int32 × Int32 × Int32 × xS => g210_5b a.1 a.2.1 a.2.2.1 a.2.2.2) (fun i y => (Int32.ofNat m, y, Int32.ofNat i, σ)) 6 (fun i y => (y ^^^ σ 91 (7 * (m % 40) + i)) * 16777619) (fun y => (Sum.inl ((y ^^^ Int32.ofNat m) * 16777619), σ)) (fun i y hi => by
    obtain ⟨h1, h2, h3, h4⟩ := x6 i hi
    obtain ⟨c1, c2⟩ := xnc (n := 7 * (m % 40) + i) (by omega)
    dsimp only
    unfold g210_5b
    rw [if_neg h1, (xrow hm).2, (xcell hr (by omega : i < 7)).2, c1, cond_true, c2, h4]) (fun y => by
    dsimp only
    unfold g210_5b
    rw [if_pos (by decide)]) 6 1000 0 x rfl (by decide)
theorem x700 {n i : Nat} (hn : n < 700) (hi : i < n) : ¬ Int32.ofNat n ≤ Int32.ofNat i := by
  rw [Int32.le_iff_toInt_le, Int32.toInt_ofNat_of_lt (by omega), Int32.toInt_ofNat_of_lt (by omega)]; omega
theorem x_succ (n : Nat) : Int32.ofNat n + 1 = Int32.ofNat (n + 1) := by rw [Int32.ofNat_add]; rfl
theorem x_inj {m n : Nat} (hm : m < 700) (hn : n < 700) (h : Int32.ofNat m = Int32.ofNat n) : m = n := by
  have := congrArg Int32.toNatClampNeg h
  rw [Int32.toNatClampNeg_ofNat_of_lt (by omega), Int32.toNatClampNeg_ofNat_of_lt (by omega)] at this
  exact this
/-- the link before entry k, as the reference has it -/
def wah (B : Nat → Int32) (b : Int32) (n k : Nat) : Int32 := if k = n - 40 then b else B (7 * ((k - 1) % 40) + 6)
theorem g216_eq {σ : xS} {n k : Nat} (hn : n < 700) (hk : k < n) (h : σ 53 51 = Int32.ofNat n) : n - 40 ≤ k → g216 (Int32.ofNat k) σ = some (.inl (wah (σ 91) (σ 53 52) n k), σ) := by
  intro hf
  unfold wah
  by_cases q : k = n - 40
  · have q' : Int32.ofNat k = Int32.ofNat (n - 40) := by rw [q]
    simp only [g216, g213_eq hn h, if_pos q', if_pos q]
  · have q' : ¬ Int32.ofNat k = Int32.ofNat (n - 40) := fun e => q (x_inj (by omega) (by omega) e)
    have hk1 : Int32.ofNat k - 1 = Int32.ofNat (k - 1) := by rw [Int32.ofNat_sub _ _ (by omega)]; rfl
    have hr : (k - 1) % 40 < 40 := Nat.mod_lt _ (by decide)
    obtain ⟨c1, c2⟩ := xnc (n := 7 * ((k - 1) % 40) + 6) (by omega)
    have hc : 7 * Int32.ofNat ((k - 1) % 40) + 6 = Int32.ofNat (7 * ((k - 1) % 40) + 6) := (xcell hr (by decide : 6 < 7)).2
    simp only [g216, g213_eq hn h, if_neg q', if_neg q, hk1, (xrow (by omega : k - 1 < 700)).2, hc, c1, cond_true, c2]
theorem w_audit {σ s : xS} {n : Nat} (hn : n < 700) (n1 : σ 51 1 = Int32.ofNat n) (n2 : s 53 51 = Int32.ofNat n) (hB : σ 52 = s 91) : ∀ (d f1 f2 k : Nat) (x : Int32), k + d = n → n - 40 ≤ k → d < f1 → d < f2 → x = wah (s 91) (s 53 52) n k →
    ∃ v, xlo (fun a : Int32 × Int32 × xS => g15_10b a.1 a.2.1 a.2.2) f1 (x, Int32.ofNat k, σ) = some (.inl v, σ) ∧ xlo (fun a : Int32 × xS => g215_10b a.1 a.2) f2 (Int32.ofNat k, s) = some (.inl v, s)
  | _, 0, _, _, _, _, _, h, _, _ => absurd h (Nat.not_lt_zero _)
  | _, _ + 1, 0, _, _, _, _, _, h, _ => absurd h (Nat.not_lt_zero _)
  | 0, f1 + 1, f2 + 1, k, x, hk, _, _, _, _ => by
    rw [Nat.add_zero] at hk
    subst hk
    refine ⟨-1, xlo_end ?_, xlo_end ?_⟩
    · dsimp only; unfold g15_10b; rw [n1, if_pos (Int32.le_refl _)]
    · dsimp only; unfold g215_10b; rw [n2, if_pos (Int32.le_refl _)]
  | d + 1, f1 + 1, f2 + 1, k, x, hk, hf, h1, h2, hx => by
    have hkn : k < n := by omega
    have hr : k % 40 < 40 := Nat.mod_lt _ (by decide)
    obtain ⟨c1, c2⟩ := xnc (n := 7 * (k % 40) + 6) (by omega)
    have hc : 7 * Int32.ofNat (k % 40) + 6 = Int32.ofNat (7 * (k % 40) + 6) := (xcell hr (by decide : 6 < 7)).2
    have hle := x700 hn hkn
    have e19 : g19 (Int32.ofNat k) 6 σ = some (.inl (σ 52 (7 * (k % 40) + 6)), σ) := g19_eq (w := 6) (by omega) (by decide) σ
    by_cases q : wl (s 91) k x = s 91 (7 * (k % 40) + 6)
    · have b1 : g15_10b x (Int32.ofNat k) σ = some (.inl (wl (s 91) k x, Int32.ofNat (k + 1), σ)) := by
        unfold g15_10b
        rw [n1, if_neg hle, g18_eq (by omega)]
        dsimp only
        rw [e19]
        dsimp only
        rw [hB, if_pos q, x_succ]
      have b2 : g215_10b (Int32.ofNat k) s = some (.inl (Int32.ofNat (k + 1), s)) := by
        unfold g215_10b
        rw [n2, if_neg hle, (xrow (by omega : k < 700)).2, hc, c1, cond_true, g216_eq hn hkn n2 hf]
        dsimp only
        rw [g210_eq (by omega)]
        dsimp only
        rw [c2, ← hx, if_pos q.symm, x_succ]
      obtain ⟨v, a1, a2⟩ := w_audit hn n1 n2 hB d f1 f2 (k + 1) (wl (s 91) k x) (by omega) (by omega) (by omega) (by omega) (by
        unfold wah
        rw [if_neg (by omega), q]
        rfl)
      exact ⟨v, by rw [xlo_step (a := (x, Int32.ofNat k, σ)) b1, a1], by rw [xlo_step (a := (Int32.ofNat k, s)) b2, a2]⟩
    · refine ⟨Int32.ofNat k, xlo_end ?_, xlo_end ?_⟩
      · dsimp only
        unfold g15_10b
        rw [n1, if_neg hle, g18_eq (by omega)]
        dsimp only
        rw [e19]
        dsimp only
        rw [hB, if_neg q]
      · dsimp only
        unfold g215_10b
        rw [n2, if_neg hle, (xrow (by omega : k < 700)).2, hc, c1, cond_true, g216_eq hn hkn n2 hf]
        dsimp only
        rw [g210_eq (by omega)]
        dsimp only
        rw [c2, ← hx, if_neg (fun e => q e.symm)]
/-- audit -/
theorem op19 {t : Nat} {σ : xS} (h : wK t σ) (ht : t < 700) : ∃ v, g14 σ = some (.inl v, σ) ∧ g215 σ = some (.inl v, xh_ui σ 53 21 0) := by
  obtain ⟨h52, h2, n, hn, n1, n2, n3⟩ := h.2.2.2.2.2.2.2
  have hn7 : n < 700 := by omega
  obtain ⟨v, a1, a2⟩ := w_audit (σ := σ) (s := xh_ui σ 53 21 0) hn7 n1 n2 h52 (n - (n - 40)) 1000 1000 (n - 40) (σ 51 2) (by omega) (by omega) (by omega) (by omega) (by
    unfold wah
    rw [if_pos rfl]
    exact h2)
  refine ⟨v, ?_, ?_⟩
  · unfold g14 g15
    rw [g16_eq hn7 n1]
    dsimp only
    unfold g15_10
    rw [a1]
  · unfold g215
    rw [g213_eq (σ := xh_ui σ 53 21 0) hn7 n2]
    dsimp only
    unfold g215_10
    rw [a2]
