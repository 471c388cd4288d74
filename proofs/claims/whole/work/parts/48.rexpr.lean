/-! the reference reads an expression: all of it -/
theorem g171_0 {s : xS} {e : Nat} (h : s 53 20 = Int32.ofNat e) (he : e ≤ 1000) : g171 s = some (.inl 0, s) := by
  have z : (0 : Int32).toInt = 0 := by decide
  unfold g171
  rw [h, if_pos (by rw [Int32.le_iff_toInt_le, z, Int32.toInt_ofNat_of_lt (by omega)]; omega)]
theorem rend_F {a : Int32 × Int32 × Int32 × xS} {x1 x2 x3 : Int32} {s : xS} {e : Nat} (h : rLp a = some (.inl (x1, x2, x3, s))) (he : s 53 20 = Int32.ofNat e) (h1 : e ≤ 1000) : rend 2 a (.inl 0, s) := by
  refine rch_end (n := 1) (m := 1) (rch_1 h) (rend_1 ?_)
  show g182_6b x1 x2 x3 s = _
  simp only [g182_6b, g171_0 he h1, if_true]
theorem rF_20 {s : xS} (v : Int32) : rF s (xh_ui s 53 20 v) := ⟨fun c h _ _ => xu_o h, fun j _ h _ _ => xu_n h, fun c a b j _ => by rw [xu_o (by omega)], fun j _ => rfl⟩
/-- failed, and what waits is popped -/
theorem rend_pop {a : Int32 × Int32 × Int32 × xS} {x2 : Int32} {k D : Nat} {s : xS} {e : Nat} (h : rLp a = g182_153 (Int32.ofNat k) x2 0 s) (hk : D + k ≤ 300) (hD : s 53 32 = Int32.ofNat D) (he : s 53 20 = Int32.ofNat e) (h1 : e ≤ 1000) : ∃ s', rend 2 a (.inl 0, s') ∧ s' 53 20 = Int32.ofNat e ∧ rF s s' := by
  obtain ⟨k', s', a1, a2, a3⟩ := g182_popF x2 k D 1000 s hk hD (by omega)
  exact ⟨s', rend_F (h.trans a1) (a3.trans he) h1, a3.trans he, a2⟩
def rPo (B : Nat → Int32) (L i k b M D : Nat) (s : xS) (r : xR) : Prop :=
  (r.1 = true → ∃ n s', n + i ≤ r.2.1 ∧ rch n (Int32.ofNat k, Int32.ofNat b, 1, s) (Int32.ofNat k, Int32.ofNat b, 0, s') ∧ rR B L r.2.1 s' ∧ rT M D k r.2.2.2.1 (r.2.2.2.2 M) s s') ∧
  (r.1 = false → ∃ n s', n + i ≤ r.2.1 + 2 ∧ rend n (Int32.ofNat k, Int32.ofNat b, 1, s) (.inl 0, s') ∧ s' 53 20 = Int32.ofNat r.2.1 ∧ rF s s')
/-- .. before the denials are done -/
def rPi (B : Nat → Int32) (L j K b M D : Nat) (s : xS) (r : xR) : Prop :=
  (r.1 = true → ∃ n s' a, n + 1 + j ≤ r.2.1 ∧ rch n (Int32.ofNat K, Int32.ofNat b, 1, s) a ∧ rLp a = g182_153 (Int32.ofNat K) (Int32.ofNat b) 0 s' ∧ rR B L r.2.1 s' ∧ rT M D K r.2.2.2.1 (r.2.2.2.2 M) s s') ∧
  (r.1 = false → ∃ n s', n + j ≤ r.2.1 + 2 ∧ rend n (Int32.ofNat K, Int32.ofNat b, 1, s) (.inl 0, s') ∧ s' 53 20 = Int32.ofNat r.2.1 ∧ rF s s')
theorem rPo_of {B : Nat → Int32} {L i k b M D t : Nat} {s s1 : xS} {r : xR} (hL : L ≤ 300) (hg : pG L (i + t) r) (hD : D + k ≤ i) (hM : s 53 31 = Int32.ofNat M) (h0 : k = 0 ∨ ¬ s 86 (k - 1) = 1000)
    (hc : rch t (Int32.ofNat k, Int32.ofNat b, 1, s) (Int32.ofNat (k + t), Int32.ofNat b, 1, s1)) (hT : rT M D k [] [] s s1) (hn : ∀ q, q < t → s1 86 (k + q) = 1000) (h : rPi B L (i + t) (k + t) b M D s1 r) : rPo B L i k b M D s (pnot t r) := by
  obtain ⟨z0, z1, z2⟩ := hg
  unfold pnot
  cases g : r.1 with
  | true =>
    obtain ⟨y1, y2, y3, y4⟩ := z2 g
    have y4 := y4 M
    obtain ⟨n, s', a, a1, a2, a3, a4, a5⟩ := h.1 g
    obtain ⟨x1, x2, x3, x4, x5, x6, x7, x8, x9⟩ := id a5
    obtain ⟨s4, b1, b2, b3⟩ := g182_pop (B := B) (L := L) (i := r.2.1) (Int32.ofNat b) (k := k) (by omega) t (M + r.2.2.2.1.length) (D + (r.2.2.2.2 M).length) 1000 s' (by omega) (by omega) a4 x3 x4 (by
      rcases h0 with h0 | h0
      · exact Or.inl h0
      · by_cases hk : k = 0
        · exact Or.inl hk
        · refine Or.inr ?_
          rw [x9 (k - 1) (by omega), hT.2.2.2.2.2.2.2.2 (k - 1) (by omega)]
          exact h0) (fun q hq => by rw [x9 (k + q) (by omega)]; exact hn q hq) (by omega)
    refine ⟨fun _ => ⟨t + (n + 1), s4, ?_, ?_, b2, ?_⟩, fun z => by cases z⟩
    · show t + (n + 1) + i ≤ r.2.1
      omega
    · exact rch_trans hc (rch_trans a2 (rch_1 (a3.trans b1)))
    · show rT M D k r.2.2.2.1 (r.2.2.2.2 M ++ List.replicate t 1000) s s4
      have q1 := rT_trans hT a5 (Nat.le_add_right k t)
      have q2 := rT_trans q1 b3 (Nat.le_refl k)
      rw [List.append_nil] at q2
      exact q2
  | false =>
    obtain ⟨n, s', a1, a2, a3, a4⟩ := h.2 g
    refine ⟨fun z => (by rw [cond_false, g] at z; cases z), fun _ => ⟨t + n, s', ?_, rch_end hc a2, a3, rF_trans (rF_T hT) a4⟩⟩
    show t + n + i ≤ r.2.1 + 2
    omega
theorem x_b6 : ∀ b, b < 6 → ¬ Int32.ofNat b = 6 := by decide
/-- settling: an operator behind the first operand -/
theorem settle_op {B : Nat → Int32} {L i K b : Nat} {s : xS} (hr : rR B L i s) (hw : s 53 20 = -1) (h0 : s 86 K = 0) (hK : K < 300) (hi : i ≤ 1000) (q : nx B L i = 38 ∨ nx B L i = 124) :
    rLp (Int32.ofNat (K + 1), Int32.ofNat b, 0, s) = some (.inl (Int32.ofNat (K + 1), Int32.ofNat b, 1, ra (xh_ui s 86 K (if nx B L i = 38 then 1001 else 1002)) (i + 1))) := by
  have w1 : ∀ v, xh_ui (xh_ui s 86 K v) 53 19 (xh_ui s 86 K v 53 19 + 1) = ra (xh_ui s 86 K v) (i + 1) := fun v => ra_s (s := xh_ui s 86 K v) hr
  show g182_6b (Int32.ofNat (K + 1)) (Int32.ofNat b) 0 s = _
  by_cases q1 : nx B L i = 38
  · simp only [g182_6b, g171_1 hw, x10, if_false, if_true, if_neg (x_pos (by omega : K < 1000)), g182_21, g183, g173_eq hr hi, x_pred, xn_of (by omega : K < 2 ^ 31) hK, cond_true, Int32.toNatClampNeg_ofNat_of_lt (by omega : K < 2 ^ 31), h0, if_pos q1, g183_28, g183_50, w1, g182_153_1]
  · have q2 := q.resolve_left q1
    simp only [g182_6b, g171_1 hw, x10, if_false, if_true, if_neg (x_pos (by omega : K < 1000)), g182_21, g183, g173_eq hr hi, x_pred, xn_of (by omega : K < 2 ^ 31) hK, cond_true, Int32.toNatClampNeg_ofNat_of_lt (by omega : K < 2 ^ 31), h0, if_neg q1, if_pos q2, g183_28, g183_50, w1, g182_153_1]
theorem settle_no1 {B : Nat → Int32} {L i K b : Nat} {s : xS} (hr : rR B L i s) (hw : s 53 20 = -1) (h0 : s 86 K = 0) (hK : K < 300) (hi : i ≤ 1000) (q : ¬ (nx B L i = 38 ∨ nx B L i = 124)) :
    rLp (Int32.ofNat (K + 1), Int32.ofNat (b + 1), 0, s) = g182_153 (Int32.ofNat K) (Int32.ofNat b) 0 (xh_ui s 53 20 (Int32.ofNat i)) := by
  have q1 : ¬ nx B L i = 38 := fun z => q (Or.inl z)
  have q2 : ¬ nx B L i = 124 := fun z => q (Or.inr z)
  show g182_6b (Int32.ofNat (K + 1)) (Int32.ofNat (b + 1)) 0 s = _
  simp only [g182_6b, g171_1 hw, x10, if_false, if_true, if_neg (x_pos (by omega : K < 1000)), g182_21, g183, g173_eq hr hi, x_pred, x_pred', xn_of (by omega : K < 2 ^ 31) hK, cond_true, Int32.toNatClampNeg_ofNat_of_lt (by omega : K < 2 ^ 31), h0, if_neg q1, if_neg q2, g183_63, g183_80, g175_eq hr hw]
theorem settle_no2 {B : Nat → Int32} {L i K b : Nat} {s : xS} (hr : rR B L i s) (hw : s 53 20 = -1) (h0 : ¬ s 86 K = 0) (hK : K < 300) (hi : i ≤ 1000) (q : ¬ nx B L i = 41) :
    rLp (Int32.ofNat (K + 1), Int32.ofNat (b + 1), 0, s) = g182_153 (Int32.ofNat K) (Int32.ofNat b) 0 (xh_ui s 53 20 (Int32.ofNat i)) := by
  show g182_6b (Int32.ofNat (K + 1)) (Int32.ofNat (b + 1)) 0 s = _
  simp only [g182_6b, g171_1 hw, x10, if_false, if_true, if_neg (x_pos (by omega : K < 1000)), g182_21, g183, g173_eq hr hi, x_pred, x_pred', xn_of (by omega : K < 2 ^ 31) hK, cond_true, Int32.toNatClampNeg_ofNat_of_lt (by omega : K < 2 ^ 31), if_neg h0, if_neg q, g183_63, g183_80, g175_eq hr hw]
theorem settle_cl {B : Nat → Int32} {L i K b D : Nat} {s : xS} (hr : rR B L i s) (hw : s 53 20 = -1) (h0 : ¬ s 86 K = 0) (hK : K < 300) (hi : i ≤ 1000) (hD : s 53 32 = Int32.ofNat D) (hD3 : D < 300) (q : nx B L i = 41) :
    rLp (Int32.ofNat (K + 1), Int32.ofNat (b + 1), 0, s) = g182_153 (Int32.ofNat K) (Int32.ofNat b) 0 (ra (aD D (s 86 K) s) (i + 1)) := by
  have w1 : xh_ui (aD D (s 86 K) s) 53 19 (aD D (s 86 K) s 53 19 + 1) = ra (aD D (s 86 K) s) (i + 1) := ra_s (s := aD D (s 86 K) s) hr
  show g182_6b (Int32.ofNat (K + 1)) (Int32.ofNat (b + 1)) 0 s = _
  simp only [g182_6b, g171_1 hw, x10, if_false, if_true, if_neg (x_pos (by omega : K < 1000)), g182_21, g183, g173_eq hr hi, x_pred, x_pred', xn_of (by omega : K < 2 ^ 31) hK, cond_true, Int32.toNatClampNeg_ofNat_of_lt (by omega : K < 2 ^ 31), if_neg h0, if_pos q, g183_63, g184_eq hD hD3, w1]
theorem rT_id {M D k : Nat} {s : xS} (hM : s 53 31 = Int32.ofNat M) (hD : s 53 32 = Int32.ofNat D) : rT M D k [] [] s s := ⟨fun _ _ _ _ => rfl, fun _ _ _ _ => rfl, hM, hD, fun _ _ _ _ _ => rfl, fun q t h => (by cases h), fun _ _ => rfl, fun q d h => (by cases h), fun _ _ => rfl⟩
/-- a match, as an operand -/
theorem rPi_m {B : Nat → Int32} {L j K b M D : Nat} {s : xS} (hr : rR B L j s) (hj : j ≤ L) (hw : s 53 20 = -1) (hM : s 53 31 = Int32.ofNat M) (hD : s 53 32 = Int32.ofNat D) (h3 : 3 * M ≤ j) (hDK : D + K ≤ j) (n33 : ¬ nx B L j = 33) (n40 : ¬ nx B L j = 40) : rPi B L j K b M D s (pmt B L j) := by
  have hL := hr.2.2.2
  obtain ⟨p0, p1, p2⟩ := pm_le (B := B) hj
  have z0 : vp_nar .boolean 0 = 0 := vpn0
  have e177 : 3 * M + 3 ≤ 300 ∨ (pm B L j).1 = false := by
    cases g : (pm B L j).1 with
    | false => exact Or.inr rfl
    | true => have := p2 g; exact Or.inl (by omega)
  unfold pmt
  cases g : (pm B L j).1 with
  | true =>
    have p2 := p2 g
    have e := g177_eq hr (by omega) hw hM (by omega) 0 0 z0 z0
    rw [g, cond_true] at e
    let s2 : xS := aM M (pm B L j).2.2.1 (pm B L j).2.2.2.1 (pm B L j).2.2.2.2 0 0 (ra s (pm B L j).2.1)
    let s3 : xS := aD D (Int32.ofNat (100 + M)) s2
    have t1 : rT M D K [] [] s (ra s (pm B L j).2.1) := rT_ra hM hD _
    have t2 : rT M D K [((pm B L j).2.2.1, (pm B L j).2.2.2.1, (pm B L j).2.2.2.2)] [] (ra s (pm B L j).2.1) s2 := rT_aM (s := ra s (pm B L j).2.1) hD _ _ _
    have t3 : rT (M + 1) D K [] [Int32.ofNat (100 + M)] s2 s3 := rT_aD (s := s2) rfl _
    refine ⟨fun _ => ⟨0, s3, (Int32.ofNat K, Int32.ofNat b, 1, s), by show 0 + 1 + j ≤ (pm B L j).2.1; omega, fun f => by rw [Nat.zero_add], ?_, rR_T hr (rT_trans (rT_trans t1 t2 (Nat.le_refl K)) t3 (Nat.le_refl K)) rfl, rT_trans (rT_trans t1 t2 (Nat.le_refl K)) t3 (Nat.le_refl K)⟩, fun z => by cases z⟩
    show g182_6b (Int32.ofNat K) (Int32.ofNat b) 1 s = _
    have hw2 : s2 53 20 = -1 := hw
    have hD2 : s2 53 32 = Int32.ofNat D := hD
    simp only [g182_6b, g171_1 hw, x10, if_false, g182_21, g173_eq hr (by omega), if_neg n33, if_neg n40, e]
    show (match g171 s2 with | some (Sum.inl v40, s41) => (if v40 = 0 then g182_151 (Int32.ofNat K) (Int32.ofNat b) s41 else (match g184 (Int32.ofNat (100 + M)) s41 with | some (Sum.inl v44, s45) => g182_151 (Int32.ofNat K) (Int32.ofNat b) s45 | some (Sum.inr v44, s45) => none | none => none)) | some (Sum.inr v40, s41) => none | none => none) = _
    rw [g171_1 hw2]
    dsimp only
    rw [if_neg (by decide), g184_eq hD2 (by omega)]
    rfl
  | false =>
    refine ⟨fun z => (by cases z), fun _ => ?_⟩
    show ∃ n s', n + j ≤ (pm B L j).2.1 + 2 ∧ rend n (Int32.ofNat K, Int32.ofNat b, 1, s) (.inl 0, s') ∧ s' 53 20 = Int32.ofNat (pm B L j).2.1 ∧ rF s s'
    let s2 : xS := xh_ui (ra s (pm B L j).2.1) 53 20 (Int32.ofNat (pm B L j).2.1)
    have hM100 : M < 100 ∨ M = 100 := by omega
    have e : g177 0 0 s = some (.inl 0, s2) := by
      rcases hM100 with hM1 | hM1
      · have e := g177_eq hr (by omega) hw hM hM1 0 0 z0 z0
        rw [g, cond_false] at e
        exact e
      · have hj300 : j = L := by omega
        have hnx : nx B L j = -1 := by unfold nx; rw [if_pos (by omega)]
        have ha : att (nx B L j) = false := by rw [hnx]; decide
        have hpm : (pm B L j).2.1 = j := by unfold pm; rw [ha]; rfl
        simp only [g177, g173_eq hr (by omega), g178_eq, ha, xb_f, if_true, g175_eq hr hw]
        show _ = some (Sum.inl 0, xh_ui (ra s (pm B L j).2.1) 53 20 (Int32.ofNat (pm B L j).2.1))
        rw [hpm, ra_id hr]
    have hw2 : s2 53 20 = Int32.ofNat (pm B L j).2.1 := rfl
    have hD2 : s2 53 32 = Int32.ofNat D := hD
    have key : rLp (Int32.ofNat K, Int32.ofNat b, 1, s) = g182_153 (Int32.ofNat K) (Int32.ofNat b) 0 s2 := by
      show g182_6b (Int32.ofNat K) (Int32.ofNat b) 1 s = _
      simp only [g182_6b, g171_1 hw, x10, if_false, g182_21, g173_eq hr (by omega), if_neg n33, if_neg n40, e, g171_0 hw2 (by omega), if_true, g182_151]
    obtain ⟨s', a1, a2, a3⟩ := rend_pop key (by omega) hD2 hw2 (by omega)
    have f1 : rF s (ra s (pm B L j).2.1) := ⟨fun c h _ _ => xu_o h, fun q h _ _ _ => xu_n h, fun c a b j _ => by unfold ra; rw [xu_o (by omega)], fun j _ => rfl⟩
    exact ⟨2, s', by omega, a1, a2, rF_trans f1 (rF_trans (rF_20 _) a3)⟩
/-- the reference reads an expression -/
theorem rX {B : Nat → Int32} {L : Nat} : ∀ (f b i k M D : Nat) (s : xS), 8 ≤ f + b → b ≤ 6 → rR B L i s → i ≤ L → s 53 20 = -1 → s 53 31 = Int32.ofNat M → s 53 32 = Int32.ofNat D → 3 * M ≤ i → D + k ≤ i → (k = 0 ∨ ¬ s 86 (k - 1) = 1000) → rPo B L i k b M D s (px B L f b i)
  | 0, b, i, k, M, D, s, h1, h2, _, _, _, _, _, _, _, _ => absurd h1 (by omega)
  | f + 1, b, i, k, M, D, s, hf, hb, hr, hi, hw, hM, hD, h3, hDk, h0 => by
    have hL := hr.2.2.2
    have hk := nt_le (B := B) 300 i hi
    have hend := nt_end (B := B) (L := L) 300 i (by omega)
    obtain ⟨s1, a1, a2, a3, a4⟩ := rch_nt (Int32.ofNat b) (M := M) (D := D) 300 i k s (by omega) hr hi hw hM hD (by omega)
    rw [px]
    have hw1 : s1 53 20 = -1 := (a3.2.1 20 (by decide) (by decide) (by decide)).trans hw
    have hM1 : s1 53 31 = Int32.ofNat M := a3.2.2.1
    have hD1 : s1 53 32 = Int32.ofNat D := a3.2.2.2.1
    generalize nt B L 300 i = t at *
    by_cases q : nx B L (i + t) = 40
    · have hlt := nx_lt (B := B) (L := L) (i := i + t) (by rw [q]; decide)
      by_cases z : b < 6
      · have hg1 := pG_x (B := B) f (b + 1) (i + t + 1) hlt
        have hrec : ∀ i, i ≤ L → pG L i (px B L f (b + 1) i) := fun i hi => pG_x f (b + 1) i hi
        rw [if_pos q, if_pos z]
        refine rPo_of hL (pG_b1 hrec hg1) hDk hM h0 a1 a3 a4 ?_
        generalize hj : i + t = j at *
        generalize hK : k + t = K at *
        let s2 : xS := ra (xh_ui s1 86 K 0) (j + 1)
        have w1 : xh_ui (xh_ui s1 86 K 0) 53 19 (xh_ui s1 86 K 0 53 19 + 1) = s2 := ra_s (s := xh_ui s1 86 K 0) a2
        have hw1' : xh_ui s1 86 K 0 53 20 = -1 := hw1
        have e1 : rLp (Int32.ofNat K, Int32.ofNat b, 1, s1) = some (.inl (Int32.ofNat (K + 1), Int32.ofNat (b + 1), 1, s2)) := by
          show g182_6b (Int32.ofNat K) (Int32.ofNat b) 1 s1 = _
          simp only [g182_6b, g171_1 hw1, x10, if_false, g182_21, g173_eq a2 (by omega), if_neg hend, if_pos q, if_neg (x_b6 b z), g182_97, xn_of (by omega : K < 2 ^ 31) (by omega : K < 300), cond_true, Int32.toNatClampNeg_ofNat_of_lt (by omega : K < 2 ^ 31), g171_1 hw1', w1, g182_153_1, x_succ]
        have t1 : rT M D K [] [] s1 (xh_ui s1 86 K 0) := rT_w hM1 hD1 (Nat.le_refl K) 0
        have t2 : rT M D K [] [] (xh_ui s1 86 K 0) s2 := rT_ra (s := xh_ui s1 86 K 0) hM1 hD1 _
        have t12 : rT M D K [] [] s1 s2 := rT_trans t1 t2 (Nat.le_refl K)
        have hr2 : rR B L (j + 1) s2 := rR_ra (s := xh_ui s1 86 K 0) a2 _
        have e86 : s2 86 K = 0 := xu_s s1 86 K 0
        have I1 := rX f (b + 1) (j + 1) (K + 1) M D s2 (by omega) (by omega) hr2 (by omega) hw1 hM1 hD1 (by omega) (by omega) (Or.inr (by
          show ¬ s2 86 K = 1000
          rw [e86]; decide))
        unfold pb1
        cases g1 : (px B L f (b + 1) (j + 1)).1 with
        | false =>
          obtain ⟨n, s', b1, b2, b3, b4⟩ := I1.2 g1
          refine ⟨fun z => (by cases z), fun _ => ⟨1 + n, s', ?_, rch_end (rch_1 e1) b2, b3, rF_trans (rF_T t12) b4⟩⟩
          show 1 + n + j ≤ (px B L f (b + 1) (j + 1)).2.1 + 2
          omega
        | true =>
          obtain ⟨n1, s3, b1, b2, b3, b4⟩ := I1.1 g1
          obtain ⟨y1, y2, y3, y4⟩ := hg1.2.2 g1
          have y4 := y4 M
          have hle1 := hg1.2.1
          rw [cond_true]
          generalize hr1' : px B L f (b + 1) (j + 1) = r1 at *
          have hw3 : s3 53 20 = -1 := (b4.2.1 20 (by decide) (by decide) (by decide)).trans hw1
          have e863 : s3 86 K = 0 := (b4.2.2.2.2.2.2.2.2 K (by omega)).trans e86
          have hM3 : s3 53 31 = Int32.ofNat (M + r1.2.2.2.1.length) := b4.2.2.1
          have hD3 : s3 53 32 = Int32.ofNat (D + (r1.2.2.2.2 M).length) := b4.2.2.2.1
          have t13 : rT M D K r1.2.2.2.1 (r1.2.2.2.2 M) s1 s3 := rT_trans t12 b4 (Nat.le_succ K)
          by_cases o : nx B L r1.2.1 = 38 ∨ nx B L r1.2.1 = 124
          · rw [if_pos o]
            have hlt1 := nx_lt (B := B) (L := L) (i := r1.2.1) (by rcases o with o | o <;> rw [o] <;> decide)
            have e3 := settle_op (b := b + 1) b3 hw3 e863 (by omega) (by omega) o
            have hop : ¬ (if nx B L r1.2.1 = 38 then (1001 : Int32) else 1002) = 1000 ∧ ¬ (if nx B L r1.2.1 = 38 then (1001 : Int32) else 1002) = 0 := by
              by_cases o1 : nx B L r1.2.1 = 38
              · rw [if_pos o1]; decide
              · rw [if_neg o1]; decide
            unfold pb2
            generalize (if nx B L r1.2.1 = 38 then (1001 : Int32) else 1002) = opc at *
            let s5 : xS := ra (xh_ui s3 86 K opc) (r1.2.1 + 1)
            have t4 : rT (M + r1.2.2.2.1.length) (D + (r1.2.2.2.2 M).length) K [] [] s3 (xh_ui s3 86 K opc) := rT_w hM3 hD3 (Nat.le_refl K) opc
            have t5 : rT (M + r1.2.2.2.1.length) (D + (r1.2.2.2.2 M).length) K [] [] (xh_ui s3 86 K opc) s5 := rT_ra (s := xh_ui s3 86 K opc) hM3 hD3 _
            have t45 : rT (M + r1.2.2.2.1.length) (D + (r1.2.2.2.2 M).length) K [] [] s3 s5 := rT_trans t4 t5 (Nat.le_refl K)
            have t15 : rT M D K r1.2.2.2.1 (r1.2.2.2.2 M) s1 s5 := by
              have := rT_trans t13 t45 (Nat.le_refl K)
              rw [List.append_nil, List.append_nil] at this
              exact this
            have hr5 : rR B L (r1.2.1 + 1) s5 := rR_ra (s := xh_ui s3 86 K opc) b3 _
            have e865 : s5 86 K = opc := xu_s s3 86 K opc
            have hg2 := hrec (r1.2.1 + 1) hlt1
            have I2 := rX f (b + 1) (r1.2.1 + 1) (K + 1) (M + r1.2.2.2.1.length) (D + (r1.2.2.2.2 M).length) s5 (by omega) (by omega) hr5 hlt1 hw3 hM3 hD3 (by omega) (by omega) (Or.inr (by
              show ¬ s5 86 K = 1000
              rw [e865]; exact hop.1))
            generalize hr2' : px B L f (b + 1) (r1.2.1 + 1) = r2 at *
            have c3 := rch_trans (rch_1 e1) (rch_trans b2 (rch_1 e3))
            have z20 := hg2.1
            cases g2 : r2.1 with
            | false =>
              obtain ⟨n, s', d1, d2, d3, d4⟩ := I2.2 g2
              refine ⟨fun z => (by cases z), fun _ => ⟨1 + (n1 + 1) + n, s', ?_, rch_end c3 d2, d3, rF_trans (rF_T t15) d4⟩⟩
              show 1 + (n1 + 1) + n + j ≤ r2.2.1 + 2
              omega
            | true =>
              obtain ⟨n2, s6, d1, d2, d3, d4⟩ := I2.1 g2
              obtain ⟨x1, x2, x3, x4⟩ := hg2.2.2 g2
              have x4 := x4 (M + r1.2.2.2.1.length)
              have hle2 := hg2.2.1
              have hw6 : s6 53 20 = -1 := (d4.2.1 20 (by decide) (by decide) (by decide)).trans hw3
              have e866 : s6 86 K = opc := (d4.2.2.2.2.2.2.2.2 K (by omega)).trans e865
              have hM6 := d4.2.2.1
              have hD6 := d4.2.2.2.1
              have t16 := rT_trans t15 d4 (Nat.le_succ K)
              have c6 := rch_trans c3 d2
              rw [cond_true]
              by_cases o2 : nx B L r2.2.1 = 41
              · rw [if_pos o2]
                have hlt2 := nx_lt (B := B) (L := L) (i := r2.2.1) (by rw [o2]; decide)
                have e6 := settle_cl (b := b) d3 hw6 (by rw [e866]; exact hop.2) (by omega) (by omega) hD6 (by omega) o2
                rw [e866] at e6
                have t7 := rT_aD (D := D + (r1.2.2.2.2 M).length + (r2.2.2.2.2 (M + r1.2.2.2.1.length)).length) (k := K) (s := s6) hM6 opc
                have t8 := rT_ra (k := K) (s := aD (D + (r1.2.2.2.2 M).length + (r2.2.2.2.2 (M + r1.2.2.2.1.length)).length) opc s6) t7.2.2.1 t7.2.2.2.1 (r2.2.1 + 1)
                have t78 := rT_trans t7 t8 (Nat.le_refl K)
                have t18 := rT_trans t16 (by
                  have z1 : M + (r1.2.2.2.1 ++ r2.2.2.2.1).length = M + r1.2.2.2.1.length + r2.2.2.2.1.length := by rw [List.length_append]; omega
                  have z2 : D + (r1.2.2.2.2 M ++ r2.2.2.2.2 (M + r1.2.2.2.1.length)).length = D + (r1.2.2.2.2 M).length + (r2.2.2.2.2 (M + r1.2.2.2.1.length)).length := by rw [List.length_append]; omega
                  rw [z1, z2]
                  exact t78) (Nat.le_refl K)
                refine ⟨fun _ => ⟨1 + (n1 + 1) + n2, _, _, ?_, c6, e6, rR_ra (rR_T d3 t7 d3.1) _, ?_⟩, fun z => by cases z⟩
                · show 1 + (n1 + 1) + n2 + 1 + j ≤ r2.2.1 + 1
                  omega
                · simp only [List.append_nil] at t18
                  exact t18
              · rw [if_neg o2]
                have e6 := settle_no2 (b := b) d3 hw6 (by rw [e866]; exact hop.2) (by omega) (by omega) o2
                obtain ⟨s', p1, p2, p3⟩ := rend_pop e6 (D := D + (r1.2.2.2.2 M).length + (r2.2.2.2.2 (M + r1.2.2.2.1.length)).length) (by omega) hD6 rfl (by omega)
                refine ⟨fun z => (by cases z), fun _ => ⟨1 + (n1 + 1) + n2 + 2, s', ?_, rch_end c6 p1, p2, rF_trans (rF_T t16) (rF_trans (rF_20 _) p3)⟩⟩
                show 1 + (n1 + 1) + n2 + 2 + j ≤ r2.2.1 + 2
                omega
          · rw [if_neg o]
            have e3 := settle_no1 (b := b) b3 hw3 e863 (by omega) (by omega) o
            obtain ⟨s', p1, p2, p3⟩ := rend_pop e3 (D := D + (r1.2.2.2.2 M).length) (by omega) hD3 rfl (by omega)
            refine ⟨fun z => (by cases z), fun _ => ⟨1 + n1 + 2, s', ?_, rch_end (rch_trans (rch_1 e1) b2) p1, p2, rF_trans (rF_T t13) (rF_trans (rF_20 _) p3)⟩⟩
            show 1 + n1 + 2 + j ≤ r1.2.1 + 2
            omega
      · rw [if_pos q, if_neg z]
        refine rPo_of hL (pG_no (Nat.le_refl _) hk) hDk hM h0 a1 a3 a4 ⟨fun z => (by cases z), fun _ => ?_⟩
        have hb6 : Int32.ofNat b = 6 := by rw [show b = 6 by omega]; rfl
        let s2 : xS := xh_ui (xh_ui s1 53 20 (Int32.ofNat (i + t))) 86 (k + t) 0
        have hw2 : s2 53 20 = Int32.ofNat (i + t) := rfl
        have e : rLp (Int32.ofNat (k + t), Int32.ofNat b, 1, s1) = some (.inl (Int32.ofNat (k + t + 1), Int32.ofNat (b + 1), 1, s2)) := by
          show g182_6b (Int32.ofNat (k + t)) (Int32.ofNat b) 1 s1 = _
          simp only [g182_6b, g171_1 hw1, x10, if_false, g182_21, g173_eq a2 (by omega), if_neg hend, if_pos q, if_pos hb6, g175_eq a2 hw1, g182_97, xn_of (by omega : k + t < 2 ^ 31) (by omega : k + t < 300), cond_true, Int32.toNatClampNeg_ofNat_of_lt (by omega : k + t < 2 ^ 31)]
          show (match g171 s2 with | some (Sum.inl v33, s34) => (if v33 = 0 then g182_153 (Int32.ofNat (k + t) + 1) (Int32.ofNat b + 1) 1 s34 else g182_153 (Int32.ofNat (k + t) + 1) (Int32.ofNat b + 1) 1 (xh_ui s34 53 19 ((s34 53 19) + 1))) | some (Sum.inr v33, s34) => none | none => none) = _
          rw [g171_0 hw2 (by omega)]
          dsimp only
          rw [if_pos rfl, g182_153_1, x_succ, x_succ]
        refine ⟨2, s2, by show 2 + (i + t) ≤ i + t + 2; omega, rend_F e hw2 (by omega), rfl, ⟨fun c h _ h' => ?_, fun j _ h _ _ => ?_, fun c a b j _ => ?_, fun j _ => rfl⟩⟩
        · show xh_ui (xh_ui s1 53 20 _) 86 (k + t) 0 c = _
          rw [xu_o h', xu_o h]
        · show xh_ui s1 53 20 _ 53 j = _
          rw [xu_n h]
        · show xh_ui (xh_ui s1 53 20 _) 86 (k + t) 0 c j = _
          rw [xu_o (by omega), xu_o (by omega)]
    · rw [if_neg q]
      exact rPo_of hL (pG_mt hk) hDk hM h0 a1 a3 a4 (rPi_m a2 hk hw1 hM1 hD1 (by omega) (by omega) hend q)
