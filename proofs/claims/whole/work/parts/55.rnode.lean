/-! the reference reads a rule -/
theorem g181_44_eq {N : Nat} (hN : N < 40) (s : xS) : g181_44 (Int32.ofNat (40 + N)) s = some (.inl 0, xh_ui s 76 (40 + N) (300 + s 53 32)) := by
  unfold g181_44
  rw [xn_of (by omega) (by omega), cond_true, Int32.toNatClampNeg_ofNat_of_lt (by omega)]
/-- a condition where reading has failed -/
theorem r_cnF {N e : Nat} (hN : N < 40) {s : xS} (he : s 53 20 = Int32.ofNat e) (h1 : e ≤ 1000) : ∃ s', g181 (Int32.ofNat (40 + N)) s = some (.inl 0, s') ∧ s' 53 40 = s 53 40 ∧ s' 53 20 = Int32.ofNat e ∧ ∀ M D w, rFn N M D w s s' := by
  have he' : xh_ui s 75 (40 + N) (300 + s 53 32) 53 20 = Int32.ofNat e := he
  refine ⟨xh_ui (xh_ui s 75 (40 + N) (300 + s 53 32)) 76 (40 + N) (300 + s 53 32), ?_, rfl, he, fun M D w => rFn_trans (rFn_nd (by decide) (by decide) (Nat.le_refl _) s _) (rFn_nd (by decide) (by decide) (Nat.le_refl _) _ _) (Nat.le_refl _) (Nat.le_refl _) (Nat.le_refl _) (Nat.le_refl _)⟩
  unfold g181
  rw [xn_of (by omega) (by omega), cond_true, Int32.toNatClampNeg_ofNat_of_lt (by omega), g171_0 he' h1]
  dsimp only
  rw [if_pos x0p, g181_44_eq hN]
  rfl
/-- a condition -/
theorem r_cn {B : Nat → Int32} {L j N M D : Nat} {s : xS} (hN : N < 40) (hr : rR B L j s) (hj : j ≤ L) (hw : s 53 20 = -1) (hM : s 53 31 = Int32.ofNat M) (hD : s 53 32 = Int32.ofNat D) (h3 : 3 * M ≤ j) (hDj : D ≤ j) :
    ∃ s', g181 (Int32.ofNat (40 + N)) s = some (.inl 0, s') ∧ s' 53 40 = s 53 40 ∧ (∀ c, (70 ≤ c ∧ c ≤ 74) ∨ c = 77 ∨ c = 78 ∨ c = 85 → s' c = s c) ∧
      ((pcn B L j).1 = true → rR B L (pcn B L j).2.1 s' ∧ s' 53 20 = -1 ∧ s' 53 31 = Int32.ofNat (M + (pcn B L j).2.2.2.1.length) ∧ s' 53 32 = Int32.ofNat (D + ((pcn B L j).2.2.2.2 M).length) ∧ s' 75 (40 + N) = Int32.ofNat (300 + D) ∧ s' 76 (40 + N) = Int32.ofNat (300 + D + ((pcn B L j).2.2.2.2 M).length) ∧ (∀ w, rFn N M D w s s') ∧
        (∀ q t, (pcn B L j).2.2.2.1[q]? = some t → s' 79 (100 + M + q) = t.1 ∧ s' 80 (100 + M + q) = t.2.1 ∧ s' 81 (100 + M + q) = t.2.2) ∧ ∀ q d, ((pcn B L j).2.2.2.2 M)[q]? = some d → s' 84 (300 + D + q) = d) ∧
      ((pcn B L j).1 = false → s' 53 20 = Int32.ofNat (pcn B L j).2.1 ∧ ∀ w, rFn N 0 0 w s s') := by
  have hL := hr.2.2.2
  let s0 : xS := xh_ui s 75 (40 + N) (Int32.ofNat (300 + D))
  have hr0 : rR B L j s0 := hr
  have hw0 : s0 53 20 = -1 := hw
  have fr0 : ∀ M D w, rFn N M D w s s0 := fun M D w => rFn_nd (by decide) (by decide) (Nat.le_refl _) s _
  have k0 : ∀ c, (70 ≤ c ∧ c ≤ 74) ∨ c = 77 ∨ c = 78 ∨ c = 85 → s0 c = s c := fun c hc => xu_o (by omega)
  have e0 : g181 (Int32.ofNat (40 + N)) s = (if nx B L j = 63 then (match g182 (ra s0 (j + 1)) with | some (Sum.inl v, s12) => g181_44 (Int32.ofNat (40 + N)) s12 | some (Sum.inr v, s12) => none | none => none) else g181_44 (Int32.ofNat (40 + N)) s0) := by
    unfold g181
    rw [xn_of (by omega) (by omega), cond_true, Int32.toNatClampNeg_ofNat_of_lt (by omega), hD, x300a, show g171 (xh_ui s 75 (40 + N) (Int32.ofNat (300 + D))) = _ from g171_1 hw0]
    dsimp only
    rw [if_neg x1n, show g173 (xh_ui s 75 (40 + N) (Int32.ofNat (300 + D))) = _ from g173_eq hr0 (by omega)]
    dsimp only
    by_cases q : nx B L j = 63
    · rw [if_pos q, if_pos q, show xh_ui (xh_ui s 75 (40 + N) (Int32.ofNat (300 + D))) 53 19 (xh_ui s 75 (40 + N) (Int32.ofNat (300 + D)) 53 19 + 1) = _ from ra_s hr0]
      cases g182 (ra s0 (j + 1)) with
      | none => rfl
      | some y =>
        obtain ⟨v | v, s4⟩ := y <;> rfl
    · rw [if_neg q, if_neg q]
  rw [e0]
  unfold pcn
  by_cases q : nx B L j = 63
  · have hlt := nx_lt (B := B) (L := L) (i := j) (by rw [q]; decide)
    have hr1 : rR B L (j + 1) (ra s0 (j + 1)) := rR_ra hr0 _
    obtain ⟨s1, a1, a2, a3⟩ := r_ex (s := ra s0 (j + 1)) hr1 hlt hw hM hD (by omega) (by omega)
    have fra : ∀ M D w, rFn N M D w s (ra s0 (j + 1)) := fun M D w => rFn_trans (fr0 M D w) (rFn_53 (Or.inl rfl) s0 _) (Nat.le_refl _) (Nat.le_refl _) (Nat.le_refl _) (Nat.le_refl _)
    rw [if_pos q, if_pos q, a1]
    dsimp only
    rw [g181_44_eq hN]
    generalize px B L 8 0 (j + 1) = e at *
    cases g : e.1 with
    | true =>
      obtain ⟨b1, b2⟩ := a2 g
      obtain ⟨c1, c2, c3, c4, c5, c6, c7, c8, c9⟩ := id b2
      refine ⟨_, rfl, ?_, fun c hc => ?_, fun _ => ⟨b1, ?_, c3, c4, ?_, ?_, fun w => ?_, fun z t hz => ?_, fun z d hz => c8 z d hz⟩, fun z => by cases z⟩
      · show s1 53 40 = _; rw [c2 40 (by decide) (by decide) (by decide)]; rfl
      · rw [xu_o (by omega), c1 c (by omega) (by omega) (by omega)]
        show xh_ui s0 53 19 _ c = _
        rw [xu_o (by omega)]; exact k0 c hc
      · show s1 53 20 = -1; rw [c2 20 (by decide) (by decide) (by decide)]; exact hw
      · show s1 75 (40 + N) = _
        rw [c1 75 (by decide) (by omega) (by decide)]
        exact xu_s s 75 (40 + N) _
      · rw [xu_s, c4, x300a, Nat.add_assoc]
      · exact rFn_trans (rFn_trans (fra M D w) (rFn_T b2) (Nat.le_refl _) (Nat.le_refl _) (Nat.le_refl _) (Nat.le_refl _)) (rFn_nd (by decide) (by decide) (Nat.le_refl _) s1 _) (Nat.le_refl _) (Nat.le_refl _) (Nat.le_refl _) (Nat.le_refl _)
      · obtain ⟨x1, x2, x3, -, -⟩ := c6 z t hz
        exact ⟨x1, x2, x3⟩
    | false =>
      obtain ⟨b1, b2⟩ := a3 g
      obtain ⟨c1, c2, c3, c4⟩ := id b2
      refine ⟨_, rfl, ?_, fun c hc => ?_, fun z => (by cases z), fun _ => ⟨b1, fun w => ?_⟩⟩
      · show s1 53 40 = _; rw [c2 40 (by decide) (by decide) (by decide) (by decide)]; rfl
      · rw [xu_o (by omega), c1 c (by omega) (by omega) (by omega)]
        show xh_ui s0 53 19 _ c = _
        rw [xu_o (by omega)]; exact k0 c hc
      · exact rFn_trans (rFn_trans (fra 0 0 w) (rFn_F b2) (Nat.le_refl _) (Nat.le_refl _) (Nat.le_refl _) (Nat.le_refl _)) (rFn_nd (by decide) (by decide) (Nat.le_refl _) s1 _) (Nat.le_refl _) (Nat.le_refl _) (Nat.le_refl _) (Nat.le_refl _)
  · rw [if_neg q, if_neg q, g181_44_eq hN]
    refine ⟨_, rfl, rfl, fun c hc => ?_, fun _ => ⟨hr0, hw0, hM, hD, xu_s s 75 (40 + N) _, ?_, fun w => ?_, fun z t hz => (by cases hz), fun z d hz => by cases hz⟩, fun z => by cases z⟩
    · rw [xu_o (by omega)]; exact k0 c hc
    · rw [xu_s]
      show 300 + s 53 32 = _
      rw [hD, x300a]; rfl
    · exact rFn_trans (fr0 M D w) (rFn_nd (by decide) (by decide) (Nat.le_refl _) s0 _) (Nat.le_refl _) (Nat.le_refl _) (Nat.le_refl _) (Nat.le_refl _)
/-- where a node may begin, reference -/
def rPre (B : Nat → Int32) (L N M D : Nat) (par : Option Nat) (o : Bool) (w i : Nat) (s : xS) : Prop := rR B L i s ∧ i ≤ L ∧ s 53 20 = -1 ∧ s 70 1 = Int32.ofNat N ∧ s 53 31 = Int32.ofNat M ∧ s 53 32 = Int32.ofNat D ∧ 3 * M ≤ i ∧ D ≤ i ∧ N ≤ 40 ∧ s 53 40 = Int32.ofNat w ∧ w ≤ 5 ∧
  (match par with | none => w = 0 ∧ o = false | some m => 1 ≤ w ∧ m < N ∧ s 85 (w - 1) = Int32.ofNat (40 + m) ∧ o = decide (s 71 (40 + m) = 79))
def rPost (B : Nat → Int32) (L N M D w : Nat) (recs : List xN) (i' : Nat) (s s' : xS) : Prop := rR B L i' s' ∧ s' 53 20 = -1 ∧ s' 70 1 = Int32.ofNat (N + recs.length) ∧ s' 53 31 = Int32.ofNat (M + tM recs) ∧ s' 53 32 = Int32.ofNat (D + tDn M recs) ∧ s' 53 40 = Int32.ofNat w ∧ rFn N M D w s s' ∧ rNs N M D recs s'
theorem r_22 {B : Nat → Int32} {L N M D w i : Nat} {par : Option Nat} {o : Bool} {s : xS} (h : rPre B L N M D par o w i s) (x1 k0 : Int32) : g172_22 x1 k0 s = g172_56 x1 k0 (xb o) s := by
  obtain ⟨hr, hi, hw, h70, hM, hD, h3, hDi, hN, h40, hw5, hpar⟩ := h
  cases par with
  | none =>
    obtain ⟨p1, p2⟩ := hpar
    subst p1 p2
    have z : s 53 40 ≤ 0 := by rw [h40]; decide
    simp only [g172_22, if_pos z, g172_55]
    rfl
  | some m =>
    obtain ⟨p1, p2, p3, p4⟩ := hpar
    obtain ⟨v, rfl⟩ : ∃ v, w = v + 1 := ⟨w - 1, by omega⟩
    have p3 : s 85 v = Int32.ofNat (40 + m) := p3
    simp only [g172_22, h40, if_neg (x_pos (by omega : v < 1000)), x_pred, xn_of (by omega : v < 2 ^ 31) (by omega : v < 8), cond_true, Int32.toNatClampNeg_ofNat_of_lt (by omega : v < 2 ^ 31), p3, xn_of (by omega : 40 + m < 2 ^ 31) (by omega : 40 + m < 80), Int32.toNatClampNeg_ofNat_of_lt (by omega : 40 + m < 2 ^ 31)]
    by_cases q : s 71 (40 + m) = 79
    · rw [if_pos q, p4, decide_eq_true q]; rfl
    · rw [if_neg q, p4, decide_eq_false q]; rfl
/-- a node's head in the reference's rows -/
def rH (N i : Nat) (x1 k2 : Int32) (s : xS) : xS := ra (xh_ui (xh_ui (xh_ui (xh_ui (xh_ui s 70 1 (Int32.ofNat (N + 1))) 71 (40 + N) x1) 72 (40 + N) k2) 77 (40 + N) 0) 78 (40 + N) 0) (i + 1)
theorem rH_fr {N i : Nat} (x1 k2 : Int32) (s : xS) (M D w : Nat) : rFn N M D w s (rH N i x1 k2 s) := by
  have l := Nat.le_refl
  unfold rH
  exact rFn_trans (rFn_trans (rFn_trans (rFn_trans (rFn_trans (rFn_70 s _) (rFn_nd (by decide) (by decide) (l _) _ _) (l _) (l _) (l _) (l _)) (rFn_nd (by decide) (by decide) (l _) _ _) (l _) (l _) (l _) (l _)) (rFn_nd (by decide) (by decide) (l _) _ _) (l _) (l _) (l _) (l _)) (rFn_nd (by decide) (by decide) (l _) _ _) (l _) (l _) (l _) (l _)) (rFn_53 (Or.inl rfl) _ _) (l _) (l _) (l _) (l _)
theorem g172_162_eq {N i : Nat} (hN : N < 40) {s : xS} (hi : s 53 19 = Int32.ofNat i) (x1 x2 k2 : Int32) {s3 : xS} (e : g176 (Int32.ofNat (40 + N)) (rH N i x1 k2 s) = some (.inl 0, s3)) :
    g172_162 x1 x2 (Int32.ofNat (40 + N)) (Int32.ofNat (40 + N)) k2 (xh_ui (xh_ui s 70 1 (Int32.ofNat (N + 1))) 71 (40 + N) x1) = (if x2 = 0 then (match g171 (xh_ui (xh_ui s3 75 (40 + N) 0) 76 (40 + N) 0) with | some (Sum.inl v26, s27) => (if v26 = 0 then g172_228 (Int32.ofNat (40 + N)) s27 else (match g180 123 s27 with | some (Sum.inl v31, s32) => g172_228 (Int32.ofNat (40 + N)) s32 | some (Sum.inr v31, s32) => none | none => none)) | some (Sum.inr v26, s27) => none | none => none) else (match g181 (Int32.ofNat (40 + N)) (xh_ui (xh_ui s3 75 (40 + N) 0) 76 (40 + N) 0) with | some (Sum.inl v34, s35) => (match g185 43 s35 with | some (Sum.inl v37, s38) => (if x1 = 112 then g172_292 (xh_ui s38 77 (40 + N) v37) else g172_292 (xh_ui s38 78 (40 + N) v37)) | some (Sum.inr v37, s38) => none | none => none) | some (Sum.inr v34, s35) => none | none => none)) := by
  have hx : xn (Int32.ofNat (40 + N)) 80 = true := xn_of (by omega) (by omega)
  have hc : (Int32.ofNat (40 + N)).toNatClampNeg = 40 + N := Int32.toNatClampNeg_ofNat_of_lt (by omega)
  unfold g172_162
  rw [hx, cond_true, cond_true, hc]
  have e19 : xh_ui (xh_ui (xh_ui (xh_ui (xh_ui s 70 1 (Int32.ofNat (N + 1))) 71 (40 + N) x1) 72 (40 + N) k2) 77 (40 + N) 0) 78 (40 + N) 0 53 19 = Int32.ofNat i := hi
  rw [e19, x_succ, show g176 (Int32.ofNat (40 + N)) (xh_ui (xh_ui (xh_ui (xh_ui (xh_ui (xh_ui s 70 1 (Int32.ofNat (N + 1))) 71 (40 + N) x1) 72 (40 + N) k2) 77 (40 + N) 0) 78 (40 + N) 0) 53 19 (Int32.ofNat (i + 1))) = _ from e]
  rfl
theorem g172_105_eq {B : Nat → Int32} {L N M D w i : Nat} {par : Option Nat} {o : Bool} {s : xS} (h : rPre B L N M D par o w i s) (hN4 : N < 40) (x1 x2 : Int32) : g172_105 x1 x2 s = g172_162 x1 x2 (Int32.ofNat (40 + N)) (Int32.ofNat (40 + N)) (rv par) (xh_ui (xh_ui s 70 1 (Int32.ofNat (N + 1))) 71 (40 + N) x1) := by
  obtain ⟨hr, hi, hw, h70, hM, hD, h3, hDi, hN, h40, hw5, hpar⟩ := h
  have hx : xn (Int32.ofNat (40 + N)) 80 = true := xn_of (by omega) (by omega)
  have hc : (Int32.ofNat (40 + N)).toNatClampNeg = 40 + N := Int32.toNatClampNeg_ofNat_of_lt (by omega)
  have e40 : xh_ui (xh_ui s 70 1 (Int32.ofNat (N + 1))) 71 (40 + N) x1 53 40 = Int32.ofNat w := h40
  unfold g172_105
  rw [h70, x40a, hx, cond_true, hc, x_succ, e40]
  cases par with
  | none =>
    obtain ⟨p1, p2⟩ := hpar
    subst p1
    rw [if_pos (by decide)]
    rfl
  | some m =>
    obtain ⟨p1, p2, p3, p4⟩ := hpar
    obtain ⟨v, rfl⟩ : ∃ v, w = v + 1 := ⟨w - 1, by omega⟩
    have n0 : ¬ Int32.ofNat (v + 1) = 0 := by
      have : ∀ v, v < 5 → ¬ Int32.ofNat (v + 1) = 0 := by decide
      exact this v (by omega)
    have p3' : xh_ui (xh_ui s 70 1 (Int32.ofNat (N + 1))) 71 (40 + N) x1 85 v = Int32.ofNat (40 + m) := p3
    rw [if_neg n0, x_pred, xn_of (by omega) (by omega), cond_true, Int32.toNatClampNeg_ofNat_of_lt (by omega), p3']
    rfl
theorem x_n40 : ∀ N, N < 40 → ¬ Int32.ofNat N = 40 := by decide
theorem g180_eq {B : Nat → Int32} {L i : Nat} {s : xS} (hr : rR B L i s) (hi : i ≤ 1000) (hw : s 53 20 = -1) (c : Int32) : g180 c s = some (.inl 0, if nx B L i = c then ra s (i + 1) else xh_ui s 53 20 (Int32.ofNat i)) := by
  by_cases q : nx B L i = c
  · simp only [g180, g173_eq hr hi, if_pos q, ra_s hr]
  · simp only [g180, g173_eq hr hi, if_neg q, g175_eq hr hw]
theorem od_59 {x : Int32} (h : od x = true) : ¬ x = 59 := fun q => by subst q; revert h; decide
/-- the reference reads a rule -/
theorem r_ru {B : Nat → Int32} {L N M D w i : Nat} {par : Option Nat} {s : xS} (h : rPre B L N M D par false w i s) (hN : N < 40) (hc : isr (nx B L i) = true) :
    ∃ s', g172 s = some (.inl 0, s') ∧ s' 53 40 = Int32.ofNat w ∧ ((pru B L (nx B L i) par i).1 = true → rPost B L N M D w (pru B L (nx B L i) par i).2.2 (pru B L (nx B L i) par i).2.1 s s') ∧ ((pru B L (nx B L i) par i).1 = false → s' 53 20 = Int32.ofNat (pru B L (nx B L i) par i).2.1 ∧ rFn 0 0 0 0 s s') := by
  obtain ⟨hr, hi, hw, h70, hM, hD, h3, hDi, hN', h40, hw5, hpar⟩ := id h
  have hL := hr.2.2.2
  have l := Nat.le_refl
  have hlt := nx_lt (isr_m1 hc)
  have hc' := of_decide_eq_true hc
  have e105 : g172 s = g172_105 (nx B L i) 1 s := by
    have n4 : ¬ s 70 1 = 40 := by rw [h70]; exact x_n40 N hN
    have e22 : g172 s = g172_22 (nx B L i) 1 s := by
      by_cases q : nx B L i = 112
      · simp only [g172, g173_eq hr (by omega), if_pos q, g172_17]
      · simp only [g172, g173_eq hr (by omega), if_neg q, if_pos (hc'.resolve_left q), g172_17]
    rw [e22, r_22 h]
    simp only [g172_56, if_neg n4, x10, if_false, g172_79, xb_f, if_true, g172_87]
  have hrH : rR B L (i + 1) (rH N i (nx B L i) (rv par) s) := ⟨rfl, hr.2.1, hr.2.2.1, hL⟩
  obtain ⟨s3, a1, a2, a3, a4, a5, a6⟩ := r_tg (s := rH N i (nx B L i) (rv par) s) hN hrH hlt hw hM (by omega)
  obtain ⟨t0, t1, t2⟩ := ptG_T (B := B) (L := L) (i := i + 1) hlt
  rw [e105, g172_105_eq h hN, g172_162_eq hN hr.1 (nx B L i) 1 (rv par) a1, if_neg x1n]
  have hfH : ∀ M D w, rFn N M D w s (rH N i (nx B L i) (rv par) s) := fun M D w => rH_fr _ _ _ _ _ _
  have f4 : ∀ M D w, rFn N M D w s3 (xh_ui (xh_ui s3 75 (40 + N) 0) 76 (40 + N) 0) := fun M D w => rFn_trans (rFn_nd (by decide) (by decide) (l _) s3 _) (rFn_nd (by decide) (by decide) (l _) _ _) (l _) (l _) (l _) (l _)
  have fin : ∀ (s8 : xS) (z : Int32) (e : Nat), s8 53 20 = Int32.ofNat e → e ≤ 1000 → s8 53 40 = Int32.ofNat w → rFn N 0 0 w s s8 → ∃ s', (if nx B L i = 112 then g172_292 (xh_ui s8 77 (40 + N) z) else g172_292 (xh_ui s8 78 (40 + N) z)) = some (.inl 0, s') ∧ s' 53 40 = Int32.ofNat w ∧ s' 53 20 = Int32.ofNat e ∧ rFn 0 0 0 0 s s' := by
    intro s8 z e he h1 hd hf
    by_cases q : nx B L i = 112
    · have he' : xh_ui s8 77 (40 + N) z 53 20 = Int32.ofNat e := he
      refine ⟨xh_ui s8 77 (40 + N) z, ?_, hd, he, rFn_mono (rFn_trans hf (rFn_nd (by decide) (by decide) (l _) s8 z) (l _) (l _) (l _) (l _)) (Nat.zero_le _) (l _) (l _) (Nat.zero_le _)⟩
      rw [if_pos q]
      simp only [g172_292, g171_0 he' h1, if_true]
    · have he' : xh_ui s8 78 (40 + N) z 53 20 = Int32.ofNat e := he
      refine ⟨xh_ui s8 78 (40 + N) z, ?_, hd, he, rFn_mono (rFn_trans hf (rFn_nd (by decide) (by decide) (l _) s8 z) (l _) (l _) (l _) (l _)) (Nat.zero_le _) (l _) (l _) (Nat.zero_le _)⟩
      rw [if_neg q]
      simp only [g172_292, g171_0 he' h1, if_true]
  unfold pru
  cases g : (pT B L (i + 1)).1 with
  | false =>
    obtain ⟨b1, b2⟩ := a6 g
    have he4 : xh_ui (xh_ui s3 75 (40 + N) 0) 76 (40 + N) 0 53 20 = Int32.ofNat (pT B L (i + 1)).2.1 := b1
    obtain ⟨s7, c1, c2, c3, c4⟩ := r_cnF hN he4 (by omega)
    rw [c1]
    dsimp only
    rw [g185_no c3 (by omega)]
    dsimp only
    obtain ⟨s', d1, d2, d3, d4⟩ := fin s7 0 _ c3 (by omega) (by rw [c2]; exact a3.trans h40) (rFn_trans (rFn_trans (rFn_trans (hfH 0 0 w) (b2 0 w) (l _) (l _) (l _) (l _)) (f4 0 0 w) (l _) (l _) (l _) (l _)) (c4 0 0 w) (l _) (l _) (l _) (l _))
    exact ⟨s', d1, d2, fun z => (by cases z), fun _ => ⟨d3, d4⟩⟩
  | true =>
    obtain ⟨b1, b2, b3, b4, b5, b6, b7⟩ := a5 g
    obtain ⟨t3, t4⟩ := t2 g
    rw [cond_true]
    generalize pT B L (i + 1) = t at *
    let s4 : xS := xh_ui (xh_ui s3 75 (40 + N) 0) 76 (40 + N) 0
    have hD4 : s4 53 32 = Int32.ofNat D := a2.trans hD
    obtain ⟨s7, c1, c2, c3, c4, c5⟩ := r_cn (s := s4) hN b1 t1 b2 b3 hD4 (by omega) (by omega)
    obtain ⟨k0, k1, k2⟩ := pG_cn (B := B) (L := L) (j := t.2.1) t1
    rw [show g181 (Int32.ofNat (40 + N)) (xh_ui (xh_ui s3 75 (40 + N) 0) 76 (40 + N) 0) = _ from c1]
    dsimp only
    have f04 : ∀ w', rFn N M D w' s s4 := fun w' => rFn_trans (rFn_trans (hfH M D w') (b4 D w') (l _) (l _) (l _) (l _)) (f4 M D w') (l _) (l _) (l _) (l _)
    have h407 : s7 53 40 = Int32.ofNat w := by rw [c2]; exact a3.trans h40
    unfold pr2
    cases g2 : (pcn B L t.2.1).1 with
    | false =>
      obtain ⟨d1, d2⟩ := c5 g2
      rw [g185_no d1 (by omega)]
      dsimp only
      obtain ⟨s', x1, x2, x3, x4⟩ := fin s7 0 _ d1 (by omega) h407 (rFn_trans (rFn_mono (f04 w) (l _) (Nat.zero_le _) (Nat.zero_le _) (l _)) (d2 w) (l _) (l _) (l _) (l _))
      exact ⟨s', x1, x2, fun z => (by cases z), fun _ => ⟨x3, x4⟩⟩
    | true =>
      obtain ⟨d1, d2, d3, d4, d5, d6, d7, d8, d9⟩ := c4 g2
      obtain ⟨k3, k4, k5⟩ := k2 g2
      have k5 := k5 (M + t.2.2.2.length)
      rw [cond_true]
      generalize pcn B L t.2.1 = e at *
      obtain ⟨p0, p1, p2⟩ := pd_le (B := B) (L := L) (g := 43) (by decide) (i := e.2.1) k1
      have p012 := pd_012 (B := B) (L := L) (g := 43) (i := e.2.1)
      rw [g185_eq (by decide) d1 k1 d2]
      dsimp only
      unfold pr3
      generalize pd B L 43 e.2.1 = d at *
      have f07 : rFn N M D w s s7 := rFn_trans (f04 w) (d7 w) (l _) (Nat.le_add_right _ _) (l _) (l _)
      by_cases q0 : d.1 = 0
      · rw [if_pos q0, if_neg (show ¬ d.1 = 1 by omega)]
        obtain ⟨s', x1, x2, x3, x4⟩ := fin (xh_ui (ra s7 d.2.1) 53 20 (Int32.ofNat d.2.1)) d.2.2 d.2.1 rfl (by omega) h407 (rFn_trans (rFn_trans (rFn_mono f07 (l _) (Nat.zero_le _) (Nat.zero_le _) (l _)) (rFn_53 (Or.inl rfl) s7 _) (l _) (l _) (l _) (l _)) (rFn_53 (Or.inr (Or.inl rfl)) _ _) (l _) (l _) (l _) (l _))
        exact ⟨s', x1, x2, fun z => (by cases z), fun _ => ⟨x3, x4⟩⟩
      · rw [if_neg q0]
        have hr8 : rR B L d.2.1 (ra s7 d.2.1) := rR_ra d1 _
        have hw8 : ra s7 d.2.1 53 20 = -1 := d2
        have f08 : rFn N M D w s (ra s7 d.2.1) := rFn_trans f07 (rFn_53 (Or.inl rfl) s7 _) (l _) (l _) (l _) (l _)
        by_cases q59 : nx B L d.2.1 = 59
        · have q1 : d.1 = 1 := by
            rcases p012 with y | y | y
            · exact absurd y q0
            · exact y
            · exact absurd q59 (od_59 (p2 y))
          rw [if_pos q1, if_pos q59]
          have main : ∀ cc, cc = 77 ∨ cc = 78 → (nx B L i = 112 → cc = 77) → (¬ nx B L i = 112 → cc = 78) → g172_292 (xh_ui (ra s7 d.2.1) cc (40 + N) d.2.2) = some (.inl 0, ra (xh_ui (ra s7 d.2.1) cc (40 + N) d.2.2) (d.2.1 + 1)) ∧ rPost B L N M D w [(nx B L i, par, d.2.2, d.2.2, t.2.2.1, t.2.2.2, e.2.2.1, e.2.2.2.1, e.2.2.2.2)] (d.2.1 + 1) s (ra (xh_ui (ra s7 d.2.1) cc (40 + N) d.2.2) (d.2.1 + 1)) := by
            intro cc hcc h112 h100
            have o53 : ∀ j, xh_ui (ra s7 d.2.1) cc (40 + N) d.2.2 53 j = ra s7 d.2.1 53 j := fun j => by rw [xu_o (by omega)]
            have hr9 : rR B L d.2.1 (xh_ui (ra s7 d.2.1) cc (40 + N) d.2.2) := ⟨by rw [o53]; exact hr8.1, by rw [o53]; exact hr8.2.1, by rw [xu_o (by omega)]; exact hr8.2.2.1, hL⟩
            have hw9 : xh_ui (ra s7 d.2.1) cc (40 + N) d.2.2 53 20 = -1 := by rw [o53]; exact hw8
            have kk : ∀ c, ¬ c = 53 → ¬ c = cc → ra (xh_ui (ra s7 d.2.1) cc (40 + N) d.2.2) (d.2.1 + 1) c = s7 c := fun c x y => by
              unfold ra; rw [xu_o x, xu_o y, xu_o x]
            have k53 : ∀ j, ¬ j = 19 → ra (xh_ui (ra s7 d.2.1) cc (40 + N) d.2.2) (d.2.1 + 1) 53 j = s7 53 j := fun j x => by
              unfold ra; rw [xu_n x, xu_o (by omega), xu_n x]
            refine ⟨?_, rR_ra hr9 _, ?_, ?_, ?_, ?_, ?_, ?_, ⟨⟨?_, ?_, ?_, ?_, fun _ => ⟨?_, ?_⟩, ?_, ?_, fun q u hq => ?_, fun q u hq => ?_, fun q u hq => ?_⟩, trivial⟩⟩
            · simp only [g172_292, g171_1 hw9, x10, if_false, g180_eq hr9 (by omega : d.2.1 ≤ 1000) hw9, if_pos q59]
            · rw [k53 20 (by decide)]; exact d2
            · rw [kk 70 (by decide) (by omega), c3 70 (by omega)]
              show s3 70 1 = _
              rw [a4 70 (by omega)]
              exact xu_s s 70 1 _
            · rw [k53 31 (by decide), d3]
              show _ = Int32.ofNat (M + (t.2.2.2.length + e.2.2.2.1.length + 0))
              rw [Nat.add_zero, Nat.add_assoc]
            · rw [k53 32 (by decide), d4]; rfl
            · rw [k53 40 (by decide)]; exact h407
            · exact rFn_trans (rFn_trans f08 (rFn_nd (by omega) (by omega) (l _) _ _) (l _) (l _) (l _) (l _)) (rFn_53 (Or.inl rfl) _ _) (l _) (l _) (l _) (l _)
            · rw [kk 71 (by decide) (by omega), c3 71 (by omega)]
              show s3 71 (40 + N) = _
              rw [a4 71 (by omega)]
              exact xu_s _ 71 (40 + N) _
            · rw [kk 72 (by decide) (by omega), c3 72 (by omega)]
              show s3 72 (40 + N) = _
              rw [a4 72 (by omega)]
              exact xu_s _ 72 (40 + N) _
            · rw [kk 73 (by decide) (by omega), c3 73 (by omega)]
              exact b5
            · rw [kk 74 (by decide) (by omega), c3 74 (by omega)]
              exact b6
            · rw [kk 75 (by decide) (by omega)]; exact d5
            · rw [kk 76 (by decide) (by omega)]; exact d6
            · show ra (xh_ui (ra s7 d.2.1) cc (40 + N) d.2.2) (d.2.1 + 1) 77 (40 + N) = if nx B L i = 100 then 0 else d.2.2
              by_cases y : nx B L i = 112
              · rw [if_neg (by rw [y]; decide), h112 y]
                exact xu_s _ 77 (40 + N) _
              · rw [if_pos (hc'.resolve_left y), kk 77 (by decide) (by rw [h100 y]; decide), c3 77 (by omega)]
                show s3 77 (40 + N) = _
                rw [a4 77 (by omega)]
                exact xu_s _ 77 (40 + N) _
            · show ra (xh_ui (ra s7 d.2.1) cc (40 + N) d.2.2) (d.2.1 + 1) 78 (40 + N) = if nx B L i = 112 then 0 else d.2.2
              by_cases y : nx B L i = 112
              · rw [if_pos y, kk 78 (by decide) (by rw [h112 y]; decide), c3 78 (by omega)]
                show s3 78 (40 + N) = _
                rw [a4 78 (by omega)]
                exact xu_s _ 78 (40 + N) _
              · rw [if_neg y, h100 y]
                exact xu_s _ 78 (40 + N) _
            · have hq : t.2.2.2[q]? = some u := hq
              have hl := (List.getElem?_eq_some_iff.mp hq).1
              rw [kk 79 (by decide) (by omega), kk 80 (by decide) (by omega), kk 81 (by decide) (by omega), kk 82 (by decide) (by omega), kk 83 (by decide) (by omega)]
              have f := (d7 w).2.2.2.2.1
              rw [f 79 (by decide) (by decide) _ (by omega), f 80 (by decide) (by decide) _ (by omega), f 81 (by decide) (by decide) _ (by omega), f 82 (by decide) (by decide) _ (by omega), f 83 (by decide) (by decide) _ (by omega)]
              exact b7 q u hq
            · rw [kk 79 (by decide) (by omega), kk 80 (by decide) (by omega), kk 81 (by decide) (by omega)]
              have := d8 q u hq
              rw [show 100 + (M + t.2.2.2.length) + q = 100 + M + t.2.2.2.length + q by omega] at this
              exact this
            · rw [kk 84 (by decide) (by omega)]
              exact d9 q u hq
          by_cases y : nx B L i = 112
          · obtain ⟨m1, m2⟩ := main 77 (Or.inl rfl) (fun _ => rfl) (fun z => absurd y z)
            rw [if_pos y]
            exact ⟨_, m1, m2.2.2.2.2.2.1, fun _ => m2, fun z => by cases z⟩
          · obtain ⟨m1, m2⟩ := main 78 (Or.inr rfl) (fun z => absurd z y) (fun _ => rfl)
            rw [if_neg y]
            exact ⟨_, m1, m2.2.2.2.2.2.1, fun _ => m2, fun z => by cases z⟩
        · have hno : (if d.1 = 1 then (if nx B L d.2.1 = 59 then ((true, d.2.1 + 1, [(nx B L i, par, d.2.2, d.2.2, t.2.2.1, t.2.2.2, e.2.2.1, e.2.2.2.1, e.2.2.2.2)]) : xP) else (false, d.2.1, [])) else (false, d.2.1, [])) = (false, d.2.1, []) := by
            rw [if_neg q59]
            by_cases y : d.1 = 1
            · rw [if_pos y]
            · rw [if_neg y]
          rw [hno]
          have main : ∀ cc, cc = 77 ∨ cc = 78 → ∃ s', g172_292 (xh_ui (ra s7 d.2.1) cc (40 + N) d.2.2) = some (.inl 0, s') ∧ s' 53 40 = Int32.ofNat w ∧ s' 53 20 = Int32.ofNat d.2.1 ∧ rFn 0 0 0 0 s s' := by
            intro cc hcc
            have o53 : ∀ j, xh_ui (ra s7 d.2.1) cc (40 + N) d.2.2 53 j = ra s7 d.2.1 53 j := fun j => by rw [xu_o (by omega)]
            have hr9 : rR B L d.2.1 (xh_ui (ra s7 d.2.1) cc (40 + N) d.2.2) := ⟨by rw [o53]; exact hr8.1, by rw [o53]; exact hr8.2.1, by rw [xu_o (by omega)]; exact hr8.2.2.1, hL⟩
            have hw9 : xh_ui (ra s7 d.2.1) cc (40 + N) d.2.2 53 20 = -1 := by rw [o53]; exact hw8
            refine ⟨xh_ui (xh_ui (ra s7 d.2.1) cc (40 + N) d.2.2) 53 20 (Int32.ofNat d.2.1), ?_, ?_, xu_s _ _ _ _, rFn_mono (rFn_trans (rFn_trans f08 (rFn_nd (by omega) (by omega) (l _) _ _) (l _) (l _) (l _) (l _)) (rFn_53 (Or.inr (Or.inl rfl)) _ _) (l _) (l _) (l _) (l _)) (Nat.zero_le _) (Nat.zero_le _) (Nat.zero_le _) (Nat.zero_le _)⟩
            · simp only [g172_292, g171_1 hw9, x10, if_false, g180_eq hr9 (by omega : d.2.1 ≤ 1000) hw9, if_neg q59]
            · rw [xu_n (by decide), o53]; exact h407
          by_cases y : nx B L i = 112
          · rw [if_pos y]
            obtain ⟨s', x1, x2, x3, x4⟩ := main 77 (Or.inl rfl)
            exact ⟨s', x1, x2, fun z => (by cases z), fun _ => ⟨x3, x4⟩⟩
          · rw [if_neg y]
            obtain ⟨s', x1, x2, x3, x4⟩ := main 78 (Or.inr rfl)
            exact ⟨s', x1, x2, fun z => (by cases z), fun _ => ⟨x3, x4⟩⟩
