/-! duties: both readers -/
def od (c : Int32) : Bool := !decide (c < 48) && !decide (55 < c)
/-- digits from i on, z of them known: how it ended (0 wrong, 1 right, 2 one twice); where; which -/
def pdl (B : Nat → Int32) (L : Nat) : Nat → Int32 → Nat → Nat × Nat × Int32
  | 0, z, i => (if z = 0 then 0 else 1, i, z)
  | m + 1, z, i => bif od (nx B L i) then
      (if (z >>> ((nx B L i - 48) &&& 31)) &&& 1 = 1 then (2, i, z) else pdl B L m (z ||| (1 <<< ((nx B L i - 48) &&& 31))) (i + 1))
    else (if z = 0 then 0 else 1, i, z)
def pd (B : Nat → Int32) (L : Nat) (g : Int32) (i : Nat) : Nat × Nat × Int32 := if nx B L i = g then pdl B L 8 0 (i + 1) else (1, i, 0)
theorem od_nat {x : Int32} (h : od x = true) : ∃ k, k < 8 ∧ x = Int32.ofNat (48 + k) := by
  unfold od at h
  rw [Bool.and_eq_true, Bool.not_eq_true', Bool.not_eq_true', decide_eq_false_iff_not, decide_eq_false_iff_not] at h
  have a := Int32.le_iff_toInt_le.mp (Int32.not_lt.mp h.1)
  have b := Int32.le_iff_toInt_le.mp (Int32.not_lt.mp h.2)
  have z1 : (48 : Int32).toInt = 48 := by decide
  have z2 : (55 : Int32).toInt = 55 := by decide
  have z3 : (Int32.ofNat 56).toInt = 56 := by decide
  have z0 : (0 : Int32).toInt = 0 := by decide
  obtain ⟨k, hk, rfl⟩ := x_below (x := x) (k := 56) (by decide) (by rw [Int32.le_iff_toInt_le]; omega) (by rw [Int32.lt_iff_toInt_lt]; omega)
  rw [Int32.toInt_ofNat_of_lt (by omega)] at a
  exact ⟨k - 48, by omega, by rw [show 48 + (k - 48) = k by omega]⟩
theorem od_m1 {x : Int32} (h : od x = true) : ¬ x = -1 := fun q => by subst q; revert h; decide
theorem od_25 (x : Int32) : decide (0 ≤ x - 48 ∧ x - 48 < 8) = od x := by
  cases h : od x with
  | true =>
    obtain ⟨k, hk, rfl⟩ := od_nat h
    have : ∀ k, k < 8 → decide (0 ≤ Int32.ofNat (48 + k) - 48 ∧ Int32.ofNat (48 + k) - 48 < 8) = true := by decide +kernel
    exact this k hk
  | false =>
    refine decide_eq_false fun q => ?_
    obtain ⟨k, hk, e⟩ := x_below (x := x - 48) (k := 8) (by decide) q.1 q.2
    have ex : x = Int32.ofNat k + 48 := by rw [← e, Int32.sub_add_cancel]
    have : ∀ k, k < 8 → od (Int32.ofNat k + 48) = true := by decide +kernel
    rw [ex, this k hk] at h
    cases h
theorem pdl_le {B : Nat → Int32} {L : Nat} : ∀ (m : Nat) (z : Int32) (i : Nat), i ≤ L → i ≤ (pdl B L m z i).2.1 ∧ (pdl B L m z i).2.1 ≤ L ∧ ((pdl B L m z i).1 = 2 → od (nx B L (pdl B L m z i).2.1) = true)
  | 0, z, i, h => ⟨Nat.le_refl _, h, fun q => by
    have q : (if z = 0 then 0 else 1) = 2 := q
    by_cases z0 : z = 0
    · rw [if_pos z0] at q; cases q
    · rw [if_neg z0] at q; cases q⟩
  | m + 1, z, i, h => by
    rw [pdl]
    cases o : od (nx B L i) with
    | false =>
      refine ⟨Nat.le_refl _, h, fun q => ?_⟩
      have q : (if z = 0 then 0 else 1) = 2 := q
      by_cases z0 : z = 0
      · rw [if_pos z0] at q; cases q
      · rw [if_neg z0] at q; cases q
    | true =>
      rw [cond_true]
      by_cases y : (z >>> ((nx B L i - 48) &&& 31)) &&& 1 = 1
      · rw [if_pos y]; exact ⟨Nat.le_refl _, h, fun _ => o⟩
      · rw [if_neg y]
        obtain ⟨a, b, c⟩ := pdl_le (B := B) m (z ||| (1 <<< ((nx B L i - 48) &&& 31))) (i + 1) (nx_lt (od_m1 o))
        exact ⟨by omega, b, c⟩
theorem pd_le {B : Nat → Int32} {L : Nat} {g : Int32} (hg : ¬ g = -1) {i : Nat} (h : i ≤ L) : i ≤ (pd B L g i).2.1 ∧ (pd B L g i).2.1 ≤ L ∧ ((pd B L g i).1 = 2 → od (nx B L (pd B L g i).2.1) = true) := by
  unfold pd
  by_cases q : nx B L i = g
  · rw [if_pos q]
    obtain ⟨a, b, c⟩ := pdl_le (B := B) 8 0 (i + 1) (nx_lt (by rw [q]; exact hg))
    exact ⟨by omega, b, c⟩
  · rw [if_neg q]; exact ⟨Nat.le_refl _, h, fun z => by cases z⟩
/-- a set of duties: no bit but the eight -/
def wD8 (x : Int32) : Prop := ∀ i, 8 ≤ i → wt x i = false
theorem wD8_1 : ∀ k, k < 8 → wD8 (1 <<< ((Int32.ofNat (48 + k) - 48) &&& 31)) := fun k hk i hi => by
  by_cases h : i < 32
  · have : ∀ k, k < 8 → ∀ i, i < 32 → 8 ≤ i → wt (1 <<< ((Int32.ofNat (48 + k) - 48) &&& 31)) i = false := by decide +kernel
    exact this k hk i h hi
  · unfold wt; rw [BitVec.getLsbD_of_ge _ _ (by omega)]
theorem pdl_8 {B : Nat → Int32} {L : Nat} : ∀ (m : Nat) (z : Int32) (i : Nat), wD8 z → wD8 (pdl B L m z i).2.2
  | 0, z, i, h => h
  | m + 1, z, i, h => by
    rw [pdl]
    cases o : od (nx B L i) with
    | false => exact h
    | true =>
      rw [cond_true]
      by_cases y : (z >>> ((nx B L i - 48) &&& 31)) &&& 1 = 1
      · rw [if_pos y]; exact h
      · rw [if_neg y]
        obtain ⟨k, hk, e⟩ := od_nat o
        refine pdl_8 m _ (i + 1) fun j hj => ?_
        rw [wt_or, h j hj, e, wD8_1 k hk j hj]; rfl
theorem pd_8 {B : Nat → Int32} {L : Nat} {g : Int32} {i : Nat} : wD8 (pd B L g i).2.2 := by
  unfold pd
  have h0 : wD8 0 := fun i _ => by unfold wt; show (0#32).getLsbD i = false; rw [BitVec.getLsbD_zero]
  by_cases q : nx B L i = g
  · rw [if_pos q]; exact pdl_8 8 0 (i + 1) h0
  · rw [if_neg q]; exact h0
/-- the digits that the class holds -/
def dg (σ : xS) (z : Int32) : xS := xh_ui σ 20 4 z
theorem cR_dg {B : Nat → Int32} {L i : Nat} {σ : xS} (h : cR B L i σ) (z : Int32) : cR B L i (dg σ z) := ⟨h.1, h.2.1, h.2.2.1, h.2.2.2.1, h.2.2.2.2⟩
def c20 (σ σ' : xS) : Prop := ∀ c, ¬ c = 20 → σ' c = σ c
theorem g105_lp {B : Nat → Int32} {L : Nat} : ∀ (m i k f : Nat) (z : Int32) (σ : xS), k + m = 8 → m < f → cR B L i σ → i ≤ L → σ 20 4 = z →
    ∃ σ', xlo (fun a : Int32 × xS => g105_17b a.1 a.2) f (Int32.ofNat k, σ) = some (.inl (if (pdl B L m z i).1 = 1 then 1 else 0), σ') ∧ cR B L (pdl B L m z i).2.1 σ' ∧ c20 σ σ' ∧ σ' 20 4 = (pdl B L m z i).2.2
  | _, _, _, 0, _, _, _, h, _, _, _ => absurd h (Nat.not_lt_zero _)
  | 0, i, k, f + 1, z, σ, hk, hf, h, hi, hz => by
    have e91 : g105_91 σ = some (.inl (if (if z = 0 then 0 else 1) = 1 then 1 else 0), σ) := by
      unfold g105_91
      rw [hz]
      by_cases q : z = 0
      · rw [if_pos q, if_pos q]; rfl
      · rw [if_neg q, if_neg q]; rfl
    have hk8 : k = 8 := by omega
    subst hk8
    refine ⟨σ, ?_, h, fun _ _ => rfl, hz⟩
    refine (xlo_map (X := g105_91 σ) ?_).trans e91
    simp only [g105_17b, if_pos (by decide : (8 : Int32) ≤ Int32.ofNat 8)]
  | m + 1, i, k, f + 1, z, σ, hk, hf, h, hi, hz => by
    have hL := h.2.2.2.2
    have e91 : g105_91 σ = some (.inl (if (if z = 0 then 0 else 1) = 1 then 1 else 0), σ) := by
      unfold g105_91
      rw [hz]
      by_cases q : z = 0
      · rw [if_pos q, if_pos q]; rfl
      · rw [if_neg q, if_neg q]; rfl
    have h8 : ¬ 8 ≤ Int32.ofNat k := (x8 k (by omega)).1
    rw [pdl]
    cases o : od (nx B L i) with
    | false =>
      refine ⟨σ, (xlo_map (X := g105_91 σ) ?_).trans e91, h, fun _ _ => rfl, hz⟩
      simp only [g105_17b, if_neg h8, h.2.1, g25_eq, od_25, o, xb_f, if_true]
    | true =>
      have hlt := nx_lt (od_m1 o)
      rw [cond_true]
      by_cases y : (z >>> ((nx B L i - 48) &&& 31)) &&& 1 = 1
      · rw [if_pos y]
        refine ⟨σ, xlo_end ?_, h, fun _ _ => rfl, hz⟩
        simp only [g105_17b, if_neg h8, h.2.1, g25_eq, od_25, o, xb_t, x10, if_false, hz, g28_eq, decide_eq_true y]
        rfl
      · rw [if_neg y]
        have hd : cR B L i (dg σ (z ||| (1 <<< ((nx B L i - 48) &&& 31)))) := cR_dg h _
        have eb : g105_17b (Int32.ofNat k) σ = some (.inl (Int32.ofNat (k + 1), mv (dg σ (z ||| (1 <<< ((nx B L i - 48) &&& 31)))) (i + 1) (nx B L (i + 1)))) := by
          have e90 := g90_s hd (by omega)
          simp only [g105_17b, if_neg h8, h.2.1, g25_eq, od_25, o, xb_t, x10, if_false, hz, g28_eq, decide_eq_false y, xb_f, if_true]
          show (match g90 (dg σ (z ||| (1 <<< ((nx B L i - 48) &&& 31))) 20 2 + 1) (dg σ (z ||| (1 <<< ((nx B L i - 48) &&& 31)))) with | some (Sum.inl v15, s16) => some (Sum.inl ((Int32.ofNat k + 1), s16)) | some (Sum.inr v15, s16) => none | none => none) = _
          rw [e90, x_succ]
        obtain ⟨σ', a1, a2, a3, a4⟩ := g105_lp (B := B) (L := L) m (i + 1) (k + 1) f (z ||| (1 <<< ((nx B L i - 48) &&& 31))) (mv (dg σ (z ||| (1 <<< ((nx B L i - 48) &&& 31)))) (i + 1) (nx B L (i + 1))) (by omega) (by omega) (cR_mv hd _) hlt rfl
        refine ⟨σ', by rw [xlo_step (a := (Int32.ofNat k, σ)) eb, a1], a2, fun c hc => ?_, a4⟩
        rw [a3 c hc, mv_o hc]
        unfold dg
        rw [xu_o hc]
/-- the class reads duties -/
theorem g105_eq {B : Nat → Int32} {L i : Nat} {g : Int32} (hg : ¬ g = -1) {σ : xS} (h : cR B L i σ) (hi : i ≤ L) : ∃ σ', g105 g σ = some (.inl (if (pd B L g i).1 = 1 then 1 else 0), σ') ∧ cR B L (pd B L g i).2.1 σ' ∧ c20 σ σ' ∧ σ' 20 4 = (pd B L g i).2.2 := by
  have hL := h.2.2.2.2
  have hd := cR_dg h 0
  have e102 := g102_eq hd (by omega) g
  unfold pd
  by_cases q : nx B L i = g
  · rw [if_pos q] at e102 ⊢
    obtain ⟨σ', a1, a2, a3, a4⟩ := g105_lp (B := B) (L := L) 8 (i + 1) 0 1000 0 (mv (dg σ 0) (i + 1) (nx B L (i + 1))) rfl (by decide) (cR_mv hd _) (nx_lt (by rw [q]; exact hg)) rfl
    refine ⟨σ', ?_, a2, fun c hc => ?_, a4⟩
    · unfold g105
      show (match g102 g (dg σ 0) with | some (Sum.inl v1, s2) => (if v1 = 0 then some ((Sum.inl 1, s2)) else g105_17 0 s2) | some (Sum.inr v1, s2) => none | none => none) = _
      rw [e102]
      dsimp only
      rw [if_neg (by decide)]
      exact a1
    · rw [a3 c hc, mv_o hc]
      unfold dg
      rw [xu_o hc]
  · rw [if_neg q] at e102 ⊢
    refine ⟨dg σ 0, ?_, hd, fun c hc => by unfold dg; rw [xu_o hc], rfl⟩
    unfold g105
    show (match g102 g (dg σ 0) with | some (Sum.inl v1, s2) => (if v1 = 0 then some ((Sum.inl 1, s2)) else g105_17 0 s2) | some (Sum.inr v1, s2) => none | none => none) = _
    rw [e102]
    dsimp only
    rw [if_pos rfl]
    rfl
theorem od_split {x : Int32} (h : od x = true) : ¬ x < 48 ∧ ¬ 55 < x := by
  unfold od at h
  rw [Bool.and_eq_true, Bool.not_eq_true', Bool.not_eq_true', decide_eq_false_iff_not, decide_eq_false_iff_not] at h
  exact h
/-- how many duties -/
def c8 (y : Nat) : Nat := (List.range 8).countP fun k => decide ((Int32.ofNat y >>> (Int32.ofNat k &&& 31)) &&& 1 = 1)
theorem c8_0 : (List.range 256).all (fun y => (List.range 8).all fun k => decide ((Int32.ofNat y >>> (Int32.ofNat k &&& 31)) &&& 1 = 1) || decide ((Int32.ofNat y >>> (Int32.ofNat k &&& 31)) &&& 1 = 0 ∧ Int32.ofNat y ||| (1 <<< (Int32.ofNat k &&& 31)) = Int32.ofNat (y + 2 ^ k) ∧ y + 2 ^ k < 256 ∧ c8 (y + 2 ^ k) = c8 y + 1)) = true := by decide +kernel
theorem c8_1 : (List.range 256).all (fun y => !decide (c8 y = 8) || (List.range 8).all fun k => decide ((Int32.ofNat y >>> (Int32.ofNat k &&& 31)) &&& 1 = 1)) = true := by decide +kernel
theorem c8_new {y k : Nat} (hy : y < 256) (hk : k < 8) (h : ¬ (Int32.ofNat y >>> (Int32.ofNat k &&& 31)) &&& 1 = 1) : (Int32.ofNat y >>> (Int32.ofNat k &&& 31)) &&& 1 = 0 ∧ Int32.ofNat y ||| (1 <<< (Int32.ofNat k &&& 31)) = Int32.ofNat (y + 2 ^ k) ∧ y + 2 ^ k < 256 ∧ c8 (y + 2 ^ k) = c8 y + 1 := by
  have := List.all_eq_true.mp (List.all_eq_true.mp c8_0 y (List.mem_range.mpr hy)) k (List.mem_range.mpr hk)
  rw [Bool.or_eq_true, decide_eq_true_eq, decide_eq_true_eq] at this
  exact this.resolve_left h
theorem c8_full {y k : Nat} (hy : y < 256) (hk : k < 8) (h : c8 y = 8) : (Int32.ofNat y >>> (Int32.ofNat k &&& 31)) &&& 1 = 1 := by
  have := List.all_eq_true.mp c8_1 y (List.mem_range.mpr hy)
  rw [decide_eq_true h, Bool.not_true, Bool.false_or] at this
  exact of_decide_eq_true (List.all_eq_true.mp this k (List.mem_range.mpr hk))
theorem x_48 : ∀ k, k < 8 → Int32.ofNat (48 + k) - 48 = Int32.ofNat k := by decide
theorem x_y0 : ∀ k, k < 8 → ¬ ((0 : Int32) >>> (Int32.ofNat k &&& 31)) &&& 1 = 1 := by decide
theorem x_10 {y : Int32} (h : y &&& 1 = 1) : ¬ y &&& 1 = 0 := by rw [h]; decide
/-- the reference reads the digits -/
theorem g185_lp {B : Nat → Int32} {L : Nat} : ∀ (m i f y : Nat) (s : xS), c8 y + m = 8 → y < 256 → m < f → rR B L i s → i ≤ L → s 53 20 = -1 →
    xlo (fun a : Int32 × xS => g185_29b a.1 a.2) f (Int32.ofNat y, s) = some (.inl (pdl B L m (Int32.ofNat y) i).2.2, if (pdl B L m (Int32.ofNat y) i).1 = 0 then xh_ui (ra s (pdl B L m (Int32.ofNat y) i).2.1) 53 20 (Int32.ofNat (pdl B L m (Int32.ofNat y) i).2.1) else ra s (pdl B L m (Int32.ofNat y) i).2.1)
  | _, _, 0, _, _, _, _, h, _, _, _ => absurd h (Nat.not_lt_zero _)
  | m, i, f + 1, y, s, hc, hy, hf, hr, hi, hw => by
    have hL := hr.2.2.2
    have h173 := g173_eq hr (by omega)
    have e86 : g185_86 (Int32.ofNat y) s = some (.inl (Int32.ofNat y), if (if Int32.ofNat y = 0 then 0 else 1) = 0 then xh_ui (ra s i) 53 20 (Int32.ofNat i) else ra s i) := by
      rw [ra_id hr]
      unfold g185_86
      by_cases q : Int32.ofNat y = 0
      · rw [if_pos q, if_pos q, g175_eq hr hw]; rfl
      · rw [if_neg q, if_neg q]; rfl
    cases o : od (nx B L i) with
    | false =>
      have ep : pdl B L m (Int32.ofNat y) i = (if Int32.ofNat y = 0 then 0 else 1, i, Int32.ofNat y) := by
        cases m with
        | zero => rfl
        | succ m => rw [pdl, o]; rfl
      rw [ep]
      refine (xlo_map (X := g185_86 (Int32.ofNat y) s) ?_).trans e86
      by_cases h1 : nx B L i < 48
      · simp only [g185_29b, h173, if_pos h1]
      · have h2 : 55 < nx B L i := Decidable.byContradiction fun h2 => by
          unfold od at o
          rw [decide_eq_false h1, decide_eq_false h2] at o
          cases o
        simp only [g185_29b, h173, if_neg h1, if_pos h2]
    | true =>
      obtain ⟨o1, o2⟩ := od_split o
      obtain ⟨k, hk, e⟩ := od_nat o
      have hlt := nx_lt (od_m1 o)
      by_cases yb : (Int32.ofNat y >>> (Int32.ofNat k &&& 31)) &&& 1 = 1
      · have hz : ¬ Int32.ofNat y = 0 := fun q => by rw [q] at yb; exact x_y0 k hk yb
        have ep : ∃ r, (r = 1 ∨ r = 2) ∧ pdl B L m (Int32.ofNat y) i = (r, i, Int32.ofNat y) := by
          cases m with
          | zero => exact ⟨1, Or.inl rfl, by rw [pdl, if_neg hz]⟩
          | succ m => exact ⟨2, Or.inr rfl, by rw [pdl, o, cond_true, e, x_48 k hk, if_pos yb]⟩
        obtain ⟨r, r0, ep⟩ := ep
        rw [ep]
        rw [if_neg hz] at e86
        have e86' : g185_86 (Int32.ofNat y) s = some (.inl (Int32.ofNat y), if r = 0 then xh_ui (ra s i) 53 20 (Int32.ofNat i) else ra s i) := by
          rw [e86]
          rcases r0 with r0 | r0 <;> rw [r0] <;> rfl
        refine (xlo_map (X := g185_86 (Int32.ofNat y) s) ?_).trans e86'
        have yb' : ¬ (Int32.ofNat y >>> ((nx B L i - 48) &&& 31)) &&& 1 = 0 := by rw [e, x_48 k hk]; exact x_10 yb
        simp only [g185_29b, h173, if_neg o1, if_neg o2, if_neg yb']
      · match m, hc, hf with
        | 0, hc, hf => exact absurd (c8_full hy hk (by omega)) yb
        | m + 1, hc, hf =>
        obtain ⟨n0, n1, n2, n3⟩ := c8_new hy hk yb
        have yb' : (Int32.ofNat y >>> ((nx B L i - 48) &&& 31)) &&& 1 = 0 := by rw [e, x_48 k hk]; exact n0
        have ez : Int32.ofNat y ||| (1 <<< ((nx B L i - 48) &&& 31)) = Int32.ofNat (y + 2 ^ k) := by rw [e, x_48 k hk]; exact n1
        have yb'' : ¬ (Int32.ofNat y >>> ((nx B L i - 48) &&& 31)) &&& 1 = 1 := by rw [yb']; decide
        have eb : g185_29b (Int32.ofNat y) s = some (.inl (Int32.ofNat (y + 2 ^ k), ra s (i + 1))) := by
          simp only [g185_29b, h173, if_neg o1, if_neg o2, if_pos yb', ez, ra_s hr]
        rw [xlo_step (a := (Int32.ofNat y, s)) eb, g185_lp m (i + 1) f (y + 2 ^ k) (ra s (i + 1)) (by omega) n2 (by omega) (rR_ra hr _) hlt hw, pdl, o, cond_true, if_neg yb'', ez, ra_ra]
/-- the reference reads duties -/
theorem g185_eq {B : Nat → Int32} {L i : Nat} {g : Int32} (hg : ¬ g = -1) {s : xS} (hr : rR B L i s) (hi : i ≤ L) (hw : s 53 20 = -1) : g185 g s = some (.inl (pd B L g i).2.2, if (pd B L g i).1 = 0 then xh_ui (ra s (pd B L g i).2.1) 53 20 (Int32.ofNat (pd B L g i).2.1) else ra s (pd B L g i).2.1) := by
  have hL := hr.2.2.2
  unfold pd
  by_cases q : nx B L i = g
  · rw [if_pos q]
    simp only [g185, g171_1 hw, x10, if_false, g173_eq hr (by omega), if_pos q, ra_s hr, g185_29]
    have := g185_lp (B := B) (L := L) 8 (i + 1) 1000 0 (ra s (i + 1)) (by decide) (by decide) (by decide) (rR_ra hr _) (nx_lt (by rw [q]; exact hg)) hw
    rw [ra_ra] at this
    exact this
  · rw [if_neg q]
    simp only [g185, g171_1 hw, x10, if_false, g173_eq hr (by omega), if_neg q]
    rw [if_neg (by decide), ra_id hr]
theorem g185_no {g : Int32} {s : xS} {e : Nat} (he : s 53 20 = Int32.ofNat e) (h1 : e ≤ 1000) : g185 g s = some (.inl 0, s) := by
  simp only [g185, g171_0 he h1, if_true]
