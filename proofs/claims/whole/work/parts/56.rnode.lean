/-! the reference reads nodes: its loop -/
abbrev oL : Int32 × xS → Option ((Int32 × xS) ⊕ xQ) := fun a => g170_47b a.1 a.2
abbrev cL : xS → Option (xS ⊕ xQ) := fun a => g186_0b a
/-- on from the loop that closes policies -/
def cC (F m : Nat) (s : xS) : Option xQ := match xlo cL m s with
  | some (Sum.inl v, s') => xlo oL F (if v = 0 then 0 else 1, s')
  | some (Sum.inr _, _) => none
  | none => none
theorem g170_81_F {s : xS} {e : Nat} (he : s 53 20 = Int32.ofNat e) (h1 : e ≤ 1000) : g170_81 s = g170_103 s := by
  simp only [g170_81, g171_0 he h1, if_true]
theorem oL_F {s : xS} {e : Nat} (he : s 53 20 = Int32.ofNat e) (h1 : e ≤ 1000) (v : Int32) (F : Nat) : xlo oL (F + 1) (v, s) = g170_103 s := by
  refine (xlo_map (X := g170_81 s) ?_).trans (g170_81_F he h1)
  show g170_47b v s = _
  by_cases q : v = 0
  · simp only [g170_47b, if_pos q]
  · simp only [g170_47b, if_neg q, g171_0 he h1, if_true]
theorem g186_86_eq (s : xS) : ∃ v, g186_86 s = some (.inl v, s) ∧ (v = 0 ↔ s 53 40 ≤ 0) := by
  unfold g186_86
  by_cases q : s 53 40 ≤ 0
  · exact ⟨0, by rw [if_pos q], fun _ => q, fun _ => rfl⟩
  · exact ⟨1, by rw [if_neg q], fun z => absurd z (by decide), fun z => absurd z q⟩
theorem cC_F {s : xS} {e : Nat} (he : s 53 20 = Int32.ofNat e) (h1 : e ≤ 1000) (F m : Nat) : cC (F + 1) (m + 1) s = g170_103 s := by
  obtain ⟨v, e86, -⟩ := g186_86_eq s
  have ex : xlo cL (m + 1) s = some (.inl v, s) := by
    refine (xlo_map (X := g186_86 s) ?_).trans e86
    show g186_0b s = _
    simp only [g186_0b, g171_0 he h1, if_true]
  unfold cC
  rw [ex]
  exact oL_F he h1 _ F
/-- the node failed -/
theorem oL_no {s s1 : xS} {v : Int32} {e : Nat} (hw : s 53 20 = -1) (h : g172 s = some (.inl v, s1)) (he : s1 53 20 = Int32.ofNat e) (h1 : e ≤ 1000) (F : Nat) : xlo oL (2 + F) (1, s) = g170_103 s1 := by
  rw [show 2 + F = (F + 1) + 1 by omega]
  by_cases q : v = 0
  · obtain ⟨u, e86, -⟩ := g186_86_eq s1
    have ex : g186 s1 = some (.inl u, s1) := by
      unfold g186 g186_0
      refine (xlo_map (f := fun a : xS => g186_0b a) (X := g186_86 s1) ?_).trans e86
      show g186_0b s1 = _
      simp only [g186_0b, g171_0 he h1, if_true]
    have eo : oL (1, s) = some (.inl (if u = 0 then 0 else 1, s1)) := by
      show g170_47b 1 s = _
      simp only [g170_47b, x10, if_false, g171_1 hw, h, if_pos q, ex]
      by_cases y : u = 0
      · rw [if_pos y, if_pos y]; rfl
      · rw [if_neg y, if_neg y]; rfl
    rw [xlo_step eo]
    exact oL_F he h1 _ F
  · have eo : oL (1, s) = some (.inl (1, s1)) := by
      show g170_47b 1 s = _
      simp only [g170_47b, x10, if_false, g171_1 hw, h, if_neg q, g170_72, g170_77]
    rw [xlo_step eo]
    exact oL_F he h1 _ F
/-- the node is a policy's head -/
theorem oL_1 {s s1 : xS} (hw : s 53 20 = -1) (h : g172 s = some (.inl 1, s1)) (F : Nat) : xlo oL (1 + F) (1, s) = xlo oL F (1, s1) := by
  rw [Nat.add_comm]
  refine xlo_step ?_
  show g170_47b 1 s = _
  simp only [g170_47b, x10, if_false, g171_1 hw, h, g170_72, g170_77]
/-- the node is a rule -/
theorem oL_0 {s s1 : xS} (hw : s 53 20 = -1) (h : g172 s = some (.inl 0, s1)) (F : Nat) : xlo oL (1 + F) (1, s) = cC F 1000 s1 := by
  rw [Nat.add_comm, xlo]
  have eo : oL (1, s) = (match g186 s1 with | some (Sum.inl v26, s27) => (if v26 = 0 then g170_77 0 s27 else g170_72 s27) | some (Sum.inr v26, s27) => none | none => none) := by
    show g170_47b 1 s = _
    simp only [g170_47b, x10, if_false, g171_1 hw, h, if_true]
    rfl
  rw [eo]
  unfold cC
  have e186 : g186 s1 = xlo cL 1000 s1 := rfl
  rw [e186]
  cases xlo cL 1000 s1 with
  | none => rfl
  | some y =>
    obtain ⟨v | v, s4⟩ := y
    · dsimp only
      by_cases q : v = 0
      · rw [if_pos q, if_pos q]; rfl
      · rw [if_neg q, if_neg q]; rfl
    · rfl
/-- no bracket closes here: the next node -/
theorem cC_next {B : Nat → Int32} {L i w : Nat} {s : xS} (hr : rR B L i s) (hi : i ≤ 1000) (hw : s 53 20 = -1) (hd : s 53 40 = Int32.ofNat (w + 1)) (hw5 : w < 1000) (q : ¬ nx B L i = 125) (F m : Nat) : cC F (m + 1) s = xlo oL F (1, s) := by
  have n0 : ¬ s 53 40 ≤ 0 := by rw [hd]; exact x_pos hw5
  have ex : xlo cL (m + 1) s = some (.inl 1, s) := by
    refine (xlo_map (X := g186_86 s) ?_).trans ?_
    · show g186_0b s = _
      simp only [g186_0b, g171_1 hw, x10, if_false, if_neg n0, g173_eq hr hi, if_neg q]
    · unfold g186_86; rw [if_neg n0]
  unfold cC
  rw [ex]
  rfl
theorem g174_eq (x : Int32) (σ : xS) : g174 x σ = some (.inl (xb (comb x)), σ) := by
  by_cases h : (x = 68 ∨ x = 80 ∨ x = 70 ∨ x = 88 ∨ x = 89 ∨ x = 79)
  · have e : comb x = true := decide_eq_true h
    rw [e]
    rcases h with rfl | rfl | rfl | rfl | rfl | rfl <;> rfl
  · have e : comb x = false := decide_eq_false h
    rw [e]
    simp only [not_or] at h
    obtain ⟨h1, h2, h3, h4, h5, h6⟩ := h
    unfold g174
    simp only [h1, h2, h3, h4, h5, h6, if_false]
    rfl
/-- no node can begin here -/
theorem r_no {B : Nat → Int32} {L N M D w i : Nat} {par : Option Nat} {o : Bool} {s : xS} (h : rPre B L N M D par o w i s) (hc : 40 ≤ N ∨ (isr (nx B L i) = true ∧ o = true) ∨ (isr (nx B L i) = false ∧ comb (nx B L i) = false) ∨ (isr (nx B L i) = false ∧ w = 5)) : g172 s = some (.inl 0, xh_ui s 53 20 (Int32.ofNat i)) := by
  obtain ⟨hr, hi, hw, h70, hM, hD, h3, hDi, hN, h40, hw5, hpar⟩ := id h
  have hL := hr.2.2.2
  have e99 : g172_99 s = some (.inl 0, xh_ui s 53 20 (Int32.ofNat i)) := by simp only [g172_99, g175_eq hr hw]
  have e22 : g172 s = g172_56 (nx B L i) (xb (isr (nx B L i))) (xb o) s := by
    rw [← r_22 h]
    by_cases q1 : nx B L i = 112
    · have : isr (nx B L i) = true := decide_eq_true (Or.inl q1)
      rw [this]
      simp only [g172, g173_eq hr (by omega), if_pos q1, g172_17]
      rfl
    · by_cases q2 : nx B L i = 100
      · have : isr (nx B L i) = true := decide_eq_true (Or.inr q2)
        rw [this]
        simp only [g172, g173_eq hr (by omega), if_neg q1, if_pos q2, g172_17]
        rfl
      · have : isr (nx B L i) = false := decide_eq_false (fun z => z.elim q1 q2)
        rw [this]
        simp only [g172, g173_eq hr (by omega), if_neg q1, if_neg q2]
        rfl
  rw [e22]
  by_cases hN4 : N = 40
  · have z : s 70 1 = 40 := by rw [h70, hN4]; rfl
    simp only [g172_56, if_pos z, e99]
  · have z : ¬ s 70 1 = 40 := by rw [h70]; exact x_n40 N (by omega)
    rcases hc with hc | ⟨c1, c2⟩ | ⟨c1, c2⟩ | ⟨c1, c2⟩
    · exact absurd hc (by omega)
    · rw [c1, c2]
      simp only [g172_56, if_neg z, xb_t, x10, if_false, g172_79, e99]
    · rw [c1]
      simp only [g172_56, if_neg z, xb_f, if_true, g174_eq, c2, e99]
    · rw [c1]
      cases g2 : comb (nx B L i) with
      | false => simp only [g172_56, if_neg z, xb_f, if_true, g174_eq, g2, e99]
      | true =>
        have z5 : s 53 40 = 5 := by rw [h40, c2]; rfl
        simp only [g172_56, if_neg z, xb_f, if_true, g174_eq, g2, xb_t, x10, if_false, g172_79, g172_87, if_pos z5, e99]
theorem od_no {x : Int32} (h : od x = true) : isr x = false ∧ comb x = false ∧ ¬ x = 125 ∧ ¬ x = 45 := by
  obtain ⟨k, hk, rfl⟩ := od_nat h
  have : ∀ k, k < 8 → isr (Int32.ofNat (48 + k)) = false ∧ comb (Int32.ofNat (48 + k)) = false ∧ ¬ Int32.ofNat (48 + k) = 125 ∧ ¬ Int32.ofNat (48 + k) = 45 := by decide
  exact this k hk
/-- a duty twice: the next reading finds it wrong -/
theorem cC_D {B : Nat → Int32} {L N M D w i : Nat} {par : Option Nat} {o : Bool} {s : xS} (h : rPre B L N M D par o w i s) (hod : od (nx B L i) = true) (F m : Nat) : cC (F + 2) (m + 1) s = g170_103 (xh_ui s 53 20 (Int32.ofNat i)) := by
  obtain ⟨hr, hi, hw, h70, hM, hD, h3, hDi, hN, h40, hw5, hpar⟩ := id h
  have hL := hr.2.2.2
  obtain ⟨o1, o2, o3, o4⟩ := od_no hod
  have hlt := nx_lt (od_m1 hod)
  by_cases q : w = 0
  · have z0 : s 53 40 ≤ 0 := by rw [h40, q]; decide
    have ex : xlo cL (m + 1) s = some (.inl 0, s) := by
      refine (xlo_map (X := g186_86 s) ?_).trans ?_
      · show g186_0b s = _
        simp only [g186_0b, g171_1 hw, x10, if_false, if_pos z0]
      · unfold g186_86; rw [if_pos z0]
    unfold cC
    rw [ex]
    dsimp only
    rw [if_pos rfl, show F + 2 = (F + 1) + 1 by omega]
    have nle : ¬ s 53 18 ≤ s 53 19 := by
      rw [hr.1, hr.2.1, Int32.le_iff_toInt_le, Int32.toInt_ofNat_of_lt (by omega), Int32.toInt_ofNat_of_lt (by omega)]; omega
    have e81 : g170_81 s = g170_103 (xh_ui s 53 20 (Int32.ofNat i)) := by
      simp only [g170_81, g171_1 hw, x10, if_false, if_neg nle, g175_eq hr hw]
    refine (xlo_map (X := g170_81 s) ?_).trans e81
    show g170_47b 0 s = _
    simp only [g170_47b, if_true]
  · obtain ⟨v, rfl⟩ : ∃ v, w = v + 1 := ⟨w - 1, by omega⟩
    rw [cC_next hr (by omega) hw h40 (by omega) o3]
    have := oL_no (e := i) hw (r_no h (Or.inr (Or.inr (Or.inl ⟨o1, o2⟩)))) (xu_s _ _ _ _) (by omega) F
    rw [Nat.add_comm] at this
    exact this
def rSim (B : Nat → Int32) (L N M D w : Nat) (s : xS) (r : xP) : Prop :=
  (r.1 = true → ∃ n m s', n ≤ r.2.2.length ∧ 995 + w ≤ m ∧ (∀ F, xlo oL (n + F) (1, s) = cC F m s') ∧ rPost B L N M D w r.2.2 r.2.1 s s') ∧
  (r.1 = false → ∃ n s', n + N ≤ 44 ∧ (∀ F, xlo oL (n + F) (1, s) = g170_103 s') ∧ s' 53 20 = Int32.ofNat r.2.1 ∧ rFn 0 0 0 0 s s')
/-- a policy's head -/
theorem r_op {B : Nat → Int32} {L N M D w i : Nat} {par : Option Nat} {o : Bool} {s : xS} (h : rPre B L N M D par o w i s) (hN : N < 40) (hw5 : w < 5) (hci : isr (nx B L i) = false) (hc : comb (nx B L i) = true) :
    ∃ s', g172 s = some (.inl 1, s') ∧ ((pT B L (i + 1)).1 = true ∧ nx B L (pT B L (i + 1)).2.1 = 123 → rPre B L (N + 1) (M + (pT B L (i + 1)).2.2.2.length) D (some N) (decide (nx B L i = 79)) (w + 1) ((pT B L (i + 1)).2.1 + 1) s' ∧ rFn N M D w s s' ∧ s' 71 (40 + N) = nx B L i ∧ s' 72 (40 + N) = rv par ∧ s' 73 (40 + N) = Int32.ofNat (100 + M) ∧ s' 74 (40 + N) = Int32.ofNat (100 + M + (pT B L (i + 1)).2.2.2.length) ∧
        ∀ q t, (pT B L (i + 1)).2.2.2[q]? = some t → s' 79 (100 + M + q) = t.1.1 ∧ s' 80 (100 + M + q) = t.1.2.1 ∧ s' 81 (100 + M + q) = t.1.2.2 ∧ s' 82 (100 + M + q) = t.2.1 ∧ s' 83 (100 + M + q) = t.2.2) ∧
      (¬ ((pT B L (i + 1)).1 = true ∧ nx B L (pT B L (i + 1)).2.1 = 123) → s' 53 20 = Int32.ofNat (pT B L (i + 1)).2.1 ∧ rFn 0 0 0 0 s s') := by
  obtain ⟨hr, hi, hw, h70, hM, hD, h3, hDi, hN', h40, hw5', hpar⟩ := id h
  have hL := hr.2.2.2
  have l := Nat.le_refl
  have hlt := nx_lt (comb_m1 hc)
  have q1 : ¬ nx B L i = 112 := fun q => by rw [q] at hci; revert hci; decide
  have q2 : ¬ nx B L i = 100 := fun q => by rw [q] at hci; revert hci; decide
  have e105 : g172 s = g172_105 (nx B L i) 0 s := by
    have n4 : ¬ s 70 1 = 40 := by rw [h70]; exact x_n40 N hN
    have n5 : ¬ s 53 40 = 5 := by
      rw [h40]
      have : ∀ v, v < 5 → ¬ Int32.ofNat v = 5 := by decide
      exact this w hw5
    have e22 : g172 s = g172_22 (nx B L i) 0 s := by
      simp only [g172, g173_eq hr (by omega), if_neg q1, if_neg q2]
    rw [e22, r_22 h]
    simp only [g172_56, if_neg n4, if_true, g174_eq, hc, xb_t, x10, if_false, g172_79, g172_87, if_neg n5]
  have hrH : rR B L (i + 1) (rH N i (nx B L i) (rv par) s) := ⟨rfl, hr.2.1, hr.2.2.1, hL⟩
  obtain ⟨s3, a1, a2, a3, a4, a5, a6⟩ := r_tg (s := rH N i (nx B L i) (rv par) s) hN hrH hlt hw hM (by omega)
  obtain ⟨t0, t1, t2⟩ := ptG_T (B := B) (L := L) (i := i + 1) hlt
  rw [e105, g172_105_eq h hN, g172_162_eq hN hr.1 (nx B L i) 0 (rv par) a1, if_pos x0p]
  have hfH : ∀ M D w, rFn N M D w s (rH N i (nx B L i) (rv par) s) := fun M D w => rH_fr _ _ _ _ _ _
  let s4 : xS := xh_ui (xh_ui s3 75 (40 + N) 0) 76 (40 + N) 0
  have f4 : ∀ M D w, rFn N M D w s3 s4 := fun M D w => rFn_trans (rFn_nd (by decide) (by decide) (l _) s3 _) (rFn_nd (by decide) (by decide) (l _) _ _) (l _) (l _) (l _) (l _)
  have h404 : s4 53 40 = Int32.ofNat w := a3.trans h40
  have e228 : ∀ s5 : xS, s5 53 40 = Int32.ofNat w → g172_228 (Int32.ofNat (40 + N)) s5 = some (.inl 1, xh_ui (xh_ui s5 85 w (Int32.ofNat (40 + N))) 53 40 (Int32.ofNat (w + 1))) := fun s5 h5 => by
    have e' : xh_ui s5 85 w (Int32.ofNat (40 + N)) 53 40 = Int32.ofNat w := h5
    unfold g172_228
    rw [h5, xn_of (by omega) (by omega), cond_true, Int32.toNatClampNeg_ofNat_of_lt (by omega), e', x_succ]
  have f5 : ∀ (s5 : xS) M D, rFn N M D w s5 (xh_ui (xh_ui s5 85 w (Int32.ofNat (40 + N))) 53 40 (Int32.ofNat (w + 1))) := fun s5 M D => rFn_trans (rFn_85 (l _) s5 _) (rFn_53 (Or.inr (Or.inr (Or.inr (Or.inr rfl)))) _ _) (l _) (l _) (l _) (l _)
  cases g : (pT B L (i + 1)).1 with
  | false =>
    obtain ⟨b1, b2⟩ := a6 g
    have he4 : s4 53 20 = Int32.ofNat (pT B L (i + 1)).2.1 := b1
    rw [show g171 (xh_ui (xh_ui s3 75 (40 + N) 0) 76 (40 + N) 0) = _ from g171_0 he4 (by omega)]
    dsimp only
    rw [if_pos x0p, e228 s4 h404]
    refine ⟨_, rfl, fun z => absurd z.1 (by decide), fun _ => ⟨b1, ?_⟩⟩
    exact rFn_mono (rFn_trans (rFn_trans (rFn_trans (hfH 0 0 w) (b2 0 w) (l _) (l _) (l _) (l _)) (f4 0 0 w) (l _) (l _) (l _) (l _)) (f5 s4 0 0) (l _) (l _) (l _) (l _)) (Nat.zero_le _) (l _) (l _) (Nat.zero_le _)
  | true =>
    obtain ⟨b1, b2, b3, b4, b5, b6, b7⟩ := a5 g
    obtain ⟨t3, t4⟩ := t2 g
    have hr4 : rR B L (pT B L (i + 1)).2.1 s4 := b1
    have hw4 : s4 53 20 = -1 := b2
    rw [show g171 (xh_ui (xh_ui s3 75 (40 + N) 0) 76 (40 + N) 0) = _ from g171_1 hw4]
    dsimp only
    rw [if_neg x1n, show g180 123 (xh_ui (xh_ui s3 75 (40 + N) 0) 76 (40 + N) 0) = _ from g180_eq hr4 (by omega) hw4 123]
    dsimp only
    have f04 : rFn N M D w s s4 := rFn_trans (rFn_trans (hfH M D w) (b4 D w) (l _) (l _) (l _) (l _)) (f4 M D w) (l _) (l _) (l _) (l _)
    by_cases q : nx B L (pT B L (i + 1)).2.1 = 123
    · rw [if_pos q, e228 (ra s4 ((pT B L (i + 1)).2.1 + 1)) h404]
      have hlt2 := nx_lt (B := B) (L := L) (i := (pT B L (i + 1)).2.1) (by rw [q]; decide)
      generalize pT B L (i + 1) = t at *
      let s6 : xS := xh_ui (xh_ui (ra s4 (t.2.1 + 1)) 85 w (Int32.ofNat (40 + N))) 53 40 (Int32.ofNat (w + 1))
      have e71 : s6 71 (40 + N) = nx B L i := by
        show s3 71 (40 + N) = _
        rw [a4 71 (by omega)]
        exact xu_s _ 71 (40 + N) _
      refine ⟨s6, rfl, fun _ => ⟨⟨?_, hlt2, b2, ?_, b3, ?_, by omega, by omega, hN, rfl, by omega, ?_⟩, ?_, e71, ?_, b5, b6, fun z u hz => b7 z u hz⟩, fun z => absurd ⟨rfl, q⟩ z⟩
      · exact ⟨rfl, hr4.2.1, hr4.2.2.1, hL⟩
      · show s3 70 1 = _
        rw [a4 70 (by omega)]
        exact xu_s s 70 1 _
      · show s3 53 32 = _; rw [a2]; exact hD
      · exact ⟨by omega, Nat.lt_succ_self N, xu_s (ra s4 (t.2.1 + 1)) 85 w _, by rw [e71]⟩
      · exact rFn_trans (rFn_trans f04 (rFn_53 (Or.inl rfl) s4 _) (l _) (l _) (l _) (l _)) (f5 _ M D) (l _) (l _) (l _) (l _)
      · show s3 72 (40 + N) = _
        rw [a4 72 (by omega)]
        exact xu_s _ 72 (40 + N) _
    · rw [if_neg q, e228 (xh_ui s4 53 20 (Int32.ofNat (pT B L (i + 1)).2.1)) h404]
      refine ⟨_, rfl, fun z => absurd z.2 q, fun _ => ⟨rfl, ?_⟩⟩
      exact rFn_mono (rFn_trans (rFn_trans f04 (rFn_53 (Or.inr (Or.inl rfl)) s4 _) (l _) (l _) (l _) (l _)) (f5 _ M D) (l _) (l _) (l _) (l _)) (Nat.zero_le _) (Nat.zero_le _) (Nat.zero_le _) (Nat.zero_le _)
/-- a policy's nodes -/
theorem r_kd {B : Nat → Int32} {L w N0 : Nat} {o : Bool} {rec : Nat → Nat → xP} (hw5 : w < 5) (hq : ∀ N j, j ≤ L → pQ L N j (rec N j)) (hrec : ∀ N M D j s, rPre B L N M D (some N0) o (w + 1) j s → rSim B L N M D (w + 1) s (rec N j)) :
    ∀ (m N M D j : Nat) (s : xS), 41 ≤ N + m → rPre B L N M D (some N0) o (w + 1) j s →
      ((pkd B L rec m N j).1 = true → ∃ n mm s' e, (pkd B L rec m N j).2.1 = e + 1 ∧ nx B L e = 125 ∧ n ≤ (pkd B L rec m N j).2.2.length ∧ 995 + (w + 1) ≤ mm ∧ (∀ F, xlo oL (n + F) (1, s) = cC F mm s') ∧ rPost B L N M D (w + 1) (pkd B L rec m N j).2.2 e s s') ∧
      ((pkd B L rec m N j).1 = false → ∃ n s', n + N ≤ 44 ∧ (∀ F, xlo oL (n + F) (1, s) = g170_103 s') ∧ s' 53 20 = Int32.ofNat (pkd B L rec m N j).2.1 ∧ rFn 0 0 0 0 s s')
  | 0, N, M, D, j, s, h1, h => absurd h.2.2.2.2.2.2.2.2.1 (by omega)
  | m + 1, N, M, D, j, s, h1, h => by
    obtain ⟨hr, hi, hw, h70, hM, hD, h3, hDi, hN, h40, hw5', p1, p2, p3, p4⟩ := id h
    have hL := hr.2.2.2
    have l := Nat.le_refl
    have hS := hrec N M D j s h
    obtain ⟨q0, q1, q2⟩ := hq N j hi
    rw [pkd]
    generalize rec N j = r at *
    cases g : r.1 with
    | false =>
      obtain ⟨n, s', a1, a2, a3, a4⟩ := hS.2 g
      exact ⟨fun z => (by cases z), fun _ => ⟨n, s', a1, a2, a3, a4⟩⟩
    | true =>
      obtain ⟨n, mm, s', a1, a2, a3, a4⟩ := hS.1 g
      obtain ⟨q3, q4, q5, q6, q7, q8⟩ := q2 g
      have q8 := q8 M
      rw [cond_true]
      by_cases z : nx B L r.2.1 = 125
      · rw [if_pos z]
        exact ⟨fun _ => ⟨n, mm, s', r.2.1, rfl, z, a1, a2, a3, a4⟩, fun z => by cases z⟩
      · rw [if_neg z]
        obtain ⟨b1, b2, b3, b4, b5, b6, b7, b8⟩ := id a4
        have hpre : rPre B L (N + r.2.2.length) (M + tM r.2.2) (D + tDn M r.2.2) (some N0) o (w + 1) r.2.1 s' :=
          ⟨b1, q1, b2, b3, b4, b5, by omega, by omega, q5, b6, hw5', p1, by omega, by rw [b7.2.2.2.2.2.2 _ (by omega)]; exact p3, by rw [b7.2.2.2.1 71 (by decide) (by decide) _ (by omega)]; exact p4⟩
        obtain ⟨c1, c2⟩ := r_kd hw5 hq hrec m (N + r.2.2.length) (M + tM r.2.2) (D + tDn M r.2.2) r.2.1 s' (by omega) hpre
        obtain ⟨mm', rfl⟩ : ∃ mm', mm = mm' + 1 := ⟨mm - 1, by omega⟩
        have hnext : ∀ F, xlo oL (n + F) (1, s) = xlo oL F (1, s') := fun F => by rw [a3, cC_next b1 (by omega) b2 b6 (by omega) z]
        constructor
        · intro y
          obtain ⟨n', m', s'', e, d1, d2, d3, d4, d5, d6⟩ := c1 y
          obtain ⟨e1, e2, e3, e4, e5, e6, e7, e8⟩ := d6
          refine ⟨n + n', m', s'', e, d1, d2, ?_, d4, fun F => by rw [Nat.add_assoc, hnext, d5], ⟨e1, e2, ?_, ?_, ?_, e6, rFn_trans b7 e7 (by omega) (by omega) (by omega) (l _), rNs_app _ _ _ _ _ (rNs_fr e7 _ _ _ _ b8 (l _) (l _) (l _)) e8⟩⟩
          · show n + n' ≤ (r.2.2 ++ _).length
            rw [List.length_append]; omega
          · rw [e3]
            show _ = Int32.ofNat (N + (r.2.2 ++ _).length)
            rw [List.length_append, Nat.add_assoc]
          · rw [e4]
            show _ = Int32.ofNat (M + tM (r.2.2 ++ _))
            rw [tM_app, Nat.add_assoc]
          · rw [e5]
            show _ = Int32.ofNat (D + tDn M (r.2.2 ++ _))
            rw [tDn_app, Nat.add_assoc]
        · intro y
          obtain ⟨n', s'', d1, d2, d3, d4⟩ := c2 y
          exact ⟨n + n', s'', by omega, fun F => by rw [Nat.add_assoc, hnext, d2], d3, rFn_trans (rFn_mono b7 (Nat.zero_le _) (Nat.zero_le _) (Nat.zero_le _) (Nat.zero_le _)) d4 (l _) (l _) (l _) (l _)⟩
