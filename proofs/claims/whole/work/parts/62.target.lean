/-! judging: targets -/
abbrev x3 : Type := Int32 × Int32 × Int32
def stT (f : xE → Int32) (st : x3) (t : xE) : x3 := if t.1 = 38 then (mn st.1 (mx st.2.1 st.2.2), 0, 2) else if t.1 = 44 then st else if t.1 = 93 then (mn st.1 (mx st.2.1 st.2.2), 0, 2) else if t.1 = 124 then (st.1, mx st.2.1 st.2.2, 2) else (st.1, st.2.1, mn st.2.2 (f t))
def stU (g : xE → Int32) (fs : Bool) (st : x3) (m : xG) : x3 :=
  let a1 := if m.2.1 = 0 then st.2.1 else bif fs then st.2.1 else ei st.2.1 st.2.2
  (if m.2.2 = 0 then st.1 else bif fs then st.1 else bo st.1 a1, if m.2.2 = 0 then a1 else bif fs then a1 else 0, if m.2.1 = 0 then bo st.2.2 (g m.1) else g m.1)
def fU (g : xE → Int32) : Bool → x3 → List xG → x3
  | _, st, [] => st
  | fs, st, m :: Ms => fU g false (stU g fs st m) Ms
def phi3 (st : x3) : x3 := (phi st.1, phi st.2.1, phi st.2.2)
theorem att_no2 {x : Int32} (h : att x = true) : ¬ x = 38 ∧ ¬ x = 44 ∧ ¬ x = 93 ∧ ¬ x = 124 := by
  refine ⟨fun q => ?_, fun q => ?_, fun q => ?_, fun q => ?_⟩ <;> (subst q; revert h; decide)
theorem stT_m {f : xE → Int32} {t : xE} (h : att t.1 = true) (st : x3) : stT f st t = (st.1, st.2.1, mn st.2.2 (f t)) := by
  obtain ⟨h1, h2, h3, h4⟩ := att_no2 h
  unfold stT
  rw [if_neg h1, if_neg h2, if_neg h3, if_neg h4]
theorem mn_2 {x : Int32} (h : v3 x) : mn 2 x = x := by rcases h with rfl | rfl | rfl <;> decide
def vv (st : x3) : Prop := v3 st.1 ∧ v3 st.2.1 ∧ v3 st.2.2
/-- a match behind the sign c -/
theorem stU_c {f : xE → Int32} (hf : ∀ t, v3 (f t)) {c : Int32} (hc : sep c = true) {m : xG} (hm : m.2 = flg c) (ha : att m.1.1 = true) {st : x3} (hs : vv st) : stU (fun t => phi (f t)) false (phi3 st) m = phi3 (stT f (stT f st (c, 0, 0)) m.1) ∧ vv (stT f (stT f st (c, 0, 0)) m.1) := by
  obtain ⟨h1, h2, h3⟩ := hs
  obtain ⟨a1, a2⟩ := v3_mx h2 h3
  obtain ⟨b1, b2⟩ := v3_mn h1 a1
  obtain ⟨c1, c2⟩ := v3_mn h3 (hf m.1)
  have hc := of_decide_eq_true hc
  rw [stT_m ha]
  unfold stU
  rw [hm]
  rcases hc with rfl | rfl | rfl
  · have e : stT f st (44, 0, 0) = st := rfl
    rw [e]
    refine ⟨?_, h1, h2, c1⟩
    show (phi st.1, phi st.2.1, bo (phi st.2.2) (phi (f m.1))) = _
    rw [← c2]; rfl
  · have e : stT f st (124, 0, 0) = (st.1, mx st.2.1 st.2.2, 2) := rfl
    rw [e]
    refine ⟨?_, h1, a1, ?_⟩
    · show (phi st.1, ei (phi st.2.1) (phi st.2.2), phi (f m.1)) = (phi st.1, phi (mx st.2.1 st.2.2), phi (mn 2 (f m.1)))
      rw [mn_2 (hf m.1), a2]
    · show v3 (mn 2 (f m.1)); rw [mn_2 (hf m.1)]; exact hf m.1
  · have e : stT f st (38, 0, 0) = (mn st.1 (mx st.2.1 st.2.2), 0, 2) := rfl
    rw [e]
    refine ⟨?_, b1, v3_0, ?_⟩
    · show (bo (phi st.1) (ei (phi st.2.1) (phi st.2.2)), 0, phi (f m.1)) = (phi (mn st.1 (mx st.2.1 st.2.2)), phi 0, phi (mn 2 (f m.1)))
      rw [mn_2 (hf m.1), b2, a2]; rfl
    · show v3 (mn 2 (f m.1)); rw [mn_2 (hf m.1)]; exact hf m.1
theorem tg_go {f : xE → Int32} (hf : ∀ t, v3 (f t)) : ∀ (Ms : List xG) (R : List xE) (st : x3), vv st → ((Ms = [] ∧ R = [(93, 0, 0)]) ∨ ∃ e T', sep e = true ∧ R = (e, 0, 0) :: T' ∧ gT e Ms T') →
    v3 (R.foldl (stT f) st).1 ∧ bo (fU (fun t => phi (f t)) false (phi3 st) Ms).1 (ei (fU (fun t => phi (f t)) false (phi3 st) Ms).2.1 (fU (fun t => phi (f t)) false (phi3 st) Ms).2.2) = phi (R.foldl (stT f) st).1
  | [], R, st, hs, h => by
    obtain ⟨h1, h2, h3⟩ := hs
    obtain ⟨a1, a2⟩ := v3_mx h2 h3
    obtain ⟨b1, b2⟩ := v3_mn h1 a1
    rcases h with ⟨-, rfl⟩ | ⟨e, T', -, -, hT⟩
    · refine ⟨b1, ?_⟩
      show bo (phi st.1) (ei (phi st.2.1) (phi st.2.2)) = phi (mn st.1 (mx st.2.1 st.2.2))
      rw [b2, a2]
    · exact hT.elim
  | m :: Ms, R, st, hs, h => by
    rcases h with ⟨h, -⟩ | ⟨e, T', he, rfl, hT⟩
    · cases h
    · obtain ⟨t1, t2, t3⟩ := hT
      obtain ⟨u1, u2⟩ := stU_c hf he t1 t2.1 hs
      rw [fU, u1]
      rcases t3 with ⟨rfl, rfl⟩ | ⟨e', T'', s1, rfl, s3⟩
      · exact tg_go hf [] [(93, 0, 0)] _ u2 (Or.inl ⟨rfl, rfl⟩)
      · exact tg_go hf Ms ((e', 0, 0) :: T'') _ u2 (Or.inr ⟨e', T'', s1, rfl, s3⟩)
/-- both come to the same of a target -/
theorem tg_eq {f : xE → Int32} (hf : ∀ t, v3 (f t)) {Ms : List xG} {T : List xE} (h : gT 91 Ms T) : v3 (T.foldl (stT f) (2, 0, 2)).1 ∧ bo (fU (fun t => phi (f t)) true (1, 0, 1) Ms).1 (ei (fU (fun t => phi (f t)) true (1, 0, 1) Ms).2.1 (fU (fun t => phi (f t)) true (1, 0, 1) Ms).2.2) = phi (T.foldl (stT f) (2, 0, 2)).1 := by
  cases Ms with
  | nil => exact h.elim
  | cons m Ms =>
    obtain ⟨t1, t2, t3⟩ := h
    have e0 : stU (fun t => phi (f t)) true (1, 0, 1) m = phi3 (2, 0, f m.1) := by
      unfold stU
      rw [t1]
      rfl
    have e1 : stT f (2, 0, 2) m.1 = (2, 0, f m.1) := by rw [stT_m t2.1]; show (_, _, mn 2 (f m.1)) = _; rw [mn_2 (hf m.1)]
    rw [fU, e0]
    rcases t3 with ⟨rfl, rfl⟩ | ⟨e', T'', s1, rfl, s3⟩
    · have := tg_go hf [] [(93, 0, 0)] (2, 0, f m.1) ⟨v3_2, v3_0, hf m.1⟩ (Or.inl ⟨rfl, rfl⟩)
      rw [List.foldl_cons, e1]; exact this
    · have := tg_go hf Ms ((e', 0, 0) :: T'') (2, 0, f m.1) ⟨v3_2, v3_0, hf m.1⟩ (Or.inr ⟨e', T'', s1, rfl, s3⟩)
      rw [List.foldl_cons, e1]; exact this
/-- the class's loop over a target -/
theorem g118_lp {p n E : Nat} {σ : xS} (hn : n < 40) (hE : E ≤ 300) (h6 : σ (59 - p + 6) n = Int32.ofNat E) : ∀ (T : List xE) (S : Nat) (st : x3) (f : Nat), S + T.length = E → T.length < f → (∀ q t, T[q]? = some t → σ (59 - p + 8) (S + q) = t.1 ∧ σ (59 - p + 9) (S + q) = t.2.1 ∧ σ (59 - p + 10) (S + q) = t.2.2) →
    xlo (fun a : Int32 × Int32 × Int32 × Int32 × Int32 × xS => g118_18b p a.1 a.2.1 a.2.2.1 a.2.2.2.1 a.2.2.2.2.1 a.2.2.2.2.2) f (Int32.ofNat n, st.1, st.2.1, st.2.2, Int32.ofNat S, σ) = some (.inl (T.foldl (stT (mtc (σ 35))) st).1, σ)
  | _, _, _, 0, _, h, _ => absurd h (Nat.not_lt_zero _)
  | [], S, st, f + 1, hS, _, _ => by
    have hS : S = E := hS
    have hxn : xn (Int32.ofNat n) 40 = true := xn_of (by omega) hn
    have hcn : (Int32.ofNat n).toNatClampNeg = n := Int32.toNatClampNeg_ofNat_of_lt (by omega)
    refine xlo_end ?_
    dsimp only
    unfold g118_18b
    rw [hxn, cond_true, hcn, h6, hS, if_pos (Int32.le_refl _)]
    rfl
  | t :: T, S, st, f + 1, hS, hf, hc => by
    rw [List.length_cons] at hS hf
    have hxn : xn (Int32.ofNat n) 40 = true := xn_of (by omega) hn
    have hcn : (Int32.ofNat n).toNatClampNeg = n := Int32.toNatClampNeg_ofNat_of_lt (by omega)
    have hxS : xn (Int32.ofNat S) 300 = true := xn_of (by omega) (by omega)
    have hcS : (Int32.ofNat S).toNatClampNeg = S := Int32.toNatClampNeg_ofNat_of_lt (by omega)
    have nle : ¬ Int32.ofNat E ≤ Int32.ofNat S := by rw [x_le1000 (by omega) (by omega)]; omega
    obtain ⟨r8, r9, r10⟩ := hc 0 t rfl
    have r8 : σ (59 - p + 8) S = t.1 := r8
    have r9 : σ (59 - p + 9) S = t.2.1 := r9
    have r10 : σ (59 - p + 10) S = t.2.2 := r10
    have step : g118_18b p (Int32.ofNat n) st.1 st.2.1 st.2.2 (Int32.ofNat S) σ = some (.inl (Int32.ofNat n, (stT (mtc (σ 35)) st t).1, (stT (mtc (σ 35)) st t).2.1, (stT (mtc (σ 35)) st t).2.2, Int32.ofNat (S + 1), σ)) := by
      unfold g118_18b stT
      rw [hxn, cond_true, hcn, h6, if_neg nle, hxS, cond_true, hcS, r8]
      by_cases h1 : t.1 = 38
      · rw [if_pos h1, if_pos h1]; simp only [g17_eq, g119_eq, g118_132, x_succ]
      rw [if_neg h1, if_neg h1]
      by_cases h2 : t.1 = 44
      · rw [if_pos h2, if_pos h2]; simp only [g118_132, x_succ]
      rw [if_neg h2, if_neg h2]
      by_cases h3 : t.1 = 93
      · rw [if_pos h3, if_pos h3]; simp only [g17_eq, g119_eq, g118_132, x_succ]
      rw [if_neg h3, if_neg h3]
      by_cases h4 : t.1 = 124
      · rw [if_pos h4, if_pos h4]; simp only [g17_eq, g118_132, x_succ]
      rw [if_neg h4, if_neg h4]
      simp only [g120, hxS, cond_true, hcS, r8, r9, r10, g121_eq, g119_eq, g118_132, x_succ]
    rw [xlo_step (a := (Int32.ofNat n, st.1, st.2.1, st.2.2, Int32.ofNat S, σ)) step, g118_lp hn hE h6 T (S + 1) (stT (mtc (σ 35)) st t) f (by omega) (by omega) (fun q u hq => by
      rw [show S + 1 + q = S + (q + 1) by omega]
      exact hc (q + 1) u hq), List.foldl_cons]
theorem g118_eq {p n S : Nat} {σ : xS} (hn : n < 40) {T : List xE} (hE : S + T.length ≤ 300) (h5 : σ (59 - p + 5) n = Int32.ofNat S) (h6 : σ (59 - p + 6) n = Int32.ofNat (S + T.length)) (hc : ∀ q t, T[q]? = some t → σ (59 - p + 8) (S + q) = t.1 ∧ σ (59 - p + 9) (S + q) = t.2.1 ∧ σ (59 - p + 10) (S + q) = t.2.2) : g118 p (Int32.ofNat n) σ = some (.inl (T.foldl (stT (mtc (σ 35))) (2, 0, 2)).1, σ) := by
  unfold g118 g118_18
  rw [xn_of (by omega) hn, cond_true, Int32.toNatClampNeg_ofNat_of_lt (by omega), h5]
  exact g118_lp hn hE h6 T S (2, 0, 2) 1000 rfl (by omega) hc
/-- the reference's loop over a target -/
theorem g193_lp {n E M0 : Nat} {s : xS} {F : Nat → Int32} (hF : wFa s F) (hn : n < 40) (hE : E ≤ 100) (h73 : s 73 n = Int32.ofNat M0) (h74 : s 74 n = Int32.ofNat E) : ∀ (Ms : List xG) (M : Nat) (st : x3) (f : Nat), M + Ms.length = E → M0 ≤ M → Ms.length < f → (∀ q t, Ms[q]? = some t → att3 t.1 ∧ s 79 (M + q) = t.1.1 ∧ s 80 (M + q) = t.1.2.1 ∧ s 81 (M + q) = t.1.2.2 ∧ s 82 (M + q) = t.2.1 ∧ s 83 (M + q) = t.2.2) →
    xlo (fun a : Int32 × Int32 × Int32 × Int32 × Int32 × xS => g193_15b a.1 a.2.1 a.2.2.1 a.2.2.2.1 a.2.2.2.2.1 a.2.2.2.2.2) f (Int32.ofNat n, st.1, st.2.1, st.2.2, Int32.ofNat M, s) = some (.inl (if M0 = E then 1 else bo (fU (fun t => phi (mtc F t)) (decide (M = M0)) st Ms).1 (ei (fU (fun t => phi (mtc F t)) (decide (M = M0)) st Ms).2.1 (fU (fun t => phi (mtc F t)) (decide (M = M0)) st Ms).2.2)), s)
  | _, _, _, 0, _, _, h, _ => absurd h (Nat.not_lt_zero _)
  | [], M, st, f + 1, hM, _, _, _ => by
    have hM : M = E := hM
    have hxn : xn (Int32.ofNat n) 80 = true := xn_of (by omega) (by omega)
    have hcn : (Int32.ofNat n).toNatClampNeg = n := Int32.toNatClampNeg_ofNat_of_lt (by omega)
    refine xlo_end ?_
    dsimp only
    unfold g193_15b
    rw [hxn, cond_true, hcn, h73, h74, hM, if_pos (Int32.le_refl _)]
    by_cases q : M0 = E
    · rw [if_pos (by rw [q]), if_pos q]
    · rw [if_neg (fun z => q (x_inj (by omega) (by omega) z)), if_neg q]
      simp only [g194_eq, g195_eq]
      rfl
  | t :: Ms, M, st, f + 1, hM, h0, hf, hc => by
    rw [List.length_cons] at hM hf
    have hxn : xn (Int32.ofNat n) 80 = true := xn_of (by omega) (by omega)
    have hcn : (Int32.ofNat n).toNatClampNeg = n := Int32.toNatClampNeg_ofNat_of_lt (by omega)
    have hxM : xn (Int32.ofNat M) 200 = true := xn_of (by omega) (by omega)
    have hcM : (Int32.ofNat M).toNatClampNeg = M := Int32.toNatClampNeg_ofNat_of_lt (by omega)
    have nle : ¬ Int32.ofNat E ≤ Int32.ofNat M := by rw [x_le1000 (by omega) (by omega)]; omega
    obtain ⟨ha, r79, r80, r81, r82, r83⟩ := hc 0 t rfl
    rw [Nat.add_zero] at r79 r80 r81 r82 r83
    have e196 := g196_eq hF (by omega : M < 200) ha r79 r80 r81
    have step : g193_15b (Int32.ofNat n) st.1 st.2.1 st.2.2 (Int32.ofNat M) s = some (.inl (Int32.ofNat n, (stU (fun t => phi (mtc F t)) (decide (M = M0)) st t).1, (stU (fun t => phi (mtc F t)) (decide (M = M0)) st t).2.1, (stU (fun t => phi (mtc F t)) (decide (M = M0)) st t).2.2, Int32.ofNat (M + 1), s)) := by
      have e83 : ∀ w a l, g193_83 (Int32.ofNat n) w a l (Int32.ofNat M) s = some (.inl (Int32.ofNat n, w, a, (if t.2.1 = 0 then bo l (phi (mtc F t.1)) else phi (mtc F t.1)), Int32.ofNat (M + 1), s)) := fun w a l => by
        unfold g193_83
        rw [hxM, cond_true, hcM, r82, e196]
        by_cases q : t.2.1 = 0
        · rw [if_pos q, if_pos q]; simp only [g195_eq, g193_113, x_succ]
        · rw [if_neg q, if_neg q]; simp only [g193_113, x_succ]
      have le : Int32.ofNat M ≤ Int32.ofNat M0 ↔ M = M0 := by rw [x_le1000 (by omega) (by omega)]; omega
      have e54 : ∀ w a l, g193_54 (Int32.ofNat n) w a l (Int32.ofNat M) s = g193_83 (Int32.ofNat n) (if t.2.2 = 0 then w else bif decide (M = M0) then w else bo w a) (if t.2.2 = 0 then a else bif decide (M = M0) then a else 0) l (Int32.ofNat M) s := fun w a l => by
        unfold g193_54
        rw [hxM, cond_true, hcM, r83]
        by_cases q : t.2.2 = 0
        · rw [if_pos q, if_pos q, if_pos q]
        · rw [if_neg q, if_neg q, if_neg q, hxn, cond_true, hcn, h73]
          by_cases y : M = M0
          · rw [if_pos (le.mpr y), decide_eq_true y]; rfl
          · rw [if_neg (fun z => y (le.mp z)), decide_eq_false y]; simp only [g195_eq]; rfl
      have e15 : g193_15b (Int32.ofNat n) st.1 st.2.1 st.2.2 (Int32.ofNat M) s = g193_54 (Int32.ofNat n) st.1 (if t.2.1 = 0 then st.2.1 else bif decide (M = M0) then st.2.1 else ei st.2.1 st.2.2) st.2.2 (Int32.ofNat M) s := by
        unfold g193_15b
        rw [hxn, cond_true, hcn, h74, if_neg nle, hxM, cond_true, hcM, r82]
        by_cases q : t.2.1 = 0
        · rw [if_pos q, if_pos q]
        · rw [if_neg q, if_neg q, h73]
          by_cases y : M = M0
          · rw [if_pos (le.mpr y), decide_eq_true y]; rfl
          · rw [if_neg (fun z => y (le.mp z)), decide_eq_false y]; simp only [g194_eq]; rfl
      rw [e15, e54, e83]
      rfl
    rw [xlo_step (a := (Int32.ofNat n, st.1, st.2.1, st.2.2, Int32.ofNat M, s)) step, g193_lp hF hn hE h73 h74 Ms (M + 1) (stU (fun t => phi (mtc F t)) (decide (M = M0)) st t) f (by omega) (by omega) (by omega) (fun q u hq => by
      rw [show M + 1 + q = M + (q + 1) by omega]
      exact hc (q + 1) u hq), decide_eq_false (show ¬ M + 1 = M0 by omega)]
    rfl
theorem g193_eq {n M : Nat} {s : xS} {F : Nat → Int32} (hF : wFa s F) (hn : n < 40) {Ms : List xG} (hE : M + Ms.length ≤ 100) (h73 : s 73 n = Int32.ofNat M) (h74 : s 74 n = Int32.ofNat (M + Ms.length)) (hc : ∀ q t, Ms[q]? = some t → att3 t.1 ∧ s 79 (M + q) = t.1.1 ∧ s 80 (M + q) = t.1.2.1 ∧ s 81 (M + q) = t.1.2.2 ∧ s 82 (M + q) = t.2.1 ∧ s 83 (M + q) = t.2.2) {T : List xE} (hT : (T = [] ∧ Ms = []) ∨ gT 91 Ms T) :
    v3 (T.foldl (stT (mtc F)) (2, 0, 2)).1 ∧ g193 (Int32.ofNat n) s = some (.inl (phi (T.foldl (stT (mtc F)) (2, 0, 2)).1), s) := by
  have e0 : g193 (Int32.ofNat n) s = some (.inl (if M = M + Ms.length then 1 else bo (fU (fun t => phi (mtc F t)) (decide (M = M)) (1, 0, 1) Ms).1 (ei (fU (fun t => phi (mtc F t)) (decide (M = M)) (1, 0, 1) Ms).2.1 (fU (fun t => phi (mtc F t)) (decide (M = M)) (1, 0, 1) Ms).2.2)), s) := by
    unfold g193 g193_15
    rw [xn_of (by omega) (by omega), cond_true, Int32.toNatClampNeg_ofNat_of_lt (by omega), h73]
    exact g193_lp hF hn hE h73 h74 Ms M (1, 0, 1) 1000 rfl (Nat.le_refl _) (by omega) hc
  rcases hT with ⟨rfl, rfl⟩ | hT
  · refine ⟨v3_2, ?_⟩
    rw [e0, if_pos (show M = M + ([] : List xG).length from rfl)]
    rfl
  · obtain ⟨a, b⟩ := tg_eq (v3_mtc F) hT
    refine ⟨a, ?_⟩
    have hne : ¬ M = M + Ms.length := by
      cases Ms with
      | nil => exact hT.elim
      | cons m Ms => rw [List.length_cons]; omega
    rw [e0, if_neg hne, decide_eq_true rfl, b]
theorem gT_all : ∀ (Ms : List xG) (c : Int32) (T : List xE), gT c Ms T → ∀ (q : Nat) (t : xG), Ms[q]? = some t → att3 t.1 ∧ vp_nar .boolean t.2.1 = t.2.1 ∧ vp_nar .boolean t.2.2 = t.2.2
  | [], _, _, h, _, _, _ => h.elim
  | m :: Ms, c, T, h, q, t, hq => by
    obtain ⟨h1, h2, h3⟩ := h
    cases q with
    | zero =>
      cases hq
      rw [h1]
      exact ⟨h2, (flg_b c).1, (flg_b c).2⟩
    | succ q =>
      rcases h3 with ⟨rfl, -⟩ | ⟨e, T', -, -, hT⟩
      · cases hq
      · exact gT_all Ms e T' hT q t hq
