/-! judging: conditions -/
def stk (r : Nat → Int32) : List Int32 → Prop
  | [] => True
  | x :: k => r k.length = x ∧ stk r k
theorem stk_upd {r : Nat → Int32} : ∀ (k : List Int32) {n : Nat} (v : Int32), k.length ≤ n → stk r k → stk (upd r n v) k
  | [], _, _, _, _ => trivial
  | x :: k, n, v, hn, h => by
    rw [List.length_cons] at hn
    exact ⟨by rw [upd_n (by omega)]; exact h.1, stk_upd k v (by omega) h.2⟩
/-- the class takes a step -/
theorem g124_eq {p S : Nat} {σ : xS} {t : xE} (hS : S < 300) (r8 : σ (59 - p + 8) S = t.1) (r9 : σ (59 - p + 9) S = t.2.1) (r10 : σ (59 - p + 10) S = t.2.2) {k k' : List Int32} (hk : k.length ≤ 7) (hs : stk (σ 50) k) (he : stC (mtc (σ 35)) t k = some k') :
    ∃ σ', g124 p (Int32.ofNat S) (Int32.ofNat k.length) σ = some (.inl (Int32.ofNat k'.length), σ') ∧ stk (σ' 50) k' ∧ k'.length ≤ 7 ∧ ∀ c, ¬ c = 50 → σ' c = σ c := by
  have hxS : xn (Int32.ofNat S) 300 = true := xn_of (by omega) hS
  have hcS : (Int32.ofNat S).toNatClampNeg = S := Int32.toNatClampNeg_ofNat_of_lt (by omega)
  unfold stC at he
  unfold g124
  rw [hxS, cond_true, hcS, r8]
  by_cases h1 : t.1 = 33
  · rw [if_pos h1] at he ⊢
    match k, hk, hs, he with
    | [], _, _, he => cases he
    | x :: k, hk, hs, he =>
      have he : some ((2 - x) :: k) = some k' := he
      cases he
      rw [List.length_cons] at hk ⊢
      have n1 : ¬ Int32.ofNat (k.length + 1) < 1 := by
        have z : (1 : Int32).toInt = 1 := by decide
        rw [Int32.lt_iff_toInt_lt, z, Int32.toInt_ofNat_of_lt (by omega)]; omega
      rw [if_neg n1, x_pred, xn_of (by omega) (by omega), cond_true, Int32.toNatClampNeg_ofNat_of_lt (by omega), hs.1]
      refine ⟨_, rfl, ⟨?_, ?_⟩, hk, fun c hc => xu_o hc⟩
      · rw [xu_a, upd_s]
      · rw [xu_a]; exact stk_upd k _ (Nat.le_refl _) hs.2
  · rw [if_neg h1] at he ⊢
    have e113 : ¬ t.1 = 38 → ¬ t.1 = 124 → ∃ σ', g124_113 p (Int32.ofNat S) (Int32.ofNat k.length) σ = some (.inl (Int32.ofNat k'.length), σ') ∧ stk (σ' 50) k' ∧ k'.length ≤ 7 ∧ ∀ c, ¬ c = 50 → σ' c = σ c := fun h2 h3 => by
      rw [if_neg h2, if_neg h3] at he
      by_cases h4 : k.length < 7
      · rw [if_pos h4] at he
        cases he
        have l7 : Int32.ofNat k.length < 7 := by
          have z : (7 : Int32).toInt = 7 := by decide
          rw [Int32.lt_iff_toInt_lt, z, Int32.toInt_ofNat_of_lt (by omega)]; omega
        refine ⟨xh_ui σ 50 k.length (mtc (σ 35) t), ?_, ⟨?_, ?_⟩, by rw [List.length_cons]; omega, fun c hc => xu_o hc⟩
        · simp only [g124_113, if_pos l7, g120, hxS, cond_true, hcS, r8, r9, r10, g121_eq, xn_of (by omega : k.length < 2 ^ 31) h4, Int32.toNatClampNeg_ofNat_of_lt (by omega : k.length < 2 ^ 31), x_succ, List.length_cons]
        · rw [xu_a, upd_s]
        · rw [xu_a]; exact stk_upd k _ (Nat.le_refl _) hs
      · rw [if_neg h4] at he; cases he
    unfold g124_41
    by_cases h2 : t.1 = 38
    · rw [if_pos h2] at he ⊢
      match k, hk, hs, he with
      | [], _, _, he => cases he
      | [_], _, _, he => cases he
      | y :: x :: k, hk, hs, he =>
        have he : some (mn x y :: k) = some k' := he
        cases he
        rw [List.length_cons, List.length_cons] at hk ⊢
        have n2 : ¬ Int32.ofNat (k.length + 1 + 1) < 2 := by
          have z : (2 : Int32).toInt = 2 := by decide
          rw [Int32.lt_iff_toInt_lt, z, Int32.toInt_ofNat_of_lt (by omega)]; omega
        have e2 : Int32.ofNat (k.length + 1 + 1) - 2 = Int32.ofNat k.length := by
          rw [Nat.add_assoc, Int32.ofNat_add]; exact Int32.add_sub_cancel _ _
        obtain ⟨s1, s2, s3⟩ := hs
        have s1 : σ 50 (k.length + 1) = y := s1
        unfold g124_53
        rw [if_neg n2, e2, x_pred, xn_of (by omega) (by omega), cond_true, xn_of (by omega) (by omega), cond_true, if_pos h2, Int32.toNatClampNeg_ofNat_of_lt (by omega), Int32.toNatClampNeg_ofNat_of_lt (by omega), s1, s2, g119_eq]
        dsimp only
        unfold g124_108
        rw [xn_of (by omega) (by omega), cond_true, Int32.toNatClampNeg_ofNat_of_lt (by omega), x_pred]
        refine ⟨_, rfl, ⟨?_, ?_⟩, by rw [List.length_cons]; omega, fun c hc => xu_o hc⟩
        · rw [xu_a, upd_s]
        · rw [xu_a]; exact stk_upd k _ (Nat.le_refl _) s3
    · rw [if_neg h2] at he ⊢
      by_cases h3 : t.1 = 124
      · rw [if_pos h3] at he ⊢
        match k, hk, hs, he with
        | [], _, _, he => cases he
        | [_], _, _, he => cases he
        | y :: x :: k, hk, hs, he =>
          have he : some (mx x y :: k) = some k' := he
          cases he
          rw [List.length_cons, List.length_cons] at hk ⊢
          have n2 : ¬ Int32.ofNat (k.length + 1 + 1) < 2 := by
            have z : (2 : Int32).toInt = 2 := by decide
            rw [Int32.lt_iff_toInt_lt, z, Int32.toInt_ofNat_of_lt (by omega)]; omega
          have e2 : Int32.ofNat (k.length + 1 + 1) - 2 = Int32.ofNat k.length := by
            rw [Nat.add_assoc, Int32.ofNat_add]; exact Int32.add_sub_cancel _ _
          obtain ⟨s1, s2, s3⟩ := hs
          have s1 : σ 50 (k.length + 1) = y := s1
          unfold g124_53
          rw [if_neg n2, e2, x_pred, xn_of (by omega) (by omega), cond_true, xn_of (by omega) (by omega), cond_true, if_neg h2, Int32.toNatClampNeg_ofNat_of_lt (by omega), Int32.toNatClampNeg_ofNat_of_lt (by omega), s1, s2, g17_eq]
          dsimp only
          unfold g124_108
          rw [xn_of (by omega) (by omega), cond_true, Int32.toNatClampNeg_ofNat_of_lt (by omega), x_pred]
          refine ⟨_, rfl, ⟨?_, ?_⟩, by rw [List.length_cons]; omega, fun c hc => xu_o hc⟩
          · rw [xu_a, upd_s]
          · rw [xu_a]; exact stk_upd k _ (Nat.le_refl _) s3
      · rw [if_neg h3] at he ⊢
        have he' : (if t.1 = 38 then (match k with | y :: x :: k => some (mn x y :: k) | _ => none) else if t.1 = 124 then (match k with | y :: x :: k => some (mx x y :: k) | _ => none) else if k.length < 7 then some (mtc (σ 35) t :: k) else none) = some k' := by rw [if_neg h2, if_neg h3]; exact he
        by_cases h4 : k.length < 7
        · rw [if_pos h4] at he
          cases he
          have l7 : Int32.ofNat k.length < 7 := by
            have z : (7 : Int32).toInt = 7 := by decide
            rw [Int32.lt_iff_toInt_lt, z, Int32.toInt_ofNat_of_lt (by omega)]; omega
          refine ⟨xh_ui σ 50 k.length (mtc (σ 35) t), ?_, ⟨?_, ?_⟩, by rw [List.length_cons]; omega, fun c hc => xu_o hc⟩
          · simp only [g124_113, if_pos l7, g120, hxS, cond_true, hcS, r8, r9, r10, g121_eq, xn_of (by omega : k.length < 2 ^ 31) h4, Int32.toNatClampNeg_ofNat_of_lt (by omega : k.length < 2 ^ 31), x_succ, List.length_cons]
          · rw [xu_a, upd_s]
          · rw [xu_a]; exact stk_upd k _ (Nat.le_refl _) hs
        · rw [if_neg h4] at he; cases he
/-- the class's loop over a condition -/
theorem g123_lp {p n E : Nat} (hn : n < 40) (hE : E ≤ 300) : ∀ (T : List xE) (S : Nat) (k kf : List Int32) (f : Nat) (σ : xS), S + T.length = E → T.length < f → σ (59 - p + 7) n = Int32.ofNat E → (∀ q t, T[q]? = some t → σ (59 - p + 8) (S + q) = t.1 ∧ σ (59 - p + 9) (S + q) = t.2.1 ∧ σ (59 - p + 10) (S + q) = t.2.2) → k.length ≤ 7 → stk (σ 50) k → evC (mtc (σ 35)) T k = some kf → p = 23 ∨ p = 36 →
    ∃ σ', xlo (fun a : Int32 × Int32 × Int32 × xS => g123_12b p a.1 a.2.1 a.2.2.1 a.2.2.2) f (Int32.ofNat n, Int32.ofNat k.length, Int32.ofNat S, σ) = some (.inl (if kf.length = 0 then 2 else σ' 50 0), σ') ∧ stk (σ' 50) kf ∧ ∀ c, ¬ c = 50 → σ' c = σ c
  | _, _, _, _, 0, _, _, h, _, _, _, _, _, _ => absurd h (Nat.not_lt_zero _)
  | [], S, k, kf, f + 1, σ, hS, _, h7, _, hk, hs, he, hp => by
    have hS : S = E := hS
    have he : some k = some kf := he
    cases he
    refine ⟨σ, xlo_end ?_, hs, fun _ _ => rfl⟩
    dsimp only
    unfold g123_12b
    rw [xn_of (by omega) hn, cond_true, Int32.toNatClampNeg_ofNat_of_lt (by omega), h7, hS, if_pos (Int32.le_refl _)]
    by_cases q : k.length = 0
    · rw [if_pos (by rw [q]; rfl), if_pos q]
    · rw [if_neg (show ¬ Int32.ofNat k.length = 0 from fun z => q (x_inj (n := 0) (by omega) (by omega) z)), if_neg q]
  | t :: T, S, k, kf, f + 1, σ, hS, hf, h7, hc, hk, hs, he, hp => by
    rw [List.length_cons] at hS hf
    rw [evC] at he
    cases hst : stC (mtc (σ 35)) t k with
    | none => rw [hst] at he; cases he
    | some k1 =>
      rw [hst] at he
      have he : evC (mtc (σ 35)) T k1 = some kf := he
      obtain ⟨r8, r9, r10⟩ := hc 0 t rfl
      obtain ⟨σ1, a1, a2, a3, a4⟩ := g124_eq (p := p) (S := S) (by omega) r8 r9 r10 hk hs hst
      have nle : ¬ Int32.ofNat E ≤ Int32.ofNat S := by rw [x_le1000 (by omega) (by omega)]; omega
      have step : g123_12b p (Int32.ofNat n) (Int32.ofNat k.length) (Int32.ofNat S) σ = some (.inl (Int32.ofNat n, Int32.ofNat k1.length, Int32.ofNat (S + 1), σ1)) := by
        unfold g123_12b
        rw [xn_of (by omega) hn, cond_true, Int32.toNatClampNeg_ofNat_of_lt (by omega), h7, if_neg nle, a1]
        dsimp only
        rw [x_succ]
      obtain ⟨σ2, b1, b2, b3⟩ := g123_lp hn hE T (S + 1) k1 kf f σ1 (by omega) (by omega) (by rw [a4 _ (by omega)]; exact h7) (fun q u hq => by
        rw [show S + 1 + q = S + (q + 1) by omega, a4 _ (by omega), a4 _ (by omega), a4 _ (by omega)]
        exact hc (q + 1) u hq) a3 a2 (by rw [a4 35 (by decide)]; exact he) hp
      exact ⟨σ2, by rw [xlo_step (a := (Int32.ofNat n, Int32.ofNat k.length, Int32.ofNat S, σ)) step, b1], b2, fun c hc => (b3 c hc).trans (a4 c hc)⟩
/-- the reference does one thing -/
theorem g200_st {n E D : Nat} {s : xS} (hn : n < 40) (hE : E ≤ 300) (hD : D < E) (h76 : s 76 n = Int32.ofNat E) {d : Int32} (h84 : s 84 D = d) {g : Int32 → Int32} (hg : ¬ d = 1000 → ¬ d = 1001 → ¬ d = 1002 → g196 d s = some (.inl (g d), s)) {k k' : List Int32} (hk : k.length < 300) (hs : stk (s 90) k) (he : stR g d k = some k') :
    ∃ s', g200_9b (Int32.ofNat n) (Int32.ofNat k.length) (Int32.ofNat D) s = some (.inl (Int32.ofNat n, Int32.ofNat k'.length, Int32.ofNat (D + 1), s')) ∧ stk (s' 90) k' ∧ k'.length ≤ k.length + 1 ∧ ∀ c, ¬ c = 90 → s' c = s c := by
  have hxD : xn (Int32.ofNat D) 600 = true := xn_of (by omega) (by omega)
  have hcD : (Int32.ofNat D).toNatClampNeg = D := Int32.toNatClampNeg_ofNat_of_lt (by omega)
  have nle : ¬ Int32.ofNat E ≤ Int32.ofNat D := by rw [x_le1000 (by omega) (by omega)]; omega
  have xk : xk1 = -1 := rfl
  unfold g200_9b
  rw [xn_of (by omega) (by omega), cond_true, Int32.toNatClampNeg_ofNat_of_lt (by omega), h76, if_neg nle, hxD, cond_true, hcD, h84]
  unfold stR at he
  by_cases h1 : d = 1001
  · rw [if_pos h1] at he ⊢
    match k, hk, hs, he with
    | [], _, _, he => cases he
    | [_], _, _, he => cases he
    | y :: x :: k, hk, hs, he =>
      have he : some (bo x y :: k) = some k' := he
      cases he
      rw [List.length_cons, List.length_cons] at hk ⊢
      obtain ⟨s1, s2, s3⟩ := hs
      have s1 : s 90 (k.length + 1) = y := s1
      unfold g200_43
      rw [if_pos h1, xk, x_pred', x_pred, xn_of (by omega) (by omega), cond_true, xn_of (by omega) (by omega), cond_true, Int32.toNatClampNeg_ofNat_of_lt (by omega), Int32.toNatClampNeg_ofNat_of_lt (by omega), s1, s2, g195_eq]
      dsimp only
      unfold g200_98 g200_162
      rw [xn_of (by omega) (by omega), cond_true, Int32.toNatClampNeg_ofNat_of_lt (by omega), x_succ]
      refine ⟨_, rfl, ⟨?_, ?_⟩, by rw [List.length_cons]; omega, fun c hc => xu_o hc⟩
      · rw [xu_a, upd_s]
      · rw [xu_a]; exact stk_upd k _ (Nat.le_refl _) s3
  rw [if_neg h1] at he ⊢
  by_cases h2 : d = 1002
  · rw [if_pos h2] at he ⊢
    match k, hk, hs, he with
    | [], _, _, he => cases he
    | [_], _, _, he => cases he
    | y :: x :: k, hk, hs, he =>
      have he : some (ei x y :: k) = some k' := he
      cases he
      rw [List.length_cons, List.length_cons] at hk ⊢
      obtain ⟨s1, s2, s3⟩ := hs
      have s1 : s 90 (k.length + 1) = y := s1
      unfold g200_43
      rw [if_neg h1, xk, x_pred', x_pred, xn_of (by omega) (by omega), cond_true, xn_of (by omega) (by omega), cond_true, Int32.toNatClampNeg_ofNat_of_lt (by omega), Int32.toNatClampNeg_ofNat_of_lt (by omega), s1, s2, g194_eq]
      dsimp only
      unfold g200_98 g200_162
      rw [xn_of (by omega) (by omega), cond_true, Int32.toNatClampNeg_ofNat_of_lt (by omega), x_succ]
      refine ⟨_, rfl, ⟨?_, ?_⟩, by rw [List.length_cons]; omega, fun c hc => xu_o hc⟩
      · rw [xu_a, upd_s]
      · rw [xu_a]; exact stk_upd k _ (Nat.le_refl _) s3
  rw [if_neg h2] at he ⊢
  by_cases h3 : d = 1000
  · rw [if_pos h3] at he ⊢
    match k, hk, hs, he with
    | [], _, _, he => cases he
    | x :: k, hk, hs, he =>
      have he : some ((if x = 2 then 2 else 1 - x) :: k) = some k' := he
      cases he
      rw [List.length_cons] at hk ⊢
      rw [x_pred, xn_of (by omega) (by omega), cond_true, Int32.toNatClampNeg_ofNat_of_lt (by omega), hs.1]
      have e143 : ∀ v, g200_143 (Int32.ofNat n) (Int32.ofNat (k.length + 1)) (Int32.ofNat D) (Int32.ofNat k.length) v s = some (.inl (Int32.ofNat n, Int32.ofNat (k.length + 1), Int32.ofNat (D + 1), xh_ui s 90 k.length v)) := fun v => by
        unfold g200_143 g200_162
        rw [xn_of (by omega) (by omega), cond_true, Int32.toNatClampNeg_ofNat_of_lt (by omega), x_succ]
      rw [e143, e143]
      by_cases q : x = 2
      · rw [if_pos q, if_pos q]
        refine ⟨_, rfl, ⟨?_, ?_⟩, by rw [List.length_cons]; omega, fun c hc => xu_o hc⟩
        · rw [xu_a, upd_s]
        · rw [xu_a]; exact stk_upd k _ (Nat.le_refl _) hs.2
      · rw [if_neg q, if_neg q]
        refine ⟨_, rfl, ⟨?_, ?_⟩, by rw [List.length_cons]; omega, fun c hc => xu_o hc⟩
        · rw [xu_a, upd_s]
        · rw [xu_a]; exact stk_upd k _ (Nat.le_refl _) hs.2
  rw [if_neg h3] at he ⊢
  cases he
  rw [hg h3 h1 h2]
  dsimp only
  unfold g200_162
  rw [xn_of (by omega) hk, cond_true, Int32.toNatClampNeg_ofNat_of_lt (by omega), x_succ, x_succ]
  refine ⟨_, rfl, ⟨?_, ?_⟩, by rw [List.length_cons]; exact Nat.le_refl _, fun c hc => xu_o hc⟩
  · rw [xu_a, upd_s]
  · rw [xu_a]; exact stk_upd k _ (Nat.le_refl _) hs
/-- the reference's loop over a condition -/
theorem g200_lp {n E D0 : Nat} (hn : n < 40) (hE : E ≤ 300) {g : Int32 → Int32} {s0 : xS} (hg : ∀ s : xS, (∀ c, ¬ c = 90 → s c = s0 c) → ∀ d, (∃ D, D0 ≤ D ∧ D < E ∧ s0 84 D = d) → ¬ d = 1000 → ¬ d = 1001 → ¬ d = 1002 → g196 d s = some (.inl (g d), s)) (h76 : s0 76 n = Int32.ofNat E) :
    ∀ (T : List Int32) (D : Nat) (k kf : List Int32) (f : Nat) (s : xS), D + T.length = E → D0 ≤ D → T.length < f → (∀ c, ¬ c = 90 → s c = s0 c) → (∀ q d, T[q]? = some d → s0 84 (D + q) = d) → k.length + T.length ≤ 300 → stk (s 90) k → evR g T k = some kf →
    ∃ s', xlo (fun a : Int32 × Int32 × Int32 × xS => g200_9b a.1 a.2.1 a.2.2.1 a.2.2.2) f (Int32.ofNat n, Int32.ofNat k.length, Int32.ofNat D, s) = some (.inl (if kf.length = 0 then 1 else s' 90 0), s') ∧ stk (s' 90) kf ∧ ∀ c, ¬ c = 90 → s' c = s0 c
  | _, _, _, _, 0, _, _, _, h, _, _, _, _, _ => absurd h (Nat.not_lt_zero _)
  | [], D, k, kf, f + 1, s, hD, _, _, hc, _, hk, hs, he => by
    have hD : D = E := hD
    have he : some k = some kf := he
    cases he
    have hk : k.length ≤ 300 := hk
    refine ⟨s, xlo_end ?_, hs, hc⟩
    dsimp only
    unfold g200_9b
    rw [xn_of (by omega) (by omega), cond_true, Int32.toNatClampNeg_ofNat_of_lt (by omega), hc 76 (by decide), h76, hD, if_pos (Int32.le_refl _)]
    by_cases q : k.length = 0
    · rw [if_pos (by rw [q]; rfl), if_pos q]
    · rw [if_neg (show ¬ Int32.ofNat k.length = 0 from fun z => q (x_inj (n := 0) (by omega) (by omega) z)), if_neg q]
  | d :: T, D, k, kf, f + 1, s, hD, h0, hf, hc, hT, hk, hs, he => by
    rw [List.length_cons] at hD hf hk
    rw [evR] at he
    cases hst : stR g d k with
    | none => rw [hst] at he; cases he
    | some k1 =>
      rw [hst] at he
      have he : evR g T k1 = some kf := he
      have h84 : s0 84 D = d := hT 0 d rfl
      obtain ⟨s1, a1, a2, a3, a4⟩ := g200_st (s := s) hn hE (by omega : D < E) (by rw [hc 76 (by decide)]; exact h76) (by rw [hc 84 (by decide)]; exact h84) (fun x y z => hg s hc d ⟨D, h0, by omega, h84⟩ x y z) (by omega) hs hst
      obtain ⟨s2, b1, b2, b3⟩ := g200_lp hn hE hg h76 T (D + 1) k1 kf f s1 (by omega) (by omega) (by omega) (fun c hc' => (a4 c hc').trans (hc c hc')) (fun q u hq => by
        rw [show D + 1 + q = D + (q + 1) by omega]
        exact hT (q + 1) u hq) (by omega) a2 he
      exact ⟨s2, by rw [xlo_step (a := (Int32.ofNat n, Int32.ofNat k.length, Int32.ofNat D, s)) a1, b1], b2, b3⟩
