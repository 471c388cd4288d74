/-! judging: all nodes, from the last to the first -/
theorem cNs_get {p : Nat} {σ : xS} : ∀ (rs : List xN) (N S q : Nat) (r : xN), cNs p N S rs σ → rs[q]? = some r → ∃ S', cN1 p (N + q) S' r σ ∧ S' + stp r ≤ S + tS rs
  | [], _, _, _, _, _, hq => by cases hq
  | r0 :: rs, N, S, 0, r, h, hq => by
    cases hq
    exact ⟨S, h.1, by rw [tS]; omega⟩
  | r0 :: rs, N, S, q + 1, r, h, hq => by
    obtain ⟨S', a, b⟩ := cNs_get rs (N + 1) (S + stp r0) q r h.2 hq
    exact ⟨S', by rw [show N + (q + 1) = N + 1 + q by omega]; exact a, by rw [tS]; omega⟩
theorem jNs_get {s : xS} : ∀ (rs : List xN) (N M D q : Nat) (r : xN), jNs N M D rs s → rs[q]? = some r → ∃ M' D', jN1 (N + q) M' D' r s ∧ M' + mtp r ≤ M + tM rs ∧ D' + dtp M' r ≤ D + tDn M rs
  | [], _, _, _, _, _, _, hq => by cases hq
  | r0 :: rs, N, M, D, 0, r, h, hq => by
    cases hq
    exact ⟨M, D, h.1, by rw [tM]; omega, by rw [tDn]; omega⟩
  | r0 :: rs, N, M, D, q + 1, r, h, hq => by
    obtain ⟨M', D', a, b, c⟩ := jNs_get rs (N + 1) (M + mtp r0) (D + dtp M r0) q r h.2 hq
    exact ⟨M', D', by rw [show N + (q + 1) = N + 1 + q by omega]; exact a, by rw [tM]; omega, by rw [tDn]; omega⟩
theorem tM_get : ∀ (rs : List xN) (q : Nat) (r : xN), rs[q]? = some r → mtp r ≤ tM rs
  | [], _, _, hq => by cases hq
  | r0 :: rs, 0, r, hq => by cases hq; rw [tM]; omega
  | r0 :: rs, q + 1, r, hq => by
    have := tM_get rs q r hq
    rw [tM]; omega
def v6 (x : Int32) : Prop := ∃ v, v < 6 ∧ x = Int32.ofNat v
theorem v6_0 : v6 0 := ⟨0, by omega, rfl⟩
theorem v6_1 : v6 1 := ⟨1, by omega, rfl⟩
theorem v6_2 : v6 2 := ⟨2, by omega, rfl⟩
theorem v6_5 : v6 5 := ⟨5, by omega, rfl⟩
theorem v6_3 : v6 (1 + 2) := ⟨3, by omega, by decide⟩
theorem v6_4 : v6 (2 + 2) := ⟨4, by omega, by decide⟩
theorem v6_ovr {s : Int32 → Bool} {a b : Int32} (ha : v6 a) (hb : v6 b) (ha2 : v6 (a + 2)) (hb2 : v6 (b + 2)) : v6 (ovr s a b) := by
  unfold ovr
  cases s a
  · cases (s 5 || (s (a + 2) && (s b || s (b + 2))))
    · cases s (a + 2)
      · cases s b
        · cases s (b + 2)
          · exact v6_0
          · exact hb2
        · exact hb
      · exact ha2
    · exact v6_5
  · exact ha
theorem cV_6 {c : Int32} {P T V : Nat → Int32} {n N : Nat} (hV : ∀ k, n < k → k < N → v6 (V k)) : v6 (cV c P T V n N) := by
  unfold cV
  by_cases h1 : c = 68
  · rw [if_pos h1]; exact v6_ovr v6_2 v6_1 v6_4 v6_3
  · rw [if_neg h1]
    by_cases h2 : c = 70
    · rw [if_pos h2]
      cases e : fst1 P (fun k => !decide (V k = 0)) n N with
      | none => exact v6_0
      | some k => exact hV k (fst1_lt e).1 (fst1_lt e).2.1
    · rw [if_neg h2]
      by_cases h3 : c = 80
      · rw [if_pos h3]; exact v6_ovr v6_1 v6_2 v6_3 v6_4
      · rw [if_neg h3]
        by_cases h4 : c = 88
        · rw [if_pos h4]
          cases sm P V n N 1
          · exact v6_2
          · exact v6_1
        · rw [if_neg h4]
          by_cases h5 : c = 89
          · rw [if_pos h5]
            cases sm P V n N 2
            · exact v6_1
            · exact v6_2
          · rw [if_neg h5]
            match e : oo P T n (kl n N) none with
            | none => exact v6_5
            | some none => exact v6_0
            | some (some k) =>
              rcases oo_mem _ _ _ e with q | ⟨q, -⟩
              · cases q
              · exact hV k (kl_mem q).1 (kl_mem q).2
theorem nV_6 {t w : Int32} (hw : v6 w) : v6 (nV t w) := by
  unfold nV
  by_cases t0 : t = 0
  · rw [if_pos t0]; exact v6_0
  · rw [if_neg t0]
    by_cases q : (w = 1 ∨ w = 2) ∧ t = 1
    · rw [if_pos q]
      rcases q.1 with h | h
      · rw [h]; exact v6_3
      · rw [h]; exact v6_4
    · rw [if_neg q]; exact hw
theorem eff_12 (c : Int32) : eff c = 1 ∨ eff c = 2 := by
  unfold eff
  by_cases h : c = 112
  · rw [if_pos h]; exact Or.inl rfl
  · rw [if_neg h]; exact Or.inr rfl
theorem neq_6 {F : Nat → Int32} {r : xN} {P T V D : Nat → Int32} {n N : Nat} (h : neq F r P T V D n N) (hV : ∀ k, n < k → k < N → v6 (V k)) : v6 (V n) := by
  obtain ⟨-, -, -, a, b⟩ := h
  cases hi : isr r.1 with
  | true =>
    rw [(a hi).1]
    obtain ⟨v, h1, h2, -⟩ := rvl_v (t := T n) (c := cv F r) (eff_12 r.1)
    exact ⟨v, h1, h2⟩
  | false =>
    rw [(b hi).1]
    exact nV_6 (cV_6 hV)
theorem x_prd (n : Nat) : Int32.ofNat (n + 1) - 1 = Int32.ofNat n := by rw [← x_succ]; exact Int32.add_sub_cancel _ _
theorem x_m1 (n : Nat) : Int32.ofNat n + (-1) = Int32.ofNat n - 1 := (Int32.sub_eq_add_neg _ _).symm
/-- the class judges -/
theorem c_judge {p : Nat} {σ : xS} {rs : List xN} (hp : p = 23 ∨ p = 36) (hN : rs.length ≤ 40) (hS : tS rs ≤ 300) (hM : tM rs ≤ 100) (h7 : σ (59 - p) 7 = Int32.ofNat rs.length) (hc : cNs (59 - p) 0 0 rs σ) (hg : gLs 0 none rs) :
    ∃ σ', g117 p σ = some (.inl (if rs.length = 0 then 0 else σ' 48 0 + 10 * σ' 49 0), σ') ∧ (∀ n r, rs[n]? = some r → neq (σ 35) r (σ (59 - p + 2)) (σ' 47) (σ' 48) (σ' 49) n rs.length ∧ v6 (σ' 48 n)) ∧ ∀ c, ¬ c = 47 → ¬ c = 48 → ¬ c = 49 → ¬ c = 50 → σ' c = σ c := by
  have lp : ∀ (m f : Nat) (σc : xS), m ≤ rs.length → m < f → (∀ c, ¬ c = 47 → ¬ c = 48 → ¬ c = 49 → ¬ c = 50 → σc c = σ c) → (∀ n r, m ≤ n → rs[n]? = some r → neq (σ 35) r (σ (59 - p + 2)) (σc 47) (σc 48) (σc 49) n rs.length ∧ v6 (σc 48 n)) →
      ∃ σ', xlo (fun a : Int32 × xS => g117_22b p a.1 a.2) f (Int32.ofNat m - 1, σc) = some (.inl (σ' 48 0 + 10 * σ' 49 0), σ') ∧ (∀ n r, rs[n]? = some r → neq (σ 35) r (σ (59 - p + 2)) (σ' 47) (σ' 48) (σ' 49) n rs.length ∧ v6 (σ' 48 n)) ∧ ∀ c, ¬ c = 47 → ¬ c = 48 → ¬ c = 49 → ¬ c = 50 → σ' c = σ c := by
    intro m
    induction m with
    | zero =>
      intro f σc _ hf hfr hI
      obtain ⟨f, rfl⟩ : ∃ f', f = f' + 1 := ⟨f - 1, by omega⟩
      refine ⟨σc, xlo_end ?_, fun n r hr => hI n r (Nat.zero_le n) hr, hfr⟩
      dsimp only
      unfold g117_22b
      rw [if_pos (show Int32.ofNat 0 - 1 < 0 by decide)]
    | succ n ih =>
      intro f σc hm hf hfr hI
      obtain ⟨f, rfl⟩ : ∃ f', f = f' + 1 := ⟨f - 1, by omega⟩
      have hr := List.getElem?_eq_getElem (l := rs) (i := n) (by omega)
      generalize rs[n] = r at hr
      obtain ⟨S, b1, b2⟩ := cNs_get rs 0 0 n r hc hr
      rw [Nat.zero_add] at b1 b2
      have b1 : cN1 (59 - p) n S r σc := by
        unfold cN1
        rw [hfr (59 - p + 1) (by omega) (by omega) (by omega) (by omega), hfr (59 - p + 2) (by omega) (by omega) (by omega) (by omega), hfr (59 - p + 3) (by omega) (by omega) (by omega) (by omega), hfr (59 - p + 4) (by omega) (by omega) (by omega) (by omega), hfr (59 - p + 5) (by omega) (by omega) (by omega) (by omega), hfr (59 - p + 6) (by omega) (by omega) (by omega) (by omega), hfr (59 - p + 7) (by omega) (by omega) (by omega) (by omega), hfr (59 - p + 8) (by omega) (by omega) (by omega) (by omega), hfr (59 - p + 9) (by omega) (by omega) (by omega) (by omega), hfr (59 - p + 10) (by omega) (by omega) (by omega) (by omega)]
        exact b1
      have hgr := (hg n r hr).1
      have hMr := tM_get rs n r hr
      unfold mtp at hMr
      have e35 : σc 35 = σ 35 := hfr 35 (by decide) (by decide) (by decide) (by decide)
      obtain ⟨σ1, a1, a2, a3, a4⟩ := c_node (p := p) (n := n) (N := rs.length) (S := S) (σ := σc) hp (by omega) hN (by rw [hfr (59 - p) (by omega) (by omega) (by omega) (by omega)]; exact h7) b1 (by omega) hgr (by omega) (fun k hk hk2 => (hI k rs[k] (by omega) (List.getElem?_eq_getElem hk)).2) (gN_tv hgr _)
      rw [e35, hfr (59 - p + 2) (by omega) (by omega) (by omega) (by omega)] at a2
      have hI1 : ∀ k r', n + 1 ≤ k → rs[k]? = some r' → neq (σ 35) r' (σ (59 - p + 2)) (σ1 47) (σ1 48) (σ1 49) k rs.length ∧ v6 (σ1 48 k) := fun k r' hk hr' => by
        obtain ⟨c1, c2⟩ := hI k r' hk hr'
        exact ⟨neq_c (fun j hj => a3 j (by omega)) c1, by rw [(a3 k (by omega)).2.1]; exact c2⟩
      have hI2 : v6 (σ1 48 n) := neq_6 a2 (fun k hk hk2 => (hI1 k rs[k] (by omega) (List.getElem?_eq_getElem hk2)).2)
      obtain ⟨σ2, d1, d2, d3⟩ := ih f σ1 (by omega) (by omega) (fun c x1 x2 x3 x4 => by rw [a4 c x1 x2 x3 x4, hfr c x1 x2 x3 x4]) (fun k r' hk hr' => by
        by_cases hkn : k = n
        · subst hkn
          rw [hr] at hr'
          cases hr'
          exact ⟨a2, hI2⟩
        · exact hI1 k r' (by omega) hr')
      refine ⟨σ2, ?_, d2, d3⟩
      rw [x_prd, xlo_step (a := (Int32.ofNat n, σc)) a1, x_m1, d1]
  unfold g117 g117_22
  rw [h7]
  by_cases h0 : rs.length = 0
  · rw [if_pos (show Int32.ofNat rs.length = 0 by rw [h0]; rfl)]
    refine ⟨σ, by rw [if_pos h0], fun n r hr => ?_, fun _ _ _ _ _ => rfl⟩
    have := (List.getElem?_eq_some_iff.mp hr).1
    omega
  · rw [if_neg (show ¬ Int32.ofNat rs.length = 0 from fun z => h0 (x_inj (n := 0) (by omega) (by omega) z))]
    obtain ⟨σ', a, b, c⟩ := lp rs.length 1000 σ (Nat.le_refl _) (by omega) (fun _ _ _ _ _ => rfl) (fun n r hn hr => by
      have := (List.getElem?_eq_some_iff.mp hr).1
      omega)
    exact ⟨σ', by rw [if_neg h0]; exact a, b, c⟩
/-- the reference judges -/
theorem r_judge {s : xS} {F : Nat → Int32} {rs : List xN} (hN : rs.length ≤ 40) (hM : tM rs ≤ 100) (hD : tDn 0 rs ≤ 300) (h70 : s 70 0 = Int32.ofNat rs.length) (hj : jNs 0 0 0 rs s) (hg : gLs 0 none rs) (hF : wFa s F) {P T V D : Nat → Int32} (hq : ∀ n r, rs[n]? = some r → neq F r P T V D n rs.length) (hP : ∀ k, k < rs.length → s 72 k = P k) :
    ∃ s', g192 s = some (.inl 0, s') ∧ (∀ k, k < rs.length → s' 87 k = phi (T k) ∧ s' 88 k = V k) ∧ ∀ c, ¬ c = 87 → ¬ c = 88 → ¬ c = 90 → s' c = s c := by
  have lp : ∀ (m f : Nat) (sc : xS), m ≤ rs.length → m < f → (∀ c, ¬ c = 87 → ¬ c = 88 → ¬ c = 90 → sc c = s c) → (∀ k, m ≤ k → k < rs.length → sc 87 k = phi (T k) ∧ sc 88 k = V k) →
      ∃ s', xlo (fun a : Int32 × xS => g192_9b a.1 a.2) f (Int32.ofNat m - 1, sc) = some (.inl 0, s') ∧ (∀ k, k < rs.length → s' 87 k = phi (T k) ∧ s' 88 k = V k) ∧ ∀ c, ¬ c = 87 → ¬ c = 88 → ¬ c = 90 → s' c = s c := by
    intro m
    induction m with
    | zero =>
      intro f sc _ hf hfr hI
      obtain ⟨f, rfl⟩ : ∃ f', f = f' + 1 := ⟨f - 1, by omega⟩
      refine ⟨sc, xlo_end ?_, fun k hk => hI k (Nat.zero_le k) hk, hfr⟩
      dsimp only
      unfold g192_9b
      rw [if_pos (show Int32.ofNat 0 - 1 < 0 by decide)]
    | succ n ih =>
      intro f sc hm hf hfr hI
      obtain ⟨f, rfl⟩ : ∃ f', f = f' + 1 := ⟨f - 1, by omega⟩
      have hr := List.getElem?_eq_getElem (l := rs) (i := n) (by omega)
      generalize rs[n] = r at hr
      obtain ⟨M, Dd, b1, b2, b3⟩ := jNs_get rs 0 0 0 n r hj hr
      rw [Nat.zero_add] at b1 b2 b3
      have b1 : jN1 n M Dd r sc := by
        unfold jN1
        rw [hfr 71 (by decide) (by decide) (by decide), hfr 72 (by decide) (by decide) (by decide), hfr 73 (by decide) (by decide) (by decide), hfr 74 (by decide) (by decide) (by decide), hfr 75 (by decide) (by decide) (by decide), hfr 76 (by decide) (by decide) (by decide), hfr 77 (by decide) (by decide) (by decide), hfr 78 (by decide) (by decide) (by decide), hfr 79 (by decide) (by decide) (by decide), hfr 80 (by decide) (by decide) (by decide), hfr 81 (by decide) (by decide) (by decide), hfr 82 (by decide) (by decide) (by decide), hfr 83 (by decide) (by decide) (by decide), hfr 84 (by decide) (by decide) (by decide)]
        exact b1
      obtain ⟨s1, a1, a2, a3, a4, a5⟩ := r_node (n := n) (N := rs.length) (s := sc) (by omega) hN (by rw [hfr 70 (by decide) (by decide) (by decide)]; exact h70) b1 (by omega) (by omega) (hg n r hr).1 (wFa_c hF (fun c x1 x2 _ x4 => hfr c x1 x2 x4)) (hq n r hr) (fun k _ hk => by rw [hfr 72 (by decide) (by decide) (by decide)]; exact hP k hk) (fun k hk hk2 => ⟨(hI k (by omega) hk2).1, (hq k rs[k] (List.getElem?_eq_getElem hk2)).2.1⟩) (fun k hk hk2 => (hI k (by omega) hk2).2)
      obtain ⟨s2, d1, d2, d3⟩ := ih f s1 (by omega) (by omega) (fun c x1 x2 x3 => by rw [a5 c x1 x2 x3, hfr c x1 x2 x3]) (fun k hk hk2 => by
        by_cases hkn : k = n
        · subst hkn
          exact ⟨a2, a3⟩
        · rw [(a4 k hkn).1, (a4 k hkn).2]
          exact hI k (by omega) hk2)
      refine ⟨s2, ?_, d2, d3⟩
      rw [x_prd, xlo_step (a := (Int32.ofNat n, sc)) a1, show Int32.ofNat n + xk1 = Int32.ofNat n - 1 from x_m1 n, d1]
  unfold g192 g192_9
  rw [h70]
  exact lp rs.length 1000 s (Nat.le_refl _) (by omega) (fun _ _ _ _ => rfl) (fun k hk hk2 => by omega)
