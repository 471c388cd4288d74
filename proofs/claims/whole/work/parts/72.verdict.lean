/-! decide: the verdict of both -/
theorem x30 : (3 : Int32) = 0 ↔ False := by decide
theorem jN1_h {s : xS} {rs : List xN} (hj : jNs 0 0 0 rs s) {n : Nat} {r : xN} (hr : rs[n]? = some r) : s 71 n = r.1 ∧ s 72 n = pv r.2.1 ∧ s 77 n = (if r.1 = 100 then 0 else r.2.2.1) ∧ s 78 n = (if r.1 = 112 then 0 else r.2.2.2.1) := by
  obtain ⟨M, D, h, -, -⟩ := jNs_get rs 0 0 0 n r hj hr
  rw [Nat.zero_add] at h
  exact ⟨h.1, h.2.1, h.2.2.2.2.2.1, h.2.2.2.2.2.2.1⟩
theorem cN1_p {p : Nat} {σ : xS} {rs : List xN} (hc : cNs p 0 0 rs σ) {n : Nat} {r : xN} (hr : rs[n]? = some r) : σ (p + 2) n = pv r.2.1 := by
  obtain ⟨S, h, -⟩ := cNs_get rs 0 0 n r hc hr
  rw [Nat.zero_add] at h
  exact h.2.1
theorem verdict {p : Nat} (hp : p = 23 ∨ p = 36) {σ : xS} (hA : wKA σ) (hB : wKB σ) (hE : wKE σ) (hJ : wJ σ p) {se ob u : Nat} (hse : se < 6) (hob : ob < 16) (hu : u < 8) (c2 : σ 9 se = σ 60 se) (c3 : wM (σ 9 se)) (c6 : σ 8 se = Int32.ofNat u) (c7 : σ 59 se = Int32.ofNat u) (a h : Int32) :
    ∃ w D σ', g113 p (Int32.ofNat se) a (Int32.ofNat ob) h σ = some (.inl (w + 10 * D), σ') ∧ (∀ c, ¬ c = 35 → ¬ c = 47 → ¬ c = 48 → ¬ c = 49 → ¬ c = 50 → σ' c = σ c) ∧ v6 w ∧ wD8 D ∧ (¬ w = 1 → ¬ w = 2 → D = 0) ∧
    ∀ s : xS, (∀ c, ¬ c = 53 → ¬ c = 10 → ¬ c = 19 → ¬ c = 51 → ¬ c = 52 → s c = σ' c) → ∃ s', g191 (Int32.ofNat se) a (Int32.ofNat ob) h s = some (.inl w, s') ∧ (∀ c, ¬ c = 53 → ¬ c = 87 → ¬ c = 88 → ¬ c = 90 → s' c = s c) ∧ (∀ j, j < 42 ∨ 45 < j → s' 53 j = s 53 j) ∧ (w = 1 ∨ w = 2 → ∃ s'', g206 s' = some (.inl D, s'') ∧ ∀ c, ¬ c = 89 → s'' c = s' c) := by
  obtain ⟨rs, j1, j2, j3, j4, j5, j6, j7, j8, j9⟩ := hJ
  obtain ⟨-, h2, h3, h4⟩ := x6 se hse
  obtain ⟨o2, o3⟩ := x16 ob hob
  have hxu : xn (Int32.ofNat u) 8 = true := xn_of (by omega) hu
  have hcu : (Int32.ofNat u).toNatClampNeg = u := Int32.toNatClampNeg_ofNat_of_lt (by omega)
  obtain ⟨e1, e2, e3, e4, e5⟩ := hE
  obtain ⟨b1, b2, b3, b4, b5⟩ := hB
  have hg : ∃ σ1, (∀ v s', g117 p σ1 = some (.inl v, s') → g113 p (Int32.ofNat se) a (Int32.ofNat ob) h σ = some (.inl v, s')) ∧ (∀ c, ¬ c = 35 → σ1 c = σ c) ∧ σ1 35 0 = a ∧ σ1 35 1 = h ∧ σ1 35 2 = σ 65 ob ∧ σ1 35 3 = σ 66 ob ∧ σ1 35 4 = σ 67 ob ∧ σ1 35 5 = Int32.ofNat u ∧ σ1 35 6 = σ 56 u ∧ σ1 35 7 = σ 57 u ∧ σ1 35 8 = wc (σ 54) (σ 60 se) := by
    refine ⟨xh_ui (xh_ui (xh_ui (xh_ui (xh_ui (xh_ui (xh_ui (xh_ui (xh_ui σ 35 0 a) 35 1 h) 35 2 (σ 65 ob)) 35 3 (σ 66 ob)) 35 4 (σ 67 ob)) 35 5 (Int32.ofNat u)) 35 6 (σ 56 u)) 35 7 (σ 57 u)) 35 8 (wc (σ 54) (σ 60 se)), fun v s' hz => ?_, fun c hc => by rw [xu_o hc, xu_o hc, xu_o hc, xu_o hc, xu_o hc, xu_o hc, xu_o hc, xu_o hc, xu_o hc], rfl, rfl, rfl, rfl, rfl, rfl, rfl, rfl, rfl⟩
    have d1 : decide (σ 18 ob = 0 ∨ σ 18 ob = 1) = true := decide_eq_true (e4 ob hob)
    have d2 : decide (σ 6 u = 0 ∨ σ 6 u = 1) = true := decide_eq_true (b5 u hu)
    have wkc := wk_wc hA.2 c3
    unfold g113 g114
    rw [h2, cond_true]
    dsimp only
    rw [o2, cond_true, o3, xu_o (show ¬ 16 = 35 by decide), xu_o (show ¬ 16 = 35 by decide), xu_o (show ¬ 17 = 35 by decide), xu_o (show ¬ 17 = 35 by decide), xu_o (show ¬ 18 = 35 by decide), xu_o (show ¬ 18 = 35 by decide)]
    unfold g115
    rw [d1, cond_true]
    dsimp only
    rw [h3, c6, hxu, cond_true, hcu, g36_eq hse]
    dsimp only
    have m2 : ∀ x y z : Int32, xh_ui (xh_ui (xh_ui (xh_ui (xh_ui σ 35 0 a) 35 1 h) 35 2 x) 35 3 y) 35 4 z 2 = σ 2 := fun _ _ _ => rfl
    have m9 : ∀ x y z : Int32, xh_ui (xh_ui (xh_ui (xh_ui (xh_ui σ 35 0 a) 35 1 h) 35 2 x) 35 3 y) 35 4 z 9 = σ 9 := fun _ _ _ => rfl
    have m5 : ∀ x y z : Int32, xh_ui (xh_ui (xh_ui (xh_ui (xh_ui σ 35 0 a) 35 1 h) 35 2 x) 35 3 y) 35 4 z 5 = σ 5 := fun _ _ _ => rfl
    have m6 : ∀ x y z : Int32, xh_ui (xh_ui (xh_ui (xh_ui (xh_ui σ 35 0 a) 35 1 h) 35 2 x) 35 3 y) 35 4 z 6 = σ 6 := fun _ _ _ => rfl
    rw [m2, m9, m5, m6, wkc]
    unfold g116
    rw [d2, cond_true]
    dsimp only
    rw [e1, e2, e3, b3, b4, hA.1, c2, hz]
  obtain ⟨σ1, f1, f2, f3⟩ := hg
  have fc : ∀ c, 59 - p ≤ c → c ≤ 59 - p + 10 → σ1 c = σ c := fun c x y => f2 c (by omega)
  have hc1 := cNs_eq fc rs 0 0 j7
  obtain ⟨σ2, k1, k2, k3⟩ := c_judge (p := p) (σ := σ1) hp j1 j2 j3 (by rw [fc (59 - p) (by omega) (by omega)]; exact j5) hc1 j9
  have f1 := f1 _ _ k1
  have fr : ∀ c, ¬ c = 35 → ¬ c = 47 → ¬ c = 48 → ¬ c = 49 → ¬ c = 50 → σ2 c = σ c := fun c x0 x1 x2 x3 x4 => by rw [k3 c x1 x2 x3 x4, f2 c x0]
  by_cases h0 : rs.length = 0
  · rw [if_pos h0] at f1
    refine ⟨0, 0, σ2, f1, fr, v6_0, fun i _ => wt_0 i, fun _ _ => rfl, fun s hs => ⟨s, ?_, fun _ _ _ _ _ => rfl, fun _ _ => rfl, fun z => absurd z (by decide)⟩⟩
    unfold g191
    rw [hs 70 (by decide) (by decide) (by decide) (by decide) (by decide), fr 70 (by decide) (by decide) (by decide) (by decide) (by decide), j6, h0, if_pos (show Int32.ofNat 0 = 0 from rfl)]
  · rw [if_neg h0] at f1
    have hq : ∀ n r, rs[n]? = some r → neq (σ1 35) r (σ1 (59 - p + 2)) (σ2 47) (σ2 48) (σ2 49) n rs.length := fun n r hr => (k2 n r hr).1
    have hP : ∀ n r, rs[n]? = some r → σ1 (59 - p + 2) n = pv r.2.1 := fun n r hr => cN1_p hc1 hr
    have r0 := List.getElem?_eq_getElem (l := rs) (i := 0) (by omega)
    obtain ⟨d1, d2⟩ := all_D j9 hq rs.length 0 (by omega) 0 (Nat.le_refl 0) (by omega)
    refine ⟨σ2 48 0, σ2 49 0, σ2, f1, fr, (k2 0 _ r0).2, d1, d2, fun s hs => ?_⟩
    have s70 : s 70 0 = Int32.ofNat rs.length := by rw [hs 70 (by decide) (by decide) (by decide) (by decide) (by decide), fr 70 (by decide) (by decide) (by decide) (by decide) (by decide)]; exact j6
    have hsσ : ∀ c, 53 < c → ¬ c = 35 → ¬ c = 47 → ¬ c = 48 → ¬ c = 49 → ¬ c = 50 → s c = σ c := fun c x x0 x1 x2 x3 x4 => by rw [hs c (by omega) (by omega) (by omega) (by omega) (by omega), fr c x0 x1 x2 x3 x4]
    have s3f : ∀ c, ¬ c = 53 → xh_ui (xh_ui (xh_ui (xh_ui s 53 42 (Int32.ofNat se)) 53 43 a) 53 44 (Int32.ofNat ob)) 53 45 h c = s c := fun c x => by rw [xu_o x, xu_o x, xu_o x, xu_o x]
    have s53 : ∀ j, j < 42 ∨ 45 < j → xh_ui (xh_ui (xh_ui (xh_ui s 53 42 (Int32.ofNat se)) 53 43 a) 53 44 (Int32.ofNat ob)) 53 45 h 53 j = s 53 j := fun j x => by rw [xu_n (by omega), xu_n (by omega), xu_n (by omega), xu_n (by omega)]
    have s42 : xh_ui (xh_ui (xh_ui (xh_ui s 53 42 (Int32.ofNat se)) 53 43 a) 53 44 (Int32.ofNat ob)) 53 45 h 53 42 = Int32.ofNat se ∧ xh_ui (xh_ui (xh_ui (xh_ui s 53 42 (Int32.ofNat se)) 53 43 a) 53 44 (Int32.ofNat ob)) 53 45 h 53 43 = a ∧ xh_ui (xh_ui (xh_ui (xh_ui s 53 42 (Int32.ofNat se)) 53 43 a) 53 44 (Int32.ofNat ob)) 53 45 h 53 44 = Int32.ofNat ob ∧ xh_ui (xh_ui (xh_ui (xh_ui s 53 42 (Int32.ofNat se)) 53 43 a) 53 44 (Int32.ofNat ob)) 53 45 h 53 45 = h := ⟨rfl, rfl, rfl, rfl⟩
    unfold g191
    rw [s70, if_neg (show ¬ Int32.ofNat rs.length = 0 from fun z => h0 (x_inj (n := 0) (by omega) (by omega) z))]
    generalize xh_ui (xh_ui (xh_ui (xh_ui s 53 42 (Int32.ofNat se)) 53 43 a) 53 44 (Int32.ofNat ob)) 53 45 h = s3 at s3f s53 s42 ⊢
    have s3σ : ∀ c, 53 < c → ¬ c = 35 → ¬ c = 47 → ¬ c = 48 → ¬ c = 49 → ¬ c = 50 → s3 c = σ c := fun c x x0 x1 x2 x3 x4 => by rw [s3f c (by omega), hsσ c x x0 x1 x2 x3 x4]
    have hF : wFa s3 (σ1 35) := by
      obtain ⟨g0, g1, g2, g3, g4, g5, g6, g7, g8⟩ := f3
      refine ⟨se, ob, u, hse, hob, hu, s42.1, s42.2.2.1, ?_, ?_, ?_, ?_, ?_, ?_, g5, ?_, ?_, ?_⟩
      · rw [s3σ 59 (by decide) (by decide) (by decide) (by decide) (by decide) (by decide)]; exact c7
      · rw [s42.2.1]; exact g0
      · rw [s42.2.2.2]; exact g1
      · rw [s3σ 65 (by decide) (by decide) (by decide) (by decide) (by decide) (by decide)]; exact g2
      · rw [s3σ 66 (by decide) (by decide) (by decide) (by decide) (by decide) (by decide)]; exact g3
      · rw [s3σ 67 (by decide) (by decide) (by decide) (by decide) (by decide) (by decide)]; exact g4
      · rw [s3σ 56 (by decide) (by decide) (by decide) (by decide) (by decide) (by decide)]; exact g6
      · rw [s3σ 57 (by decide) (by decide) (by decide) (by decide) (by decide) (by decide)]; exact g7
      · rw [s3σ 54 (by decide) (by decide) (by decide) (by decide) (by decide) (by decide), s3σ 60 (by decide) (by decide) (by decide) (by decide) (by decide) (by decide)]; exact g8
    have hj3 : jNs 0 0 0 rs s3 := jNs_fr ⟨by rw [s3σ 70 (by decide) (by decide) (by decide) (by decide) (by decide) (by decide)], fun c x y j _ => by rw [s3σ c (by omega) (by omega) (by omega) (by omega) (by omega) (by omega)], fun c x y j _ => by rw [s3σ c (by omega) (by omega) (by omega) (by omega) (by omega) (by omega)], fun j _ => by rw [s3σ 84 (by decide) (by decide) (by decide) (by decide) (by decide) (by decide)]⟩ rs 0 0 0 (by omega) (by omega) (by omega) j8
    have hP3 : ∀ k, k < rs.length → s3 72 k = σ1 (59 - p + 2) k := fun k hk => by
      have hk' := List.getElem?_eq_getElem hk
      rw [(jN1_h hj3 hk').2.1, hP k _ hk']
    obtain ⟨s4, l1, l2, l3⟩ := r_judge (s := s3) (F := σ1 35) (P := σ1 (59 - p + 2)) (T := σ2 47) (V := σ2 48) (D := σ2 49) j1 j3 j4 (by rw [s3f 70 (by decide)]; exact s70) hj3 j9 hF hq hP3
    rw [l1]
    refine ⟨s4, ?_, fun c x x1 x2 x3 => by rw [l3 c x1 x2 x3, s3f c x], fun j x => by rw [l3 53 (by decide) (by decide) (by decide)]; exact s53 j x, fun hw => ?_⟩
    · dsimp only
      rw [(l2 0 (by omega)).2]
    · exact g206_eq (s0 := s4) (F := σ1 35) (P := σ1 (59 - p + 2)) (T := σ2 47) (V := σ2 48) (D := σ2 49) (v := σ2 48 0) j1 (by omega) j9 hq hP hw rfl (by rw [l3 70 (by decide) (by decide) (by decide), s3f 70 (by decide)]; exact s70) (fun n r hr => by
        rw [l3 71 (by decide) (by decide) (by decide), l3 72 (by decide) (by decide) (by decide), l3 77 (by decide) (by decide) (by decide), l3 78 (by decide) (by decide) (by decide)]
        exact jN1_h hj3 hr) (fun k hk => ⟨(l2 k hk).1, (hq k _ (List.getElem?_eq_getElem hk)).2.1, (l2 k hk).2⟩)
