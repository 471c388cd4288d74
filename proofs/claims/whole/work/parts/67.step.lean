/-! judging: the class's step of a node -/
theorem g127_eq {p n N : Nat} {σ : xS} (hp : p = 23 ∨ p = 36) (hn : n < N) (hN : N ≤ 40) (h7 : σ (59 - p) 7 = Int32.ofNat N) {r : xN} (hc : comb r.1 = true) (h1 : σ (59 - p + 1) n = r.1) (h3 : σ (59 - p + 3) n = r.2.2.1) (h4 : σ (59 - p + 4) n = r.2.2.2.1) (hV : ∀ k, k < N → n < k → ∃ v, v < 6 ∧ σ 48 k = Int32.ofNat v) :
    ∃ σ', g127 p (Int32.ofNat n) σ = some (.inl 0, σ') ∧ σ' 48 n = nV (σ 47 n) (cV r.1 (σ (59 - p + 2)) (σ 47) (σ 48) n N) ∧ σ' 49 n = nD r (σ 47 n) (cV r.1 (σ (59 - p + 2)) (σ 47) (σ 48) n N) (cD r.1 (σ (59 - p + 2)) (σ 47) (σ 48) (σ 49) n N) ∧ fr2 n σ σ' := by
  have hx : xn (Int32.ofNat n) 40 = true := xn_of (by omega) (by omega)
  have hcn : (Int32.ofNat n).toNatClampNeg = n := Int32.toNatClampNeg_ofNat_of_lt (by omega)
  have f2 : fr2 n σ (xh_ui (xh_ui σ 48 n 0) 49 n 0) := fr2_89 n σ 0 0
  generalize e2 : xh_ui (xh_ui σ 48 n 0) 49 n 0 = σ2 at f2
  have z8 : σ2 48 n = 0 := by rw [← e2]; exact (xu_89 _ _ _ _).1
  have z9 : σ2 49 n = 0 := by rw [← e2]; exact (xu_89 _ _ _ _).2
  have z7 : σ2 47 = σ 47 := f2.2 47 (by decide) (by decide)
  obtain ⟨σ3, a1, a2, a3, a4⟩ := g128_eq (σ := σ2) hp hn hN (by rw [f2.2 _ (by omega) (by omega)]; exact h7) hc (by rw [f2.2 _ (by omega) (by omega)]; exact h1) z8 z9 (fun k hk hk2 => by rw [(f2.1 k (by omega)).1]; exact hV k hk hk2)
  rw [cV_c (P := σ (59 - p + 2)) (T := σ 47) (V := σ 48) (fun k x y => ⟨by rw [f2.2 _ (by omega) (by omega)], by rw [z7], (f2.1 k (by omega)).1⟩)] at a2
  rw [cD_c (P := σ (59 - p + 2)) (T := σ 47) (V := σ 48) (D := σ 49) (fun k x y => ⟨by rw [f2.2 _ (by omega) (by omega)], by rw [z7], (f2.1 k (by omega)).1, (f2.1 k (by omega)).2⟩)] at a3
  have f3 := fr2_t f2 a4
  generalize cV r.1 (σ (59 - p + 2)) (σ 47) (σ 48) n N = w at a2 ⊢
  generalize cD r.1 (σ (59 - p + 2)) (σ 47) (σ 48) (σ 49) n N = d at a3 ⊢
  have t3 : σ3 47 n = σ 47 n := by rw [f3.2 47 (by decide) (by decide)]
  unfold g127
  rw [hx, cond_true, hcn, e2, z7]
  unfold nV nD
  by_cases t0 : σ 47 n = 0
  · rw [if_pos t0, if_pos t0, if_pos t0]
    exact ⟨σ2, rfl, z8, z9, f2⟩
  · rw [if_neg t0, if_neg t0, if_neg t0, a1]
    dsimp only
    rw [a2]
    by_cases w12 : w = 1 ∨ w = 2
    · have e49 : g127_49 p (Int32.ofNat n) σ3 = (if σ 47 n = 1 then some (Sum.inl 0, xh_ui (xh_ui σ3 48 n (w + 2)) 49 n 0) else some (Sum.inl 0, xh_ui σ3 49 n (d ||| own r w))) := by
        unfold g127_49 g127_54 g127_89
        rw [hx, cond_true, hcn, if_neg x1n, t3, a2, a3, cond_true, if_neg x1n]
        by_cases t1 : σ 47 n = 1
        · rw [if_pos t1, if_pos t1]
        · rw [if_neg t1, if_neg t1]
          unfold g126 own
          rw [hx, cond_true, cond_true, hcn, f3.2 _ (by omega) (by omega), f3.2 _ (by omega) (by omega), h3, h4]
          rcases w12 with w1 | w2
          · rw [if_pos w1, if_pos w1]
          · rw [if_neg (show ¬ w = 1 by rw [w2]; decide), if_neg (show ¬ w = 1 by rw [w2]; decide), if_pos w2, if_pos w2]
      have e : (if w = 1 then g127_49 p (Int32.ofNat n) σ3 else if w = 2 then g127_49 p (Int32.ofNat n) σ3 else g127_54 p (Int32.ofNat n) 0 σ3) = g127_49 p (Int32.ofNat n) σ3 := by
        rcases w12 with w1 | w2
        · rw [if_pos w1]
        · rw [if_neg (show ¬ w = 1 by rw [w2]; decide), if_pos w2]
      rw [e, e49, if_pos w12]
      by_cases t1 : σ 47 n = 1
      · rw [if_pos t1, if_pos (show (w = 1 ∨ w = 2) ∧ σ 47 n = 1 from ⟨w12, t1⟩), if_pos t1]
        exact ⟨_, rfl, (xu_89 _ _ _ _).1, (xu_89 _ _ _ _).2, fr2_t f3 (fr2_89 _ _ _ _)⟩
      · rw [if_neg t1, if_neg (show ¬ ((w = 1 ∨ w = 2) ∧ σ 47 n = 1) from fun z => t1 z.2), if_neg t1]
        exact ⟨_, rfl, by rw [xu_o (by decide)]; exact a2, xu_s _ _ _ _, fr2_t f3 (fr2_9 _ _ _)⟩
    · rw [if_neg (show ¬ w = 1 from fun z => w12 (Or.inl z)), if_neg (show ¬ w = 2 from fun z => w12 (Or.inr z)), if_neg (show ¬ ((w = 1 ∨ w = 2) ∧ σ 47 n = 1) from fun z => w12 z.1), if_neg w12]
      unfold g127_54 g127_89
      rw [if_pos x0p, if_pos x0p]
      exact ⟨σ3, rfl, a2, a3, f3⟩
/-- a condition, in both -/
theorem gN_ev {r : xN} (hg : gN r) (F : Nat → Int32) (M : Nat) (g : Int32 → Int32) (hM : M + r.2.2.2.2.2.2.2.1.length ≤ 100) (hq : ∀ q t, r.2.2.2.2.2.2.2.1[q]? = some t → g (Int32.ofNat (M + q)) = phi (mtc F t)) : v3 (cv F r) ∧ (((r.2.2.2.2.2.2.1 = [] ∧ ∀ M, r.2.2.2.2.2.2.2.2 M = []) ∧ cv F r = 2) ∨ (evC (mtc F) r.2.2.2.2.2.2.1 [] = some [cv F r] ∧ evR g ((r.2.2.2.2.2.2.2.2 M).map dsh) [] = some [phi (cv F r)])) := by
  obtain ⟨-, -, -, -, h⟩ := hg
  rcases h with ⟨h1, h2⟩ | ⟨h1, -, -⟩
  · have : cv F r = 2 := by unfold cv; rw [h1]; rfl
    exact ⟨by rw [this]; exact v3_2, Or.inl ⟨⟨h1, h2⟩, this⟩⟩
  · obtain ⟨v, a1, a2, a3⟩ := h1 (mtc F) (v3_mtc F) M g hM hq
    have a2 := a2 [] (Nat.le_refl 0)
    have : cv F r = v := by unfold cv; rw [a2]; rfl
    rw [this]
    exact ⟨a1, Or.inr ⟨a2, a3 []⟩⟩
theorem gN_cv {r : xN} (hg : gN r) (hM : r.2.2.2.2.2.2.2.1.length ≤ 100) (F : Nat → Int32) : v3 (cv F r) ∧ (((r.2.2.2.2.2.2.1 = [] ∧ ∀ M, r.2.2.2.2.2.2.2.2 M = []) ∧ cv F r = 2) ∨ evC (mtc F) r.2.2.2.2.2.2.1 [] = some [cv F r]) := by
  obtain ⟨a, b⟩ := gN_ev hg F 0 (fun d => phi (mtc F ((r.2.2.2.2.2.2.2.1[d.toNatClampNeg]?).getD (0, 0, 0)))) (by omega) (fun q t hq => by
    have hl := (List.getElem?_eq_some_iff.mp hq).1
    rw [Nat.zero_add, Int32.toNatClampNeg_ofNat_of_lt (by omega), hq]
    rfl)
  exact ⟨a, b.imp id And.left⟩
theorem c_node {p n N S : Nat} {σ : xS} (hp : p = 23 ∨ p = 36) (hn : n < N) (hN : N ≤ 40) (h7 : σ (59 - p) 7 = Int32.ofNat N) {r : xN} (hr : cN1 (59 - p) n S r σ) (hS : S + stp r ≤ 300) (hg : gN r) (hM : r.2.2.2.2.2.2.2.1.length ≤ 100) (hV : ∀ k, k < N → n < k → ∃ v, v < 6 ∧ σ 48 k = Int32.ofNat v) (ht : v3 (tv (σ 35) r)) :
    ∃ σ', g117_22b p (Int32.ofNat n) σ = some (.inl (Int32.ofNat n + (-1), σ')) ∧ neq (σ 35) r (σ (59 - p + 2)) (σ' 47) (σ' 48) (σ' 49) n N ∧ (∀ j, ¬ j = n → σ' 47 j = σ 47 j ∧ σ' 48 j = σ 48 j ∧ σ' 49 j = σ 49 j) ∧ ∀ c, ¬ c = 47 → ¬ c = 48 → ¬ c = 49 → ¬ c = 50 → σ' c = σ c := by
  have hx : xn (Int32.ofNat n) 40 = true := xn_of (by omega) (by omega)
  have hcn : (Int32.ofNat n).toNatClampNeg = n := Int32.toNatClampNeg_ofNat_of_lt (by omega)
  obtain ⟨c1, c2, c3, c4, c5, c6, c7, c8⟩ := hr
  unfold stp at hS c7
  have e118 : g118 p (Int32.ofNat n) σ = some (.inl (tv (σ 35) r), σ) := g118_eq (by omega) (T := r.2.2.2.2.1) (S := S) (by omega) c5 c6 (fun q t hq => c8 q t (by rw [List.getElem?_append_left (List.getElem?_eq_some_iff.mp hq).1]; exact hq))
  have nneg : ¬ Int32.ofNat n < 0 := by
    have z : (0 : Int32).toInt = 0 := by decide
    rw [Int32.lt_iff_toInt_lt, z, Int32.toInt_ofNat_of_lt (by omega)]; omega
  unfold g117_22b
  rw [if_neg nneg, e118]
  dsimp only
  rw [hx, cond_true, hcn]
  have o1 : ∀ c, ¬ c = 47 → xh_ui σ 47 n (tv (σ 35) r) c = σ c := fun c hc => xu_o hc
  have o47 : xh_ui σ 47 n (tv (σ 35) r) 47 n = tv (σ 35) r := xu_s _ _ _ _
  have o47n : ∀ j, ¬ j = n → xh_ui σ 47 n (tv (σ 35) r) 47 j = σ 47 j := fun j hj => xu_n hj
  generalize xh_ui σ 47 n (tv (σ 35) r) = σ1 at o1 o47 o47n ⊢
  rw [o1 _ (by omega), c1]
  obtain ⟨vc, hcv⟩ := gN_cv hg hM (σ 35)
  cases hi : isr r.1 with
  | true =>
    have e65 : ∃ σ', g117_65 p (Int32.ofNat n) σ1 = some (.inl (Int32.ofNat n + (-1), σ')) ∧ neq (σ 35) r (σ (59 - p + 2)) (σ' 47) (σ' 48) (σ' 49) n N ∧ (∀ j, ¬ j = n → σ' 47 j = σ 47 j ∧ σ' 48 j = σ 48 j ∧ σ' 49 j = σ 49 j) ∧ ∀ c, ¬ c = 47 → ¬ c = 48 → ¬ c = 49 → ¬ c = 50 → σ' c = σ c := by
      have e123 : ∃ σ2, g123 p (Int32.ofNat n) σ1 = some (.inl (cv (σ 35) r), σ2) ∧ ∀ c, ¬ c = 50 → σ2 c = σ1 c := by
        unfold g123 g123_12
        rw [hx, cond_true, hcn, o1 _ (by omega), c6]
        have lp := fun kf he => g123_lp (p := p) (n := n) (E := S + (r.2.2.2.2.1.length + r.2.2.2.2.2.2.1.length)) (by omega) hS r.2.2.2.2.2.2.1 (S + r.2.2.2.2.1.length) [] kf 1000 σ1 (by omega) (by omega) (by rw [o1 _ (by omega)]; exact c7 hi) (fun q t hq => by
          rw [o1 _ (by omega), o1 _ (by omega), o1 _ (by omega), Nat.add_assoc]
          exact c8 _ t (by rw [List.getElem?_append_right (by omega), Nat.add_sub_cancel_left]; exact hq)) (by rw [List.length_nil]; omega) trivial he hp
        rcases hcv with ⟨⟨q1, -⟩, q2⟩ | q
        · obtain ⟨σ2, b1, -, b3⟩ := lp [] (by rw [q1]; rfl)
          exact ⟨σ2, by rw [q2]; exact b1, b3⟩
        · obtain ⟨σ2, b1, b2, b3⟩ := lp [cv (σ 35) r] (by rw [o1 35 (by decide)]; exact q)
          refine ⟨σ2, ?_, b3⟩
          have b4 : σ2 50 0 = cv (σ 35) r := b2.1
          rw [← b4]
          exact b1
      obtain ⟨σ2, b1, b2⟩ := e123
      have t2 : σ2 47 n = tv (σ 35) r := by rw [b2 47 (by decide)]; exact o47
      have e125 := g125_eq (p := p) (n := n) (σ := σ2) hp (by omega) (e := eff r.1) (by rw [b2 _ (by omega), o1 _ (by omega), c1]; rfl) (cv (σ 35) r)
      rw [t2] at e125
      unfold g117_65 g117_83
      rw [b1]
      dsimp only
      rw [e125]
      refine ⟨_, rfl, ⟨?_, ?_, vc, fun _ => ⟨?_, ?_⟩, fun z => by rw [hi] at z; cases z⟩, fun j hj => ⟨?_, ?_, ?_⟩, fun c x1 x2 x3 x4 => ?_⟩
      · rw [xu_o (by decide), xu_o (by decide)]; exact t2
      · rw [xu_o (by decide), xu_o (by decide), t2]; exact ht
      · rw [(xu_89 _ _ _ _).1, xu_o (by decide), xu_o (by decide), t2]
      · rw [(xu_89 _ _ _ _).1, (xu_89 _ _ _ _).2]
        unfold own
        rw [b2 _ (by omega), b2 _ (by omega), o1 _ (by omega), o1 _ (by omega), c3, c4]
      · rw [xu_o (by decide), xu_o (by decide), b2 47 (by decide)]; exact o47n j hj
      · rw [((fr2_89 n σ2 _ _).1 j hj).1, b2 48 (by decide), o1 48 (by decide)]
      · rw [((fr2_89 n σ2 _ _).1 j hj).2, b2 49 (by decide), o1 49 (by decide)]
      · rw [(fr2_89 n σ2 _ _).2 c x2 x3, b2 c x4, o1 c x1]
    have hi' := of_decide_eq_true hi
    rcases hi' with h | h
    · rw [if_pos h]; exact e65
    · rw [if_neg (show ¬ r.1 = 112 by rw [h]; decide), if_pos h]; exact e65
  | false =>
    have hi' := of_decide_eq_false hi
    rw [if_neg (show ¬ r.1 = 112 from fun z => hi' (Or.inl z)), if_neg (show ¬ r.1 = 100 from fun z => hi' (Or.inr z))]
    have hcm : comb r.1 = true := by
      rcases hg.1 with h | h
      · rw [hi] at h; cases h
      · exact h.2
    obtain ⟨σ2, a1, a2, a3, a4⟩ := g127_eq (p := p) (n := n) (N := N) (σ := σ1) hp hn hN (by rw [o1 _ (by omega)]; exact h7) hcm (by rw [o1 _ (by omega)]; exact c1) (by rw [o1 _ (by omega)]; exact c3) (by rw [o1 _ (by omega)]; exact c4) (by rw [o1 48 (by decide)]; exact hV)
    unfold g117_83
    rw [a1]
    refine ⟨σ2, rfl, ⟨?_, ?_, vc, fun z => (by rw [hi] at z; cases z), fun _ => ?_⟩, fun j hj => ⟨?_, ?_, ?_⟩, fun c x1 x2 x3 x4 => ?_⟩
    · rw [a4.2 47 (by decide) (by decide)]; exact o47
    · rw [a4.2 47 (by decide) (by decide), o47]; exact ht
    · rw [a2, a3, a4.2 47 (by decide) (by decide), cV_c (P' := σ (59 - p + 2)) (T' := σ1 47) (V' := σ2 48) (P := σ1 (59 - p + 2)) (T := σ1 47) (V := σ1 48) (fun k x y => ⟨by rw [o1 _ (by omega)], rfl, (a4.1 k (by omega)).1⟩), cD_c (P' := σ (59 - p + 2)) (T' := σ1 47) (V' := σ2 48) (D' := σ2 49) (P := σ1 (59 - p + 2)) (T := σ1 47) (V := σ1 48) (D := σ1 49) (fun k x y => ⟨by rw [o1 _ (by omega)], rfl, (a4.1 k (by omega)).1, (a4.1 k (by omega)).2⟩)]
      exact ⟨rfl, rfl⟩
    · rw [a4.2 47 (by decide) (by decide)]; exact o47n j hj
    · rw [(a4.1 j hj).1, o1 48 (by decide)]
    · rw [(a4.1 j hj).2, o1 49 (by decide)]
    · rw [a4.2 c x2 x3, o1 c x1]
