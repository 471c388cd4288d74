/-! judging: the reference's step of a node -/
theorem gN_tv {r : xN} (hg : gN r) (F : Nat → Int32) : v3 (tv F r) := by
  obtain ⟨-, -, -, h, -⟩ := hg
  rcases h with ⟨h, -⟩ | h
  · unfold tv; rw [h]; exact v3_2
  · exact (tg_eq (v3_mtc F) h).1
theorem wFa_c {s s' : xS} {F : Nat → Int32} (h : wFa s F) (hc : ∀ c, ¬ c = 87 → ¬ c = 88 → ¬ c = 89 → ¬ c = 90 → s' c = s c) : wFa s' F := by
  unfold wFa
  rw [hc 53 (by decide) (by decide) (by decide) (by decide), hc 54 (by decide) (by decide) (by decide) (by decide), hc 56 (by decide) (by decide) (by decide) (by decide), hc 57 (by decide) (by decide) (by decide) (by decide), hc 59 (by decide) (by decide) (by decide) (by decide), hc 60 (by decide) (by decide) (by decide) (by decide), hc 65 (by decide) (by decide) (by decide) (by decide), hc 66 (by decide) (by decide) (by decide) (by decide), hc 67 (by decide) (by decide) (by decide) (by decide)]
  exact h
theorem phi_0 {t : Int32} (h : v3 t) : (phi t = 0 ↔ t = 0) ∧ (phi t = 2 ↔ t = 1) ∧ (phi t = 1 ↔ t = 2) := by
  rcases h with rfl | rfl | rfl <;> decide
theorem g201_eq {n N : Nat} {s : xS} (hn : n < N) (hN : N ≤ 40) (h70 : s 70 0 = Int32.ofNat N) {c : Int32} (hc : comb c = true) (h71 : s 71 n = c) {P T V : Nat → Int32} (hP : ∀ k, n < k → k < N → s 72 k = P k) (h87 : ∀ k, n < k → k < N → s 87 k = phi (T k) ∧ v3 (T k)) (h88 : ∀ k, n < k → k < N → s 88 k = V k) :
    g201 (Int32.ofNat n) s = some (.inl (cV c P T V n N), s) := by
  have hx : xn (Int32.ofNat n) 80 = true := xn_of (by omega) (by omega)
  have hcn : (Int32.ofNat n).toNatClampNeg = n := Int32.toNatClampNeg_ofNat_of_lt (by omega)
  have e203 : ∀ x, g203 (Int32.ofNat n) x s = some (.inl (xb (sm P V n N x)), s) := fun x => by
    rw [g203_eq hn hN h70, sm_c (P := P) (V := V) (fun k a b => ⟨hP k a b, h88 k a b⟩)]
  have hc := of_decide_eq_true hc
  rcases hc with rfl | rfl | rfl | rfl | rfl | rfl
  · unfold g201 cV
    rw [hx, cond_true, hcn, h71]
    simp only [k68_80, k68_70, k68_88, k68_89, k68_79, if_false, if_true]
    rw [g202_eq (s := sm P V n N) e203]
  · unfold g201 cV
    rw [hx, cond_true, hcn, h71]
    simp only [k80_68, k80_70, k80_88, k80_89, k80_79, if_false, if_true]
    rw [g202_eq (s := sm P V n N) e203]
  · unfold g201 cV
    rw [hx, cond_true, hcn, h71]
    simp only [k70_68, k70_80, k70_88, k70_89, k70_79, if_false, if_true]
    have e205 : g205 (Int32.ofNat n) s = some (.inl (oi (fst1 P (fun k => !decide (V k = 0)) n N)), s) := by
      rw [g205_eq hn hN h70]
      simp only [h71, if_true]
      rw [fst1_c (P := P) (c := fun k => !decide (V k = 0)) (fun k a b => ⟨hP k a b, by rw [h88 k a b]⟩)]
    rw [e205]
    dsimp only
    rw [e205]
    dsimp only
    cases e : fst1 P (fun k => !decide (V k = 0)) n N with
    | none => rfl
    | some k =>
      obtain ⟨k1, k2, -, -⟩ := fst1_lt e
      rw [show oi (some k) = Int32.ofNat k from rfl, if_neg (x80n k (by omega)), xn_of (by omega) (by omega), cond_true, Int32.toNatClampNeg_ofNat_of_lt (by omega), h88 k k1 k2]
      rfl
  · unfold g201 cV
    rw [hx, cond_true, hcn, h71]
    simp only [k88_68, k88_80, k88_70, k88_89, k88_79, if_false, if_true]
    rw [e203]
    dsimp only
    cases sm P V n N 1 <;> rfl
  · unfold g201 cV
    rw [hx, cond_true, hcn, h71]
    simp only [k89_68, k89_80, k89_70, k89_88, k89_79, if_false, if_true]
    rw [e203]
    dsimp only
    cases sm P V n N 2 <;> rfl
  · unfold g201 cV
    rw [hx, cond_true, hcn, h71]
    simp only [k79_68, k79_80, k79_70, k79_88, k79_89, if_false, if_true]
    rw [g204_eq hn hN h70 h71]
    obtain ⟨⟨a1, a2, a3⟩, -⟩ := oo_oc (P := s 72) (T := T) (U := s 87) (n := n) (kl n N) (fun k hk => h87 k (kl_mem hk).1 (kl_mem hk).2)
    rw [oo_c (P := P) (T := T) (kl n N) none (fun k hk => ⟨hP k (kl_mem hk).1 (kl_mem hk).2, rfl⟩)] at a1 a2 a3
    match e : oo P T n (kl n N) none with
    | none =>
      rcases a1 e with q | ⟨c', q1, q2⟩
      · rw [q]; rfl
      · rw [q1]
        match c', q2 with
        | c' + 2, _ => rfl
    | some none => rw [a2 e]; rfl
    | some (some k) =>
      obtain ⟨b1, b2⟩ := a3 k e
      have b3 : fst1 (s 72) (fun k => decide (s 87 k = 1)) n N = some k := b2
      obtain ⟨k1, k2, -, -⟩ := fst1_lt b3
      rw [b1, b3]
      show some (Sum.inl (s 88 k), s) = some (Sum.inl (V k), s)
      rw [h88 k k1 k2]
theorem g192_68_eq {n : Nat} {s : xS} (hn : n < 40) {t w : Int32} (ht : v3 t) (h87 : s 87 n = phi t) : g192_68 (Int32.ofNat n) w s = some (.inl (Int32.ofNat n + xk1, xh_ui s 88 n (if (w = 1 ∨ w = 2) ∧ t = 1 then w + 2 else w))) := by
  have hx : xn (Int32.ofNat n) 40 = true := xn_of (by omega) hn
  have hcn : (Int32.ofNat n).toNatClampNeg = n := Int32.toNatClampNeg_ofNat_of_lt (by omega)
  unfold g192_68 g192_94 g192_100 g192_101 g192_102
  rw [hx, cond_true, hcn, h87]
  simp only [cond_true]
  by_cases t1 : t = 1
  · rw [if_pos ((phi_0 ht).2.1.mpr t1)]
    by_cases w1 : w = 1
    · rw [if_pos w1, if_pos (show (w = 1 ∨ w = 2) ∧ t = 1 from ⟨Or.inl w1, t1⟩)]
    · rw [if_neg w1]
      by_cases w2 : w = 2
      · rw [if_pos w2, if_pos (show (w = 1 ∨ w = 2) ∧ t = 1 from ⟨Or.inr w2, t1⟩)]
      · rw [if_neg w2, if_neg (show ¬ ((w = 1 ∨ w = 2) ∧ t = 1) from fun z => z.1.elim w1 w2)]
  · rw [if_neg (show ¬ phi t = 2 from fun z => t1 ((phi_0 ht).2.1.mp z)), if_neg (show ¬ ((w = 1 ∨ w = 2) ∧ t = 1) from fun z => t1 z.2)]
theorem r_node {n N M D : Nat} {s : xS} {F : Nat → Int32} (hn : n < N) (hN : N ≤ 40) (h70 : s 70 0 = Int32.ofNat N) {r : xN} (hr : jN1 n M D r s) (hM : M + mtp r ≤ 100) (hD : D + dtp M r ≤ 300) (hg : gN r) (hF : wFa s F) {P T V Du : Nat → Int32} (hq : neq F r P T V Du n N) (hP : ∀ k, n < k → k < N → s 72 k = P k) (h87 : ∀ k, n < k → k < N → s 87 k = phi (T k) ∧ v3 (T k)) (h88 : ∀ k, n < k → k < N → s 88 k = V k) :
    ∃ s', g192_9b (Int32.ofNat n) s = some (.inl (Int32.ofNat n + xk1, s')) ∧ s' 87 n = phi (T n) ∧ s' 88 n = V n ∧ (∀ j, ¬ j = n → s' 87 j = s 87 j ∧ s' 88 j = s 88 j) ∧ ∀ c, ¬ c = 87 → ¬ c = 88 → ¬ c = 90 → s' c = s c := by
  have hx : xn (Int32.ofNat n) 40 = true := xn_of (by omega) (by omega)
  have hx8 : xn (Int32.ofNat n) 80 = true := xn_of (by omega) (by omega)
  have hcn : (Int32.ofNat n).toNatClampNeg = n := Int32.toNatClampNeg_ofNat_of_lt (by omega)
  obtain ⟨j1, j2, j3, j4, j5, j6, j7, j8, j9, j10⟩ := hr
  obtain ⟨q1, q2, q3, q4, q5⟩ := hq
  unfold mtp at hM
  unfold dtp at hD j5
  have e193 : g193 (Int32.ofNat n) s = some (.inl (phi (T n)), s) := by
    rw [q1]
    exact (g193_eq hF (n := n) (M := M) (Ms := r.2.2.2.2.2.1) (T := r.2.2.2.2.1) (by omega) (by omega) j3 j4 (fun q t hq => by
      obtain ⟨b1, b2, b3, b4, b5⟩ := j8 q t hq
      rcases hg.2.2.2.1 with ⟨-, z⟩ | z
      · rw [z] at hq; cases hq
      · obtain ⟨c1, c2, c3⟩ := gT_all _ _ _ z q t hq
        exact ⟨c1, b1, b2, b3, by rw [b4, c2], by rw [b5, c3]⟩) hg.2.2.2.1).2
  have nneg : ¬ Int32.ofNat n < 0 := by
    have z : (0 : Int32).toInt = 0 := by decide
    rw [Int32.lt_iff_toInt_lt, z, Int32.toInt_ofNat_of_lt (by omega)]; omega
  unfold g192_9b
  rw [if_neg nneg, e193]
  dsimp only
  rw [hx, cond_true, hx8, cond_true, hcn]
  have o1 : ∀ c, ¬ c = 87 → xh_ui s 87 n (phi (T n)) c = s c := fun c hc => xu_o hc
  have o87 : xh_ui s 87 n (phi (T n)) 87 n = phi (T n) := xu_s _ _ _ _
  have o87n : ∀ j, ¬ j = n → xh_ui s 87 n (phi (T n)) 87 j = s 87 j := fun j hj => xu_n hj
  generalize xh_ui s 87 n (phi (T n)) = s1 at o1 o87 o87n ⊢
  rw [o1 71 (by decide), j1, g174_eq]
  dsimp only
  have hF1 : wFa s1 F := wFa_c hF (fun c a _ _ _ => o1 c a)
  cases hi : isr r.1 with
  | true =>
    have hi' := of_decide_eq_true hi
    have hcm : comb r.1 = false := by rcases hi' with h | h <;> (rw [h]; decide)
    rw [hcm, show xb false = 0 from rfl, if_pos x0p]
    obtain ⟨j5a, j5b⟩ := j5 hi
    have e200 : ∃ s2, g200 (Int32.ofNat n) s1 = some (.inl (phi (cv F r)), s2) ∧ ∀ c, ¬ c = 90 → s2 c = s1 c := by
      have hgq : ∀ (q : Nat) (t : xE), r.2.2.2.2.2.2.2.1[q]? = some t → (fun d : Int32 => phi (mtc F (s1 79 d.toNatClampNeg, s1 80 d.toNatClampNeg, s1 81 d.toNatClampNeg))) (Int32.ofNat (M + r.2.2.2.2.2.1.length + q)) = phi (mtc F t) := fun q t hq => by
        have hl := (List.getElem?_eq_some_iff.mp hq).1
        obtain ⟨b1, b2, b3⟩ := j9 q t hq
        dsimp only
        rw [Int32.toNatClampNeg_ofNat_of_lt (by omega), o1 79 (by decide), o1 80 (by decide), o1 81 (by decide), b1, b2, b3]
      obtain ⟨-, hev⟩ := gN_ev hg F (M + r.2.2.2.2.2.1.length) (fun d : Int32 => phi (mtc F (s1 79 d.toNatClampNeg, s1 80 d.toNatClampNeg, s1 81 d.toNatClampNeg))) (by omega) hgq
      unfold g200 g200_9
      rw [hx8, cond_true, hcn, o1 75 (by decide), j5a]
      have lp := fun kf hg' he => g200_lp (n := n) (E := D + (r.2.2.2.2.2.2.2.2 (M + r.2.2.2.2.2.1.length)).length) (D0 := D) (by omega) hD (g := fun d : Int32 => phi (mtc F (s1 79 d.toNatClampNeg, s1 80 d.toNatClampNeg, s1 81 d.toNatClampNeg))) (s0 := s1) hg' (by rw [o1 76 (by decide)]; exact j5b) ((r.2.2.2.2.2.2.2.2 (M + r.2.2.2.2.2.1.length)).map dsh) D [] kf 1000 s1 (by rw [List.length_map]) (Nat.le_refl _) (by rw [List.length_map]; omega) (fun _ _ => rfl) (fun q d hq => by
          rw [List.getElem?_map] at hq
          cases hd : (r.2.2.2.2.2.2.2.2 (M + r.2.2.2.2.2.1.length))[q]? with
          | none => rw [hd] at hq; cases hq
          | some d0 =>
            rw [hd] at hq
            cases hq
            rw [o1 84 (by decide)]
            exact j10 q d0 hd) (by rw [List.length_map, List.length_nil]; omega) trivial he
      rcases hev with ⟨⟨z1, z2⟩, z3⟩ | ⟨-, z⟩
      · have z4 := z2 (M + r.2.2.2.2.2.1.length)
        obtain ⟨s2, b1, -, b3⟩ := lp [] (fun s' _ d ⟨D', x1, x2, _⟩ => by rw [z4] at x2; exact absurd x2 (by rw [List.length_nil]; omega)) (by rw [z4]; rfl)
        exact ⟨s2, by rw [z3]; exact b1, b3⟩
      · have gd : gD r.2.2.2.2.2.2.2.1 r.2.2.2.2.2.2.2.2 ∧ gA r.2.2.2.2.2.2.2.1 ∨ ∀ M, r.2.2.2.2.2.2.2.2 M = [] := by
          rcases hg.2.2.2.2 with y | y
          · exact Or.inr y.2
          · exact Or.inl y.2
        obtain ⟨s2, b1, b2, b3⟩ := lp [phi (cv F r)] (fun s' hs' d ⟨D', x1, x2, x3⟩ n1 n2 n3 => by
          obtain ⟨q, rfl⟩ : ∃ q, D' = D + q := ⟨D' - D, by omega⟩
          have hq := List.getElem?_eq_getElem (l := r.2.2.2.2.2.2.2.2 (M + r.2.2.2.2.2.1.length)) (i := q) (by omega)
          have hd := j10 q _ hq
          rw [o1 84 (by decide), hd] at x3
          rcases gd with ⟨gd, ga⟩ | gd
          · have hmem : (r.2.2.2.2.2.2.2.2 (M + r.2.2.2.2.2.1.length))[q] ∈ r.2.2.2.2.2.2.2.2 (M + r.2.2.2.2.2.1.length) := List.getElem_mem _
            generalize (r.2.2.2.2.2.2.2.2 (M + r.2.2.2.2.2.1.length))[q] = d0 at hmem x3
            rcases gd _ d0 hmem with y | y | y | ⟨q', t, y1, y2⟩
            · exact absurd x3.symm (by rw [y, show dsh 1000 = 1000 by decide]; exact n1)
            · exact absurd x3.symm (by rw [y, show dsh 1001 = 1001 by decide]; exact n2)
            · exact absurd x3.symm (by rw [y, show dsh 1002 = 1002 by decide]; exact n3)
            · have hl := (List.getElem?_eq_some_iff.mp y1).1
              rw [y2, (x_m100 (M := M + r.2.2.2.2.2.1.length + q') (by omega)).1] at x3
              have hz := hgq q' t y1
              dsimp only at hz
              rw [← x3, hz]
              obtain ⟨b1, b2, b3⟩ := j9 q' t y1
              exact g196_eq (wFa_c hF1 (fun c _ _ _ a => hs' c a)) (by omega) (ga q' t y1) (by rw [hs' 79 (by decide), o1 79 (by decide)]; exact b1) (by rw [hs' 80 (by decide), o1 80 (by decide)]; exact b2) (by rw [hs' 81 (by decide), o1 81 (by decide)]; exact b3)
          · rw [gd] at x2; exact absurd x2 (by rw [List.length_nil]; omega)) z
        refine ⟨s2, ?_, b3⟩
        have b4 : s2 90 0 = phi (cv F r) := b2.1
        rw [← b4]
        exact b1
    obtain ⟨s2, b1, b2⟩ := e200
    rw [g199_eq (t := T n) (c := cv F r) (e := eff r.1) (by omega) q2 q3 b1 (by rw [b2 87 (by decide)]; exact o87) (by rw [b2 71 (by decide), o1 71 (by decide), j1]; rfl)]
    unfold g192_102
    refine ⟨_, rfl, ?_, ?_, fun j hj => ⟨?_, ?_⟩, fun c x1 x2 x3 => ?_⟩
    · rw [xu_o (by decide), b2 87 (by decide)]; exact o87
    · rw [xu_s, (q4 hi).1]
    · rw [xu_o (by decide), b2 87 (by decide)]; exact o87n j hj
    · rw [xu_n hj, b2 88 (by decide), o1 88 (by decide)]
    · rw [xu_o x2, b2 c x3, o1 c x1]
  | false =>
    have hcm : comb r.1 = true := by
      rcases hg.1 with h | h
      · rw [hi] at h; cases h
      · exact h.2
    have fin : ∀ w, (g192_68 (Int32.ofNat n) w s1 = some (.inl (Int32.ofNat n + xk1, xh_ui s1 88 n (if (w = 1 ∨ w = 2) ∧ T n = 1 then w + 2 else w)))) := fun w => g192_68_eq (by omega) q2 o87
    rw [hcm, show xb true = 1 from rfl, if_neg x1n, o87]
    have hv := (q5 hi).1
    unfold nV at hv
    have key : ∀ w, V n = w → ∃ s', some (Sum.inl (Int32.ofNat n + xk1, xh_ui s1 88 n w)) = (some (.inl (Int32.ofNat n + xk1, s')) : Option ((Int32 × xS) ⊕ xQ)) ∧ s' 87 n = phi (T n) ∧ s' 88 n = V n ∧ (∀ j, ¬ j = n → s' 87 j = s 87 j ∧ s' 88 j = s 88 j) ∧ ∀ c, ¬ c = 87 → ¬ c = 88 → ¬ c = 90 → s' c = s c := fun w hw => by
      refine ⟨_, rfl, ?_, ?_, fun j hj => ⟨?_, ?_⟩, fun c x1 x2 x3 => ?_⟩
      · rw [xu_o (by decide)]; exact o87
      · rw [xu_s, hw]
      · rw [xu_o (by decide)]; exact o87n j hj
      · rw [xu_n hj, o1 88 (by decide)]
      · rw [xu_o x2, o1 c x1]
    by_cases t0 : T n = 0
    · rw [if_pos ((phi_0 q2).1.mpr t0), fin]
      rw [if_pos t0] at hv
      refine key _ ?_
      rw [hv, if_neg (show ¬ (((0 : Int32) = 1 ∨ (0 : Int32) = 2) ∧ T n = 1) from fun z => by rw [t0] at z; exact absurd z.2 (by decide))]
    · rw [if_neg (show ¬ phi (T n) = 0 from fun z => t0 ((phi_0 q2).1.mp z)), g201_eq (P := P) (T := T) (V := V) hn hN (by rw [o1 70 (by decide)]; exact h70) hcm (by rw [o1 71 (by decide)]; exact j1) (fun k a b => by rw [o1 72 (by decide)]; exact hP k a b) (fun k a b => by rw [o87n k (by omega)]; exact h87 k a b) (fun k a b => by rw [o1 88 (by decide)]; exact h88 k a b)]
      dsimp only
      rw [fin]
      rw [if_neg t0] at hv
      exact key _ hv
