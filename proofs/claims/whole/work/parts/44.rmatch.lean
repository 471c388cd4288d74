/-! the reference reads a match -/
def rR (B : Nat → Int32) (L i : Nat) (s : xS) : Prop := s 53 19 = Int32.ofNat i ∧ s 53 18 = Int32.ofNat L ∧ s 69 = B ∧ L ≤ 300
def ra (s : xS) (j : Nat) : xS := xh_ui s 53 19 (Int32.ofNat j)
theorem xu_u (σ : xS) (a i : Nat) (v w : Int32) : xh_ui (xh_ui σ a i v) a i w = xh_ui σ a i w := funext fun c => by
  by_cases h : c = a
  · subst h; rw [xu_a, xu_a, xu_a, upd_upd]
  · rw [xu_o h, xu_o h, xu_o h]
theorem ra_ra (s : xS) (j k : Nat) : ra (ra s j) k = ra s k := xu_u _ _ _ _ _
theorem ra_id {B : Nat → Int32} {L i : Nat} {s : xS} (h : rR B L i s) : ra s i = s := funext fun c => by
  unfold ra
  by_cases q : c = 53
  · subst q; rw [xu_a, upd_id h.1]
  · rw [xu_o q]
theorem rR_ra {B : Nat → Int32} {L i : Nat} {s : xS} (h : rR B L i s) (j : Nat) : rR B L j (ra s j) := ⟨rfl, h.2.1, h.2.2.1, h.2.2.2⟩
theorem ra_s {B : Nat → Int32} {L i : Nat} {s : xS} (h : rR B L i s) : xh_ui s 53 19 (s 53 19 + 1) = ra s (i + 1) := by rw [h.1, x_succ]; rfl
theorem g173_eq {B : Nat → Int32} {L i : Nat} {s : xS} (h : rR B L i s) (hi : i ≤ 1000) : g173 s = some (.inl (nx B L i), s) := by
  obtain ⟨h1, h2, h3, h4⟩ := h
  unfold g173 nx
  rw [h1, h2, h3]
  by_cases q : L ≤ i
  · have q' : Int32.ofNat L ≤ Int32.ofNat i := by
      rw [Int32.le_iff_toInt_le, Int32.toInt_ofNat_of_lt (by omega), Int32.toInt_ofNat_of_lt (by omega)]; omega
    rw [if_pos q', if_pos q]
  · have q' : ¬ Int32.ofNat L ≤ Int32.ofNat i := by
      rw [Int32.le_iff_toInt_le, Int32.toInt_ofNat_of_lt (by omega), Int32.toInt_ofNat_of_lt (by omega)]; omega
    rw [if_neg q', if_neg q, xn_of (by omega) (by omega), cond_true, Int32.toNatClampNeg_ofNat_of_lt (by omega)]
theorem g175_eq {B : Nat → Int32} {L i : Nat} {s : xS} (h : rR B L i s) (hw : s 53 20 = -1) : g175 s = some (.inl 0, xh_ui s 53 20 (Int32.ofNat i)) := by
  unfold g175
  rw [hw, if_neg (by decide), h.1]
theorem g171_1 {s : xS} (hw : s 53 20 = -1) : g171 s = some (.inl 1, s) := by
  unfold g171; rw [hw, if_neg (by decide)]
theorem g178_eq (x : Int32) (σ : xS) : g178 x σ = some (.inl (xb (att x)), σ) := by
  by_cases h : (x = 76 ∨ x = 83 ∨ x = 97 ∨ x = 99 ∨ x = 104 ∨ x = 108 ∨ x = 114 ∨ x = 115 ∨ x = 117)
  · have e : att x = true := decide_eq_true h
    rw [e]
    rcases h with rfl | rfl | rfl | rfl | rfl | rfl | rfl | rfl | rfl <;> rfl
  · have e : att x = false := decide_eq_false h
    rw [e]
    simp only [not_or] at h
    obtain ⟨h1, h2, h3, h4, h5, h6, h7, h8, h9⟩ := h
    unfold g178
    simp only [h1, h2, h3, h4, h5, h6, h7, h8, h9, if_false]
    rfl
theorem g179_eq {B : Nat → Int32} {L i : Nat} {s : xS} (h : rR B L i s) (hi : i ≤ 1000) : g179 s = some (.inl (xb (isd (nx B L i))), s) := by
  unfold g179 isd
  rw [g173_eq h hi]
  dsimp only
  by_cases h1 : nx B L i < 48
  · rw [if_pos h1, decide_eq_true h1]; rfl
  · rw [if_neg h1, decide_eq_false h1, g173_eq h hi]
    dsimp only
    by_cases h2 : 57 < nx B L i
    · rw [if_pos h2, decide_eq_true h2]; rfl
    · rw [if_neg h2, decide_eq_false h2]; rfl
/-- a match more -/
def aM (M : Nat) (l s n a b : Int32) (σ : xS) : xS := xh_ui (xh_ui (xh_ui (xh_ui (xh_ui (xh_ui σ 79 (100 + M) l) 80 (100 + M) s) 81 (100 + M) n) 82 (100 + M) a) 83 (100 + M) b) 53 31 (Int32.ofNat (M + 1))
theorem g177_179_eq {M : Nat} {s : xS} (hM : s 53 31 = Int32.ofNat M) (h1 : M < 100) (a b l g n : Int32) (ha : vp_nar .boolean a = a) (hb : vp_nar .boolean b = b) : g177_179 a b (Int32.ofNat (100 + M)) l g n s = some (.inl (Int32.ofNat (100 + M)), aM M l g n a b s) := by
  have e : ∀ v w u x y, xh_ui (xh_ui (xh_ui (xh_ui (xh_ui s 79 (100 + M) v) 80 (100 + M) w) 81 (100 + M) u) 82 (100 + M) x) 83 (100 + M) y 53 31 = Int32.ofNat M := fun _ _ _ _ _ => hM
  unfold g177_179 aM
  rw [xn_of (by omega) (by omega), cond_true, Int32.toNatClampNeg_ofNat_of_lt (by omega), ha, hb, e, x_succ]
theorem isd_nat {x : Int32} (h : isd x = true) : ∃ k, 48 ≤ k ∧ k < 58 ∧ x = Int32.ofNat k := by
  unfold isd at h
  rw [Bool.and_eq_true, Bool.not_eq_true', Bool.not_eq_true', decide_eq_false_iff_not, decide_eq_false_iff_not] at h
  have a := Int32.le_iff_toInt_le.mp (Int32.not_lt.mp h.1)
  have b := Int32.le_iff_toInt_le.mp (Int32.not_lt.mp h.2)
  have z1 : (48 : Int32).toInt = 48 := by decide
  have z2 : (57 : Int32).toInt = 57 := by decide
  have z3 : (Int32.ofNat 58).toInt = 58 := by decide
  have z0 : (0 : Int32).toInt = 0 := by decide
  obtain ⟨k, hk, rfl⟩ := x_below (x := x) (k := 58) (by decide) (by rw [Int32.le_iff_toInt_le]; omega) (by rw [Int32.lt_iff_toInt_lt]; omega)
  rw [Int32.toInt_ofNat_of_lt (by omega)] at a
  exact ⟨k, by omega, hk, rfl⟩
theorem x_d1 : ∀ k, k < 58 → 48 ≤ k → (10 * 0 + Int32.ofNat k - 48 ≤ 0 ↔ Int32.ofNat k = 48) := by decide +kernel
theorem x_d2 : ∀ k, k < 58 → 48 < k → ∀ m, m < 58 → 48 ≤ m → ¬ 10 * (10 * 0 + Int32.ofNat k - 48) + Int32.ofNat m - 48 ≤ 0 := by decide +kernel
theorem g177_125_eq {B : Nat → Int32} {L i M : Nat} {s : xS} (h : rR B L i s) (hd : isd (nx B L i) = true) (hM : s 53 31 = Int32.ofNat M) (h1 : M < 100) (a b l g : Int32) (ha : vp_nar .boolean a = a) (hb : vp_nar .boolean b = b) :
    g177_125 a b (Int32.ofNat (100 + M)) l g 0 0 s = some (.inl (Int32.ofNat (100 + M)), aM M l g (pn B L i).2 a b (ra s (pn B L i).1)) := by
  have hi : i < 300 := Nat.lt_of_lt_of_le (nx_lt (isd_m1 hd)) h.2.2.2
  have r1 := rR_ra h (i + 1)
  have r2 := rR_ra h (i + 2)
  have r3 := rR_ra h (i + 3)
  have eM : ∀ j, ra s j 53 31 = Int32.ofNat M := fun _ => hM
  have w1 := ra_s h
  have w2 := ra_s r1
  have w3 := ra_s r2
  rw [ra_ra] at w2 w3
  have fin : ∀ j n, g177_179 a b (Int32.ofNat (100 + M)) l g n (ra s j) = some (.inl (Int32.ofNat (100 + M)), aM M l g n a b (ra s j)) := fun j n => g177_179_eq (eM j) h1 a b l g n ha hb
  have b0 : g177_125b a b (Int32.ofNat (100 + M)) l g 0 0 s = some (.inl (a, b, Int32.ofNat (100 + M), l, g, 10 * 0 + nx B L i - 48, 1, ra s (i + 1))) := by
    have n3 : ¬ (3 : Int32) ≤ 0 := by decide
    simp only [g177_125b, g179_eq h (by omega), hd, xb_t, x10, if_false, if_neg n3, if_true, g177_148, g173_eq h (by omega), w1]
    rfl
  have n31 : ¬ (3 : Int32) ≤ 1 := by decide
  have n32 : ¬ (3 : Int32) ≤ 2 := by decide
  unfold g177_125 pn
  rw [xlo_step (a := (a, b, Int32.ofNat (100 + M), l, g, 0, 0, s)) b0]
  obtain ⟨k, k1, k2, k3⟩ := isd_nat hd
  cases d1 : isd (nx B L (i + 1)) with
  | false =>
    have e1 : ∀ x, g177_125b a b (Int32.ofNat (100 + M)) l g x 1 (ra s (i + 1)) = some (.inr (.inl (Int32.ofNat (100 + M)), aM M l g x a b (ra s (i + 1)))) := fun x => by
      simp only [g177_125b, g179_eq r1 (by omega), d1, xb_f, if_true, fin]
      rfl
    rw [xlo_end (a := (a, b, Int32.ofNat (100 + M), l, g, _, 1, ra s (i + 1))) (e1 _)]
    by_cases q : nx B L i = 48
    · rw [if_pos q]
    · rw [if_neg q]; rfl
  | true =>
    by_cases q : nx B L i = 48
    · have q' : 10 * 0 + nx B L i - 48 ≤ 0 := by rw [k3] at q ⊢; exact (x_d1 k k2 k1).mpr q
      have e1 : g177_125b a b (Int32.ofNat (100 + M)) l g (10 * 0 + nx B L i - 48) 1 (ra s (i + 1)) = some (.inr (.inl (Int32.ofNat (100 + M)), aM M l g (10 * 0 + nx B L i - 48) a b (ra s (i + 1)))) := by
        simp only [g177_125b, g179_eq r1 (by omega), d1, xb_t, x10, if_false, if_neg n31, if_pos q', fin]
        rfl
      rw [xlo_end (a := (a, b, Int32.ofNat (100 + M), l, g, _, 1, ra s (i + 1))) e1, if_pos q]
    · have q' : ¬ 10 * 0 + nx B L i - 48 ≤ 0 := by rw [k3] at q ⊢; exact fun z => q ((x_d1 k k2 k1).mp z)
      have hk48 : 48 < k := by
        have : ¬ k = 48 := fun z => q (by rw [k3, z]; rfl)
        omega
      have e1 : g177_125b a b (Int32.ofNat (100 + M)) l g (10 * 0 + nx B L i - 48) 1 (ra s (i + 1)) = some (.inl (a, b, Int32.ofNat (100 + M), l, g, 10 * (10 * 0 + nx B L i - 48) + nx B L (i + 1) - 48, 2, ra s (i + 2))) := by
        simp only [g177_125b, g179_eq r1 (by omega), d1, xb_t, x10, if_false, if_neg n31, if_neg q', g177_148, g173_eq r1 (by omega), w2]
        rfl
      rw [xlo_step (a := (a, b, Int32.ofNat (100 + M), l, g, _, 1, ra s (i + 1))) e1, if_neg q]
      obtain ⟨m, m1, m2, m3⟩ := isd_nat d1
      cases d2 : isd (nx B L (i + 2)) with
      | false =>
        have e2 : ∀ x, g177_125b a b (Int32.ofNat (100 + M)) l g x 2 (ra s (i + 2)) = some (.inr (.inl (Int32.ofNat (100 + M)), aM M l g x a b (ra s (i + 2)))) := fun x => by
          simp only [g177_125b, g179_eq r2 (by omega), d2, xb_f, if_true, fin]
          rfl
        rw [xlo_end (a := (a, b, Int32.ofNat (100 + M), l, g, _, 2, ra s (i + 2))) (e2 _)]
        rfl
      | true =>
        have q2 : ¬ 10 * (10 * 0 + nx B L i - 48) + nx B L (i + 1) - 48 ≤ 0 := by rw [k3, m3]; exact x_d2 k k2 hk48 m m2 m1
        have n20 : ¬ (2 : Int32) = 0 := by decide
        have e2 : g177_125b a b (Int32.ofNat (100 + M)) l g (10 * (10 * 0 + nx B L i - 48) + nx B L (i + 1) - 48) 2 (ra s (i + 2)) = some (.inl (a, b, Int32.ofNat (100 + M), l, g, 10 * (10 * (10 * 0 + nx B L i - 48) + nx B L (i + 1) - 48) + nx B L (i + 2) - 48, 3, ra s (i + 3))) := by
          simp only [g177_125b, g179_eq r2 (by omega), d2, xb_t, x10, if_false, if_neg n32, if_neg n20, if_neg q2, g177_148, g173_eq r2 (by omega), w3]
          rfl
        have e3 : ∀ x, g177_125b a b (Int32.ofNat (100 + M)) l g x 3 (ra s (i + 3)) = some (.inr (.inl (Int32.ofNat (100 + M)), aM M l g x a b (ra s (i + 3)))) := fun x => by
          cases d3 : isd (nx B L (i + 3)) with
          | false =>
            simp only [g177_125b, g179_eq r3 (by omega), d3, xb_f, if_true, fin]
            rfl
          | true =>
            simp only [g177_125b, g179_eq r3 (by omega), d3, xb_t, x10, if_false, if_pos (Int32.le_refl 3), fin]
            rfl
        rw [xlo_step (a := (a, b, Int32.ofNat (100 + M), l, g, _, 2, ra s (i + 2))) e2, xlo_end (a := (a, b, Int32.ofNat (100 + M), l, g, _, 3, ra s (i + 3))) (e3 _)]
        rfl
/-- the reference reads a match -/
theorem g177_eq {B : Nat → Int32} {L i M : Nat} {s : xS} (h : rR B L i s) (hi : i ≤ 300) (hw : s 53 20 = -1) (hM : s 53 31 = Int32.ofNat M) (h1 : M < 100) (a b : Int32) (ha : vp_nar .boolean a = a) (hb : vp_nar .boolean b = b) :
    g177 a b s = some (bif (pm B L i).1 then (.inl (Int32.ofNat (100 + M)), aM M (pm B L i).2.2.1 (pm B L i).2.2.2.1 (pm B L i).2.2.2.2 a b (ra s (pm B L i).2.1)) else (.inl 0, xh_ui (ra s (pm B L i).2.1) 53 20 (Int32.ofNat (pm B L i).2.1))) := by
  have r1 := rR_ra h (i + 1)
  have r2 := rR_ra h (i + 2)
  have w1 := ra_s h
  have w2 := ra_s r1
  rw [ra_ra] at w2
  have h100 : 100 + Int32.ofNat M = Int32.ofNat (100 + M) := by rw [Int32.ofNat_add]; rfl
  unfold pm
  cases at' : att (nx B L i) with
  | false =>
    simp only [g177, g173_eq h (by omega), g178_eq, at', xb_f, if_true, g175_eq h hw, cond_false]
    rw [ra_id h]
  | true =>
    have k79 : g177_79 a b (Int32.ofNat (100 + M)) (nx B L i) (nx B L (i + 1)) (ra s (i + 1)) = some (bif isd (nx B L (i + 2)) then (.inl (Int32.ofNat (100 + M)), aM M (nx B L i) (nx B L (i + 1)) (pn B L (i + 2)).2 a b (ra s (pn B L (i + 2)).1)) else (.inl 0, xh_ui (ra s (i + 2)) 53 20 (Int32.ofNat (i + 2)))) := by
      cases d : isd (nx B L (i + 2)) with
      | false => simp only [g177_79, g177_84, x10, if_false, w2, g177_101, g179_eq r2 (by omega), d, xb_f, if_true, g177_113, g175_eq r2 hw, cond_false]
      | true =>
        have e := g177_125_eq (s := ra s (i + 2)) r2 d hM h1 a b (nx B L i) (nx B L (i + 1)) ha hb
        rw [ra_ra] at e
        simp only [g177_79, g177_84, x10, if_false, w2, g177_101, g179_eq r2 (by omega), d, xb_t, e, cond_true]
    have k83 : g177_83 a b (Int32.ofNat (100 + M)) (nx B L i) (nx B L (i + 1)) (ra s (i + 1)) = some (.inl 0, xh_ui (ra s (i + 1)) 53 20 (Int32.ofNat (i + 1))) := by
      simp only [g177_83, g177_84, if_true, g177_101, g177_113, g175_eq r1 hw]
    have k0 : g177 a b s = (if nx B L (i + 1) = 61 then g177_79 a b (Int32.ofNat (100 + M)) (nx B L i) (nx B L (i + 1)) (ra s (i + 1)) else (if nx B L (i + 1) = 60 then g177_65 a b (Int32.ofNat (100 + M)) (nx B L i) (nx B L (i + 1)) (ra s (i + 1)) else (if nx B L (i + 1) = 62 then g177_65 a b (Int32.ofNat (100 + M)) (nx B L i) (nx B L (i + 1)) (ra s (i + 1)) else g177_83 a b (Int32.ofNat (100 + M)) (nx B L i) (nx B L (i + 1)) (ra s (i + 1))))) := by
      simp only [g177, g173_eq h (by omega), g178_eq, at', xb_t, x10, if_false, w1, g173_eq r1 (by omega), hM, h100]
    rw [k0]
    unfold sgn
    by_cases s1 : nx B L (i + 1) = 61
    · rw [if_pos s1, decide_eq_true (Or.inl s1), k79]
      cases isd (nx B L (i + 2)) <;> simp only [cond_true, cond_false]
    · rw [if_neg s1]
      by_cases c1 : nx B L i = 114 ∨ nx B L i = 117
      · have k65 : g177_65 a b (Int32.ofNat (100 + M)) (nx B L i) (nx B L (i + 1)) (ra s (i + 1)) = g177_83 a b (Int32.ofNat (100 + M)) (nx B L i) (nx B L (i + 1)) (ra s (i + 1)) := by
          unfold g177_65
          by_cases c2 : nx B L i = 114
          · rw [if_pos c2]
          · rw [if_neg c2, if_pos (c1.resolve_left c2)]
        rw [k65, decide_eq_false (fun q => by
          rcases q with q | ⟨q, q1, q2⟩
          · exact s1 q
          · rcases c1 with c1 | c1
            · exact q1 c1
            · exact q2 c1), k83]
        by_cases s2 : nx B L (i + 1) = 60
        · rw [if_pos s2]; simp only [cond_true, cond_false]
        · rw [if_neg s2]
          by_cases s3 : nx B L (i + 1) = 62
          · rw [if_pos s3]; simp only [cond_true, cond_false]
          · rw [if_neg s3]; simp only [cond_true, cond_false]
      · have c1a : ¬ nx B L i = 114 := fun q => c1 (Or.inl q)
        have c1b : ¬ nx B L i = 117 := fun q => c1 (Or.inr q)
        have k65 : g177_65 a b (Int32.ofNat (100 + M)) (nx B L i) (nx B L (i + 1)) (ra s (i + 1)) = g177_79 a b (Int32.ofNat (100 + M)) (nx B L i) (nx B L (i + 1)) (ra s (i + 1)) := by
          unfold g177_65
          rw [if_neg c1a, if_neg c1b]
        rw [k65, k79, k83]
        by_cases s2 : nx B L (i + 1) = 60
        · rw [if_pos s2, decide_eq_true (Or.inr ⟨Or.inl s2, c1a, c1b⟩)]
          cases isd (nx B L (i + 2)) <;> simp only [cond_true, cond_false]
        · rw [if_neg s2]
          by_cases s3 : nx B L (i + 1) = 62
          · rw [if_pos s3, decide_eq_true (Or.inr ⟨Or.inr s3, c1a, c1b⟩)]
            cases isd (nx B L (i + 2)) <;> simp only [cond_true, cond_false]
          · rw [if_neg s3, decide_eq_false (fun q => by
              rcases q with q | ⟨q | q, q1, q2⟩
              · exact s1 q
              · exact s2 q
              · exact s3 q)]
            simp only [cond_true, cond_false]
