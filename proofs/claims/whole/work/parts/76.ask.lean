/-! request: class and reference -/
def perf (ac x d : Int32) : Int32 := if ac = 1 then d else if ac = 2 then x + d else x
theorem g140_eq {ob : Nat} (hob : ob < 16) (ac d : Int32) (σ : xS) : ∃ σ', g140 ac (Int32.ofNat ob) d σ = some (.inl (perf ac (σ 19 ob) d), σ') ∧ σ' 19 = upd (σ 19) ob (perf ac (σ 19 ob) d) ∧ ∀ c, ¬ c = 19 → σ' c = σ c := by
  obtain ⟨o2, o3⟩ := x16 ob hob
  unfold g140 g140_30 perf
  rw [o2, o3]
  simp only [cond_true]
  by_cases a1 : ac = 1
  · rw [if_pos a1, if_pos a1]
    exact ⟨_, by rw [xu_s], xu_a _ _ _ _, fun c hc => xu_o hc⟩
  · rw [if_neg a1, if_neg a1]
    by_cases a2 : ac = 2
    · rw [if_pos a2, if_pos a2]
      exact ⟨_, by rw [xu_s], xu_a _ _ _ _, fun c hc => xu_o hc⟩
    · rw [if_neg a2, if_neg a2]
      exact ⟨σ, rfl, (upd_id rfl).symm, fun _ _ => rfl⟩
theorem g207_118_eq {ob : Nat} (hob : ob < 16) (ac d : Int32) (s : xS) : ∃ s', g207_118 d ac (Int32.ofNat ob) 1 0 s = some (.inl (perf ac (s 68 ob) d), s') ∧ s' 68 = upd (s 68) ob (perf ac (s 68 ob) d) ∧ s' 53 = upd (s 53) 21 0 ∧ ∀ c, ¬ c = 68 → ¬ c = 53 → s' c = s c := by
  obtain ⟨o2, o3⟩ := x16 ob hob
  unfold g207_118 g207_143 g207_161 perf
  rw [if_neg x1n, o2, o3]
  simp only [cond_true]
  by_cases a1 : ac = 1
  · have a2 : ¬ ac = 2 := by rw [a1]; decide
    rw [if_pos a1, if_pos a1, if_neg a2]
    exact ⟨_, by rw [xu_s], by rw [xu_a, xu_o (by decide)], by rw [xu_o (by decide), xu_a], fun c h1 h2 => by rw [xu_o h1, xu_o h2]⟩
  · rw [if_neg a1, if_neg a1]
    by_cases a2 : ac = 2
    · rw [if_pos a2, if_pos a2, xu_o (show ¬ 68 = 53 by decide)]
      exact ⟨_, by rw [xu_s], by rw [xu_a, xu_o (by decide)], by rw [xu_o (by decide), xu_a], fun c h1 h2 => by rw [xu_o h1, xu_o h2]⟩
    · rw [if_neg a2, if_neg a2, xu_o (show ¬ 68 = 53 by decide)]
      exact ⟨_, rfl, by rw [xu_o (by decide), upd_id rfl], xu_a _ _ _ _, fun c h1 h2 => xu_o h2⟩
/-- the class writes and performs -/
theorem c_req {p n ob : Nat} (hn : n < 700) (hob : ob < 16) {σ : xS} (h1 : σ 51 1 = Int32.ofNat n) (d ac : Int32) (ok : Bool) (x1 x4 x5 : Int32) :
    ∃ σ', g136_108 p x1 d ac (Int32.ofNat ob) x4 x5 (xb ok) σ = (bif ok then some (.inl (perf ac (σ 19 ob) d), σ') else some (.inr 2, σ')) ∧ σ' 52 = bk (σ 52) n x1 ac (Int32.ofNat ob) x4 x5 (xb ok) (σ 51 3) ∧ σ' 51 1 = Int32.ofNat (n + 1) ∧ σ' 51 2 = (if n < 40 then σ 51 2 else σ 52 (7 * (n % 40) + 6)) ∧ σ' 51 3 = bk (σ 52) n x1 ac (Int32.ofNat ob) x4 x5 (xb ok) (σ 51 3) (7 * (n % 40) + 6) ∧ σ' 19 = (bif ok then upd (σ 19) ob (perf ac (σ 19 ob) d) else σ 19) ∧ ∀ c, ¬ c = 51 → ¬ c = 52 → ¬ c = 19 → σ' c = σ c := by
  unfold g136_108 g136_133
  cases ok with
  | false =>
    obtain ⟨σ1, a1, a2, a3, a4, a5, a6⟩ := g139_eq hn h1 x1 ac (Int32.ofNat ob) x4 x5 0
    rw [show xb false = 0 from rfl, if_pos x0p, a1]
    dsimp only
    rw [if_pos x0p]
    exact ⟨σ1, rfl, a2, a3, a4, a5, a6 19 (by decide) (by decide), fun c y1 y2 _ => a6 c y1 y2⟩
  | true =>
    obtain ⟨σ1, a1, a2, a3, a4, a5, a6⟩ := g139_eq hn h1 x1 ac (Int32.ofNat ob) x4 x5 1
    obtain ⟨σ2, b1, b2, b3⟩ := g140_eq hob ac d σ1
    rw [a6 19 (by decide) (by decide)] at b1 b2
    rw [show xb true = 1 from rfl, if_neg x1n, a1]
    dsimp only
    rw [if_neg x1n, b1]
    exact ⟨σ2, rfl, by rw [b3 52 (by decide)]; exact a2, by rw [b3 51 (by decide)]; exact a3, by rw [b3 51 (by decide)]; exact a4, by rw [b3 51 (by decide)]; exact a5, b2, fun c y1 y2 y3 => by rw [b3 c y3, a6 c y1 y2]⟩
/-- the reference writes and performs -/
theorem r_req {n ob : Nat} (hn : n < 700) (hob : ob < 16) {s : xS} (h1 : s 53 51 = Int32.ofNat n) (d ac : Int32) (ok : Bool) (x1 x4 x5 : Int32) {L : Int32} (hL : L = if n = 0 then s 53 52 else s 91 (7 * ((n - 1) % 40) + 6)) :
    ∃ s', g207_90 x1 d ac (Int32.ofNat ob) x4 x5 (xb ok) s = some (.inl (bif ok then perf ac (s 68 ob) d else 0), s') ∧ s' 53 21 = (bif ok then 0 else 3) ∧ s' 91 = bk (s 91) n x1 ac (Int32.ofNat ob) x4 x5 (xb ok) L ∧ s' 53 51 = Int32.ofNat (n + 1) ∧ s' 53 52 = (if n < 40 then s 53 52 else s 91 (7 * (n % 40) + 6)) ∧ s' 68 = (bif ok then upd (s 68) ob (perf ac (s 68 ob) d) else s 68) ∧ (∀ j, ¬ j = 21 → ¬ j = 51 → ¬ j = 52 → s' 53 j = s 53 j) ∧ ∀ c, ¬ c = 53 → ¬ c = 91 → ¬ c = 68 → s' c = s c := by
  obtain ⟨s1, a1, a2, a3, a4, a5, a6⟩ := g209_eq hn h1 x1 ac (Int32.ofNat ob) x4 x5 ok hL
  unfold g207_90
  rw [a1]
  dsimp only
  cases ok with
  | false =>
    rw [show xb false = 0 from rfl, if_pos x0p]
    unfold g207_118
    rw [if_pos x0p]
    exact ⟨_, rfl, xu_s _ _ _ _, by rw [xu_o (by decide)]; exact a2, by rw [xu_n (by decide)]; exact a3, by rw [xu_n (by decide)]; exact a4, by rw [xu_o (by decide)]; exact a6 68 (by decide) (by decide), fun j y1 y2 y3 => by rw [xu_n y1]; exact a5 j y2 y3, fun c y1 y2 _ => by rw [xu_o y1]; exact a6 c y1 y2⟩
  | true =>
    rw [show xb true = 1 from rfl, if_neg x1n]
    obtain ⟨s2, b1, b2, b3, b4⟩ := g207_118_eq hob ac d s1
    rw [a6 68 (by decide) (by decide)] at b1 b2
    exact ⟨s2, b1, by rw [b3, upd_s]; rfl, by rw [b4 91 (by decide) (by decide)]; exact a2, by rw [b3, upd_n (by decide)]; exact a3, by rw [b3, upd_n (by decide)]; exact a4, b2, fun j y1 y2 y3 => by rw [b3, upd_n y1]; exact a5 j y2 y3, fun c y1 y2 y3 => by rw [b4 c y3 y1]; exact a6 c y1 y2⟩
theorem wI_req {t p : Nat} {σ s : xS} (h : wI t σ p) (hc : ∀ c, ¬ c = 35 → ¬ (47 ≤ c ∧ c ≤ 53) → ¬ (87 ≤ c ∧ c ≤ 91) → ¬ c = 10 → ¬ c = 19 → ¬ c = 61 → ¬ c = 68 → s c = σ c) (h53 : ∀ j, ¬ j = 21 → ¬ (42 ≤ j ∧ j ≤ 45) → ¬ j = 51 → ¬ j = 52 → s 53 j = σ 53 j) (hH : wKH (t + 1) s) (h10 : ∀ i, i < 6 → σ 10 i = σ 61 i → s 10 i = s 61 i) (h19 : s 19 = s 68) : wI (t + 1) s p := by
  have k : ∀ c, (1 ≤ c ∧ c ≤ 9) ∨ (11 ≤ c ∧ c ≤ 18) ∨ (20 ≤ c ∧ c ≤ 22) ∨ (36 ≤ c ∧ c ≤ 46) ∨ (23 ≤ c ∧ c ≤ 33) ∨ c = 0 ∨ (54 ≤ c ∧ c ≤ 60) ∨ (62 ≤ c ∧ c ≤ 67) ∨ (69 ≤ c ∧ c ≤ 84) → s c = σ c := fun c x => hc c (by omega) (by omega) (by omega) (by omega) (by omega) (by omega) (by omega)
  obtain ⟨⟨hA, hB, hC, hD, hE, hF, hG, -⟩, hJ, hp⟩ := h
  refine ⟨⟨?_, ?_, ?_, ?_, ?_, ?_, ?_, hH⟩, wJ_fr hp hJ (fun c x y => k c (by omega)) ⟨by rw [k 70 (by omega)], fun c x y j _ => by rw [k c (by omega)], fun c x y j _ => by rw [k c (by omega)], fun j _ => by rw [k 84 (by omega)]⟩, hp⟩
  · unfold wKA at hA ⊢; rw [k 2 (by omega), k 54 (by omega)]; exact hA
  · unfold wKB at hB ⊢; rw [k 4 (by omega), k 55 (by omega), k 5 (by omega), k 56 (by omega), k 6 (by omega), k 57 (by omega)]; exact hB
  · intro i hi
    rw [k 58 (by omega), k 8 (by omega), k 9 (by omega), k 60 (by omega), k 59 (by omega)]
    rcases hC i hi with x | ⟨x1, x2, x3, x4, x5⟩
    · exact Or.inl x
    · exact Or.inr ⟨x1, x2, x3, h10 i hi x4, x5⟩
  · unfold wKD at hD ⊢; rw [k 11 (by omega), h53 8 (by omega) (by omega) (by omega) (by omega), k 12 (by omega), k 62 (by omega), k 13 (by omega), k 63 (by omega), k 14 (by omega), k 64 (by omega)]; exact hD
  · unfold wKE at hE ⊢; rw [k 16 (by omega), k 65 (by omega), k 17 (by omega), k 66 (by omega), k 18 (by omega), k 67 (by omega)]; exact ⟨hE.1, hE.2.1, hE.2.2.1, hE.2.2.2.1, h19⟩
  · unfold wKF at hF ⊢; rw [k 22 (by omega), k 69 (by omega), k 21 (by omega), h53 17 (by omega) (by omega) (by omega) (by omega)]; exact hF
  · unfold wKG at hG ⊢; rw [k 0 (by omega), h53 20 (by omega) (by omega) (by omega) (by omega)]; exact hG
theorem x_rng {k n : Nat} (hn : n < 1000) (h : k < n) : 0 ≤ Int32.ofNat k ∧ Int32.ofNat k < Int32.ofNat n := by
  have z : (0 : Int32).toInt = 0 := by decide
  rw [Int32.le_iff_toInt_le, Int32.lt_iff_toInt_lt, z, Int32.toInt_ofNat_of_lt (by omega), Int32.toInt_ofNat_of_lt (by omega)]; omega
theorem op16 {t p : Nat} {σ : xS} (h : wI t σ p) (ht : t < 700) (a b c d : Int32) (τ : xT) : ∃ e s τ' v s', g135 p a b c d σ τ = some (e, s, τ') ∧ g207 a b c d s = some (.inl v, s') ∧ s' 53 21 = e ∧ (e = 0 → τ' 92 0 = Int32.toInt64 v) ∧ wI (t + 1) s' p := by
  by_cases hall : (0 ≤ a ∧ a < 6) ∧ (0 ≤ b ∧ b < 160) ∧ (0 ≤ c ∧ c < 24)
  · obtain ⟨se, hse, rfl⟩ := x_below (k := 6) (by decide) hall.1.1 hall.1.2
    obtain ⟨m, hm, rfl⟩ := x_below (k := 160) (by decide) hall.2.1.1 hall.2.1.2
    obtain ⟨t1, t2, t3, t4⟩ := tg hm
    have hac : m / 16 < 10 := by omega
    have hob : m % 16 < 16 := by omega
    have hall2 : (0 ≤ Int32.ofNat se ∧ Int32.ofNat se < 6) ∧ (0 ≤ Int32.ofNat (m / 16) ∧ Int32.ofNat (m / 16) < 10) ∧ (0 ≤ Int32.ofNat (m % 16) ∧ Int32.ofNat (m % 16) < 16) ∧ (0 ≤ c ∧ c < 24) := ⟨hall.1, x_rng (n := 10) (by omega) hac, x_rng (n := 16) (by omega) hob, hall.2.2⟩
    obtain ⟨-, h2, h3, -⟩ := x6 se hse
    rcases h.1.2.2.1 se hse with ⟨c1, c2, c3⟩ | ⟨c1, c2, c3, c4, u, c5, c6, c7⟩
    · refine ⟨2, σ, τ, 0, xh_ui σ 53 21 2, ?_, ?_, xu_s _ _ _ _, fun q => absurd q (by decide), wI_say h 2⟩
      · unfold g135
        rw [g136_b, if_pos hall]
        simp only [g136_31, g26_1, g44, h2, cond_true, h3, c2, if_true, g31_0, n10, n11, if_false]
      · unfold g207
        rw [t3, t4, g190_b, if_pos hall2]
        simp only [g190_42, x10, if_false, h2, cond_true, h3, c1, x00, if_true, xu_s, x20]
    · obtain ⟨w, D, σ1, v1, v2, v3, v4, v5, v6⟩ := verdict h.2.2 h.1.1 h.1.2.1 h.1.2.2.2.2.1 h.2.1 hse hob c5 c2 c3 c6 c7 (Int32.ofNat (m / 16)) c
      obtain ⟨q1, q2⟩ := vd v3 v4
      obtain ⟨hb1, hb2, n, hb3, hb4, hb5, hb6⟩ := h.1.2.2.2.2.2.2.2
      have e1 : ∀ c, ¬ c = 35 → ¬ (47 ≤ c ∧ c ≤ 50) → σ1 c = σ c := fun c x y => v2 c x (by omega) (by omega) (by omega) (by omega)
      have n10' : σ1 10 se = σ 10 se := by rw [e1 10 (by omega) (by omega)]
      -- whether it is done, and what is counted
      have hok : ∃ (ok bm : Bool) (σ2 : xS), (if w = 1 then (match g137 (Int32.ofNat se) D c σ1 with | some (Sum.inl v18, s19) => (if v18 = 0 then g136_107 p (Int32.ofNat se) d (Int32.ofNat (m / 16)) (Int32.ofNat (m % 16)) w D s19 else g136_108 p (Int32.ofNat se) d (Int32.ofNat (m / 16)) (Int32.ofNat (m % 16)) w D 1 s19) | some (Sum.inr v18, s19) => none | none => none) else g136_107 p (Int32.ofNat se) d (Int32.ofNat (m / 16)) (Int32.ofNat (m % 16)) w D σ1) = g136_108 p (Int32.ofNat se) d (Int32.ofNat (m / 16)) (Int32.ofNat (m % 16)) w D (xb ok) σ2 ∧ (∀ c, ¬ c = 10 → σ2 c = σ1 c) ∧ σ2 10 = (bif bm then upd (σ 10) se (σ 10 se + 1) else σ 10) ∧
          ∀ s : xS, s 61 se = σ 10 se → ∃ s', g207_66 (Int32.ofNat se) c d (Int32.ofNat (m / 16)) (Int32.ofNat (m % 16)) w D s = g207_90 (Int32.ofNat se) d (Int32.ofNat (m / 16)) (Int32.ofNat (m % 16)) w D (xb ok) s' ∧ (∀ c, ¬ c = 61 → s' c = s c) ∧ s' 61 = (bif bm then upd (s 61) se (s 61 se + 1) else s 61) := by
        by_cases w1 : w = 1
        · refine ⟨ful D c (σ 10 se), cnt4 D c (σ 10 se), bif cnt4 D c (σ 10 se) then xh_ui σ1 10 se (σ1 10 se + 1) else σ1, ?_, ?_, ?_, fun s hs => ⟨bif cnt4 D c (σ 10 se) then xh_ui s 61 se (s 61 se + 1) else s, ?_, ?_, ?_⟩⟩
          · rw [if_pos w1, g137_eq hse v4, n10']
            dsimp only
            unfold g136_107
            cases ful D c (σ 10 se) <;> rfl
          · intro x hc
            cases cnt4 D c (σ 10 se)
            · rfl
            · exact xu_o hc
          · rw [n10']
            cases cnt4 D c (σ 10 se)
            · rw [cond_false, cond_false, e1 10 (by omega) (by omega)]
            · rw [cond_true, cond_true, xu_a, e1 10 (by omega) (by omega)]
          · unfold g207_66 g207_89
            rw [if_pos w1, g208_eq hse v4, hs]
            dsimp only
            cases ful D c (σ 10 se) <;> rfl
          · intro x hc
            cases cnt4 D c (σ 10 se)
            · rfl
            · exact xu_o hc
          · cases cnt4 D c (σ 10 se)
            · rfl
            · rw [cond_true, cond_true, xu_a]
        · refine ⟨false, false, σ1, ?_, fun _ _ => rfl, ?_, fun s hs => ⟨s, ?_, fun _ _ => rfl, rfl⟩⟩
          · rw [if_neg w1]; rfl
          · rw [cond_false, e1 10 (by omega) (by omega)]
          · unfold g207_66 g207_89
            rw [if_neg w1]; rfl
      obtain ⟨ok, bm, σ2, k1, k2, k3, k4⟩ := hok
      have f2 : ∀ c, ¬ c = 35 → ¬ (47 ≤ c ∧ c ≤ 50) → ¬ c = 10 → σ2 c = σ c := fun c x y z => by rw [k2 c z, e1 c x y]
      obtain ⟨σ3, l1, l2, l3, l4, l5, l6, l7⟩ := c_req (p := p) (n := n) (ob := m % 16) (σ := σ2) (by omega) hob (by rw [f2 51 (by omega) (by omega) (by omega)]; exact hb4) d (Int32.ofNat (m / 16)) ok (Int32.ofNat se) w D
      have eg : g136 p (Int32.ofNat se) (Int32.ofNat m) c d σ = (bif ok then some (.inl (perf (Int32.ofNat (m / 16)) (σ2 19 (m % 16)) d), σ3) else some (.inr 2, σ3)) := by
        have t2' : Int32.ofNat m - Int32.ofNat (m / 16) * 16 = Int32.ofNat (m % 16) := by rw [t1] at t2; exact t2
        have q2' : w + 10 * D - D * 10 = w := by rw [q1] at q2; exact q2
        rw [← l1, ← k1, g136_b, if_pos hall]
        simp only [g136_31, g26_1, g44, h2, cond_true, h3, c6, xo_ne u c5, if_false, g31_1, t1, t2', v1, q1, q2']
        rw [g137_eq hse v4]
      have f3 : ∀ c, ¬ c = 35 → ¬ (47 ≤ c ∧ c ≤ 52) → ¬ c = 10 → ¬ c = 19 → σ3 c = σ c := fun c x y z y2 => by rw [l7 c (by omega) (by omega) y2, f2 c x (by omega) z]
      -- the reference
      obtain ⟨s1, y1, y2, y3, y4⟩ := v6 (xh_ui σ3 53 21 0) (fun c x x1 x2 x3 x4 => by rw [xu_o x, l7 c x3 x4 x2, k2 c x1])
      have e58 : σ3 58 se = 1 := by rw [f3 58 (by omega) (by omega) (by omega) (by omega)]; exact c1
      have hr : ∃ s2, g207 (Int32.ofNat se) (Int32.ofNat m) c d σ3 = g207_66 (Int32.ofNat se) c d (Int32.ofNat (m / 16)) (Int32.ofNat (m % 16)) w D s2 ∧ ∀ c, ¬ c = 89 → s2 c = s1 c := by
        have er : g207 (Int32.ofNat se) (Int32.ofNat m) c d σ3 = (if w = 1 then g207_58 (Int32.ofNat se) c d (Int32.ofNat (m / 16)) (Int32.ofNat (m % 16)) w s1 else (if w = 2 then g207_58 (Int32.ofNat se) c d (Int32.ofNat (m / 16)) (Int32.ofNat (m % 16)) w s1 else g207_66 (Int32.ofNat se) c d (Int32.ofNat (m / 16)) (Int32.ofNat (m % 16)) w 0 s1)) := by
          unfold g207
          rw [t3, t4, g190_b, if_pos hall2]
          simp only [g190_42, x10, if_false, h2, cond_true, h3, e58, xu_s, x00, if_true, y1]
        by_cases w12 : w = 1 ∨ w = 2
        · obtain ⟨s2, z1, z2⟩ := y4 w12
          refine ⟨s2, ?_, z2⟩
          have e58' : g207_58 (Int32.ofNat se) c d (Int32.ofNat (m / 16)) (Int32.ofNat (m % 16)) w s1 = g207_66 (Int32.ofNat se) c d (Int32.ofNat (m / 16)) (Int32.ofNat (m % 16)) w D s2 := by
            unfold g207_58
            rw [z1]
          rw [er, e58']
          rcases w12 with z | z
          · rw [if_pos z]
          · rw [if_neg (show ¬ w = 1 by rw [z]; decide), if_pos z]
        · refine ⟨s1, ?_, fun _ _ => rfl⟩
          rw [er, if_neg (show ¬ w = 1 from fun z => w12 (Or.inl z)), if_neg (show ¬ w = 2 from fun z => w12 (Or.inr z)), v5 (fun z => w12 (Or.inl z)) (fun z => w12 (Or.inr z))]
      obtain ⟨s2, r1, r2⟩ := hr
      have s2c : ∀ c, ¬ c = 53 → ¬ (87 ≤ c ∧ c ≤ 90) → s2 c = σ3 c := fun c x y => by rw [r2 c (by omega), y2 c x (by omega) (by omega) (by omega), xu_o x]
      have s2j : ∀ j, ¬ j = 21 → ¬ (42 ≤ j ∧ j ≤ 45) → s2 53 j = σ 53 j := fun j x y => by rw [r2 53 (by omega), y3 j (by omega), xu_n x, f3 53 (by omega) (by omega) (by omega) (by omega)]
      obtain ⟨s3, o1, o2, o3⟩ := k4 s2 (by rw [s2c 61 (by omega) (by omega), f3 61 (by omega) (by omega) (by omega) (by omega)]; exact c4.symm)
      have s3j : ∀ j, ¬ j = 21 → ¬ (42 ≤ j ∧ j ≤ 45) → s3 53 j = σ 53 j := fun j x y => by rw [o2 53 (by omega)]; exact s2j j x y
      have s391 : s3 91 = σ 52 := by rw [o2 91 (by omega), s2c 91 (by omega) (by omega), f3 91 (by omega) (by omega) (by omega) (by omega)]; exact hb1.symm
      have s368 : s3 68 = σ 19 := by rw [o2 68 (by omega), s2c 68 (by omega) (by omega), f3 68 (by omega) (by omega) (by omega) (by omega)]; exact h.1.2.2.2.2.1.2.2.2.2.symm
      have hL : σ 51 3 = if n = 0 then s3 53 52 else s3 91 (7 * ((n - 1) % 40) + 6) := by
        rw [s3j 52 (by omega) (by omega), s391, hb1]; exact hb6
      obtain ⟨s4, u1, u2, u3, u4, u5, u6, u7, u8⟩ := r_req (n := n) (ob := m % 16) (s := s3) (by omega) hob (by rw [s3j 51 (by omega) (by omega)]; exact hb5) d (Int32.ofNat (m / 16)) ok (Int32.ofNat se) w D hL
      rw [s391] at u3 u5
      rw [s368] at u1 u6
      rw [s3j 52 (by omega) (by omega)] at u5
      have g2_51 : σ2 51 = σ 51 := f2 51 (by omega) (by omega) (by omega)
      have g2_52 : σ2 52 = σ 52 := f2 52 (by omega) (by omega) (by omega)
      have g2_19 : σ2 19 = σ 19 := f2 19 (by omega) (by omega) (by omega)
      rw [g2_51, g2_52] at l2 l4 l5
      rw [g2_19] at l6 eg
      have w4 : ∀ c, ¬ c = 53 → ¬ (87 ≤ c ∧ c ≤ 91) → ¬ c = 61 → ¬ c = 68 → s4 c = σ3 c := fun c x y z y2 => by rw [u8 c x (by omega) y2, o2 c z, s2c c x (by omega)]
      have hI : wI (t + 1) s4 p := by
        refine wI_req h (fun c x1 x2 x3 x4 x5 x6 x7 => ?_) (fun j x1 x2 x3 x4 => ?_) ?_ (fun i hi e => ?_) ?_
        · rw [w4 c (by omega) (by omega) x6 x7, f3 c x1 (by omega) x4 x5]
        · rw [u7 j x1 x3 x4, s3j j x1 x2]
        · refine ⟨?_, ?_, n + 1, by omega, ?_, u4, ?_⟩
          · rw [w4 52 (by omega) (by omega) (by omega) (by omega), l2, u3]
          · rw [w4 51 (by omega) (by omega) (by omega) (by omega), l4, u5, hb2]
          · rw [w4 51 (by omega) (by omega) (by omega) (by omega), l3]
          · rw [if_neg (by omega), w4 51 (by omega) (by omega) (by omega) (by omega), l5, u3, Nat.add_sub_cancel]
        · rw [w4 10 (by omega) (by omega) (by omega) (by omega), l7 10 (by omega) (by omega) (by omega), k3, u8 61 (by omega) (by omega) (by omega), o3, s2c 61 (by omega) (by omega), f3 61 (by omega) (by omega) (by omega) (by omega)]
          cases bm
          · exact e
          · rw [cond_true, cond_true]
            by_cases hi' : i = se
            · rw [hi', upd_s, upd_s, c4]
            · rw [upd_n hi', upd_n hi', e]
        · rw [w4 19 (by omega) (by omega) (by omega) (by omega), l6, u6]
      rw [o1] at r1
      rw [u1] at r1
      cases ok with
      | true =>
        refine ⟨0, σ3, xh_ul τ 92 0 (Int32.toInt64 (perf (Int32.ofNat (m / 16)) (σ 19 (m % 16)) d)), _, s4, ?_, r1, u2, fun _ => rfl, hI⟩
        unfold g135
        rw [eg]
        rfl
      | false =>
        refine ⟨3, σ3, τ, _, s4, ?_, r1, u2, fun q => absurd q (by decide), hI⟩
        unfold g135
        rw [eg]
        rfl
  · have hall2 : ¬ ((0 ≤ a ∧ a < 6) ∧ ((0 : Int32) ≤ b >>> (4 &&& 31) ∧ b >>> (4 &&& 31) < 10) ∧ ((0 : Int32) ≤ b &&& 15 ∧ b &&& 15 < 16) ∧ (0 ≤ c ∧ c < 24)) := fun z => hall ⟨z.1, tg_range z.2.1, z.2.2.2⟩
    refine ⟨1, σ, τ, 0, xh_ui σ 53 21 1, ?_, ?_, xu_s _ _ _ _, fun q => absurd q (by decide), wI_say h 1⟩
    · unfold g135
      rw [g136_b, if_neg hall]
      rfl
    · unfold g207
      rw [g190_b, if_neg hall2]
      simp only [xu_s, x10, if_false]
