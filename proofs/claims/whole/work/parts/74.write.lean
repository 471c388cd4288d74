/-! request: the book is written -/
def bk6 (B : Nat → Int32) (n : Nat) (x1 x2 x3 x4 x5 x6 : Int32) : Nat → Int32 := upd (upd (upd (upd (upd (upd B (7 * (n % 40)) x1) (7 * (n % 40) + 1) x2) (7 * (n % 40) + 2) x3) (7 * (n % 40) + 3) x4) (7 * (n % 40) + 4) x5) (7 * (n % 40) + 5) x6
def bk (B : Nat → Int32) (n : Nat) (x1 x2 x3 x4 x5 x6 L : Int32) : Nat → Int32 := upd (bk6 B n x1 x2 x3 x4 x5 x6) (7 * (n % 40) + 6) (wl (bk6 B n x1 x2 x3 x4 x5 x6) n L)
theorem xa2 (n : Nat) : Int32.ofNat n + 2 = Int32.ofNat (n + 2) := by rw [Int32.ofNat_add]; rfl
theorem xa3 (n : Nat) : Int32.ofNat n + 3 = Int32.ofNat (n + 3) := by rw [Int32.ofNat_add]; rfl
theorem xa4 (n : Nat) : Int32.ofNat n + 4 = Int32.ofNat (n + 4) := by rw [Int32.ofNat_add]; rfl
theorem xa5 (n : Nat) : Int32.ofNat n + 5 = Int32.ofNat (n + 5) := by rw [Int32.ofNat_add]; rfl
theorem xa6 (n : Nat) : Int32.ofNat n + 6 = Int32.ofNat (n + 6) := by rw [Int32.ofNat_add]; rfl
theorem xm7 : ∀ r, r < 40 → Int32.ofNat r * 7 = Int32.ofNat (7 * r) ∧ 7 * Int32.ofNat r = Int32.ofNat (7 * r) := by decide +kernel
theorem xrow7 {n : Nat} (hn : n < 700) : 7 * (Int32.ofNat n - Int32.ofNat n / 40 * 40) = Int32.ofNat (7 * (n % 40)) := by
  rw [(xrow hn).2, (xm7 _ (Nat.mod_lt _ (by decide))).2]
theorem x40l {n : Nat} (hn : n < 700) : Int32.ofNat n < 40 ↔ n < 40 := by
  have z : (40 : Int32).toInt = 40 := by decide
  rw [Int32.lt_iff_toInt_lt, z, Int32.toInt_ofNat_of_lt (by omega)]; omega
theorem xi280 {n k : Nat} (hk : k < 7) : xn (Int32.ofNat (7 * (n % 40) + k)) 280 = true ∧ (Int32.ofNat (7 * (n % 40) + k)).toNatClampNeg = 7 * (n % 40) + k := by
  have := Nat.mod_lt n (show 0 < 40 by decide)
  exact xnc (by omega)
theorem g139_32_eq {n : Nat} (hn : n < 700) {σ : xS} (h1 : σ 51 1 = Int32.ofNat n) (x1 x2 x3 x4 x5 x6 : Int32) :
    ∃ σ', g139_32 x1 x2 x3 x4 x5 x6 (Int32.ofNat (7 * (n % 40))) σ = some (.inl 0, σ') ∧ σ' 52 = bk (σ 52) n x1 x2 x3 x4 x5 x6 (σ 51 3) ∧ σ' 51 1 = Int32.ofNat (n + 1) ∧ σ' 51 2 = σ 51 2 ∧ σ' 51 3 = bk (σ 52) n x1 x2 x3 x4 x5 x6 (σ 51 3) (7 * (n % 40) + 6) ∧ ∀ c, ¬ c = 51 → ¬ c = 52 → σ' c = σ c := by
  have i0 := xi280 (n := n) (k := 0) (by decide)
  rw [Nat.add_zero] at i0
  have i1 := xi280 (n := n) (k := 1) (by decide)
  have i2 := xi280 (n := n) (k := 2) (by decide)
  have i3 := xi280 (n := n) (k := 3) (by decide)
  have i4 := xi280 (n := n) (k := 4) (by decide)
  have i5 := xi280 (n := n) (k := 5) (by decide)
  have i6 := xi280 (n := n) (k := 6) (by decide)
  unfold g139_32
  rw [x_succ, xa2, xa3, xa4, xa5, xa6, i0.1, i1.1, i2.1, i3.1, i4.1, i5.1, i6.1, i0.2, i1.2, i2.2, i3.2, i4.2, i5.2, i6.2]
  simp only [cond_true]
  have f1 : ∀ c, ¬ c = 52 → xh_ui (xh_ui (xh_ui (xh_ui (xh_ui (xh_ui σ 52 (7 * (n % 40)) x1) 52 (7 * (n % 40) + 1) x2) 52 (7 * (n % 40) + 2) x3) 52 (7 * (n % 40) + 3) x4) 52 (7 * (n % 40) + 4) x5) 52 (7 * (n % 40) + 5) x6 c = σ c := fun c hc => by rw [xu_o hc, xu_o hc, xu_o hc, xu_o hc, xu_o hc, xu_o hc]
  have f2 : xh_ui (xh_ui (xh_ui (xh_ui (xh_ui (xh_ui σ 52 (7 * (n % 40)) x1) 52 (7 * (n % 40) + 1) x2) 52 (7 * (n % 40) + 2) x3) 52 (7 * (n % 40) + 3) x4) 52 (7 * (n % 40) + 4) x5) 52 (7 * (n % 40) + 5) x6 52 = bk6 (σ 52) n x1 x2 x3 x4 x5 x6 := by
    unfold bk6
    rw [xu_a, xu_a, xu_a, xu_a, xu_a, xu_a]
  generalize xh_ui (xh_ui (xh_ui (xh_ui (xh_ui (xh_ui σ 52 (7 * (n % 40)) x1) 52 (7 * (n % 40) + 1) x2) 52 (7 * (n % 40) + 2) x3) 52 (7 * (n % 40) + 3) x4) 52 (7 * (n % 40) + 4) x5) 52 (7 * (n % 40) + 5) x6 = σ1 at f1 f2 ⊢
  rw [f1 51 (by decide), h1, g18_eq hn, f2]
  dsimp only
  rw [xu_s]
  refine ⟨_, rfl, ?_, ?_, ?_, ?_, fun c y1 y2 => ?_⟩
  · rw [xu_o (by decide), xu_a, xu_o (by decide), f2]
    rfl
  · rw [xu_s, xu_o (by decide), xu_n (by decide), f1 51 (by decide), h1, x_succ]
  · rw [xu_n (by decide), xu_o (by decide), xu_n (by decide), f1 51 (by decide)]
  · rw [xu_n (by decide), xu_o (by decide), xu_s]
    unfold bk
    rw [upd_s]
  · rw [xu_o y1, xu_o y2, xu_o y1, f1 c y2]
theorem g139_eq {n : Nat} (hn : n < 700) {σ : xS} (h1 : σ 51 1 = Int32.ofNat n) (x1 x2 x3 x4 x5 x6 : Int32) :
    ∃ σ', g139 x1 x2 x3 x4 x5 x6 σ = some (.inl 0, σ') ∧ σ' 52 = bk (σ 52) n x1 x2 x3 x4 x5 x6 (σ 51 3) ∧ σ' 51 1 = Int32.ofNat (n + 1) ∧ σ' 51 2 = (if n < 40 then σ 51 2 else σ 52 (7 * (n % 40) + 6)) ∧ σ' 51 3 = bk (σ 52) n x1 x2 x3 x4 x5 x6 (σ 51 3) (7 * (n % 40) + 6) ∧ ∀ c, ¬ c = 51 → ¬ c = 52 → σ' c = σ c := by
  have i6 := xi280 (n := n) (k := 6) (by decide)
  unfold g139
  rw [h1, g20_eq hn, (xm7 _ (Nat.mod_lt _ (by decide))).1]
  dsimp only
  rw [h1, xa6, i6.1, cond_true, i6.2]
  by_cases hl : n < 40
  · rw [if_pos ((x40l hn).mpr hl)]
    obtain ⟨σ', a1, a2, a3, a4, a5, a6⟩ := g139_32_eq hn h1 x1 x2 x3 x4 x5 x6
    exact ⟨σ', a1, a2, a3, by rw [if_pos hl]; exact a4, a5, a6⟩
  · rw [if_neg (fun z => hl ((x40l hn).mp z))]
    have m1 : xh_ui σ 51 2 (σ 52 (7 * (n % 40) + 6)) 51 1 = Int32.ofNat n := by rw [xu_n (by decide)]; exact h1
    have m3 : xh_ui σ 51 2 (σ 52 (7 * (n % 40) + 6)) 51 3 = σ 51 3 := by rw [xu_n (by decide)]
    have m52 : xh_ui σ 51 2 (σ 52 (7 * (n % 40) + 6)) 52 = σ 52 := xu_o (by decide)
    obtain ⟨σ', a1, a2, a3, a4, a5, a6⟩ := g139_32_eq hn m1 x1 x2 x3 x4 x5 x6
    rw [m52, m3] at a2 a5
    exact ⟨σ', a1, a2, a3, by rw [if_neg hl, a4, xu_s], a5, fun c y1 y2 => by rw [a6 c y1 y2, xu_o y1]⟩
theorem g209_67_eq {n : Nat} (hn : n < 700) {s : xS} (h1 : s 53 51 = Int32.ofNat n) (x1 x2 x3 x4 x5 L : Int32) (ok : Bool) :
    ∃ s', g209_67 x1 x2 x3 x4 x5 (xb ok) L s = some (.inl 0, s') ∧ s' 91 = bk (s 91) n x1 x2 x3 x4 x5 (xb ok) L ∧ s' 53 51 = Int32.ofNat (n + 1) ∧ (∀ j, ¬ j = 51 → s' 53 j = s 53 j) ∧ ∀ c, ¬ c = 53 → ¬ c = 91 → s' c = s c := by
  have i0 := xi280 (n := n) (k := 0) (by decide)
  rw [Nat.add_zero] at i0
  have i1 := xi280 (n := n) (k := 1) (by decide)
  have i2 := xi280 (n := n) (k := 2) (by decide)
  have i3 := xi280 (n := n) (k := 3) (by decide)
  have i4 := xi280 (n := n) (k := 4) (by decide)
  have i5 := xi280 (n := n) (k := 5) (by decide)
  have i6 := xi280 (n := n) (k := 6) (by decide)
  have e147 : ∀ k2 : Int32, ∃ s', g209_147 L (Int32.ofNat (7 * (n % 40))) (Int32.ofNat (7 * (n % 40) + 5)) k2 (xh_ui (xh_ui (xh_ui (xh_ui (xh_ui s 91 (7 * (n % 40)) x1) 91 (7 * (n % 40) + 1) x2) 91 (7 * (n % 40) + 2) x3) 91 (7 * (n % 40) + 3) x4) 91 (7 * (n % 40) + 4) x5) = some (.inl 0, s') ∧ s' 91 = bk (s 91) n x1 x2 x3 x4 x5 k2 L ∧ s' 53 51 = Int32.ofNat (n + 1) ∧ (∀ j, ¬ j = 51 → s' 53 j = s 53 j) ∧ ∀ c, ¬ c = 53 → ¬ c = 91 → s' c = s c := by
    intro k2
    unfold g209_147
    rw [i5.1, cond_true, i5.2]
    have f1 : ∀ c, ¬ c = 91 → xh_ui (xh_ui (xh_ui (xh_ui (xh_ui (xh_ui s 91 (7 * (n % 40)) x1) 91 (7 * (n % 40) + 1) x2) 91 (7 * (n % 40) + 2) x3) 91 (7 * (n % 40) + 3) x4) 91 (7 * (n % 40) + 4) x5) 91 (7 * (n % 40) + 5) k2 c = s c := fun c hc => by rw [xu_o hc, xu_o hc, xu_o hc, xu_o hc, xu_o hc, xu_o hc]
    have f2 : xh_ui (xh_ui (xh_ui (xh_ui (xh_ui (xh_ui s 91 (7 * (n % 40)) x1) 91 (7 * (n % 40) + 1) x2) 91 (7 * (n % 40) + 2) x3) 91 (7 * (n % 40) + 3) x4) 91 (7 * (n % 40) + 4) x5) 91 (7 * (n % 40) + 5) k2 91 = bk6 (s 91) n x1 x2 x3 x4 x5 k2 := by
      unfold bk6
      rw [xu_a, xu_a, xu_a, xu_a, xu_a, xu_a]
    generalize xh_ui (xh_ui (xh_ui (xh_ui (xh_ui (xh_ui s 91 (7 * (n % 40)) x1) 91 (7 * (n % 40) + 1) x2) 91 (7 * (n % 40) + 2) x3) 91 (7 * (n % 40) + 3) x4) 91 (7 * (n % 40) + 4) x5) 91 (7 * (n % 40) + 5) k2 = s1 at f1 f2 ⊢
    rw [f1 53 (by decide), h1, g210_eq hn, f2]
    dsimp only
    rw [xa6, i6.1, cond_true, i6.2]
    refine ⟨_, rfl, ?_, ?_, fun j hj => ?_, fun c y1 y2 => ?_⟩
    · rw [xu_o (by decide), xu_a, f2]
      rfl
    · rw [xu_s, xu_o (by decide), f1 53 (by decide), h1, x_succ]
    · rw [xu_n hj, xu_o (by decide), f1 53 (by decide)]
    · rw [xu_o y1, xu_o y2, f1 c y2]
  unfold g209_67
  rw [h1, xrow7 hn, x_succ, xa2, xa3, xa4, xa5, i0.1, i1.1, i2.1, i3.1, i4.1, i0.2, i1.2, i2.2, i3.2, i4.2]
  simp only [cond_true]
  cases ok with
  | true =>
    rw [show xb true = 1 from rfl, if_neg x1n]
    exact e147 1
  | false =>
    rw [show xb false = 0 from rfl, if_pos x0p]
    exact e147 0
theorem g209_eq {n : Nat} (hn : n < 700) {s : xS} (h1 : s 53 51 = Int32.ofNat n) (x1 x2 x3 x4 x5 : Int32) (ok : Bool) {L : Int32} (hL : L = if n = 0 then s 53 52 else s 91 (7 * ((n - 1) % 40) + 6)) :
    ∃ s', g209 x1 x2 x3 x4 x5 (xb ok) s = some (.inl 0, s') ∧ s' 91 = bk (s 91) n x1 x2 x3 x4 x5 (xb ok) L ∧ s' 53 51 = Int32.ofNat (n + 1) ∧ s' 53 52 = (if n < 40 then s 53 52 else s 91 (7 * (n % 40) + 6)) ∧ (∀ j, ¬ j = 51 → ¬ j = 52 → s' 53 j = s 53 j) ∧ ∀ c, ¬ c = 53 → ¬ c = 91 → s' c = s c := by
  have i6 := xi280 (n := n) (k := 6) (by decide)
  have j6 := xi280 (n := n - 1) (k := 6) (by decide)
  have e34 : ∃ s', g209_34 x1 x2 x3 x4 x5 (xb ok) L s = some (.inl 0, s') ∧ s' 91 = bk (s 91) n x1 x2 x3 x4 x5 (xb ok) L ∧ s' 53 51 = Int32.ofNat (n + 1) ∧ s' 53 52 = (if n < 40 then s 53 52 else s 91 (7 * (n % 40) + 6)) ∧ (∀ j, ¬ j = 51 → ¬ j = 52 → s' 53 j = s 53 j) ∧ ∀ c, ¬ c = 53 → ¬ c = 91 → s' c = s c := by
    unfold g209_34
    rw [h1, xrow7 hn, xa6, i6.1, cond_true, i6.2]
    by_cases hl : n < 40
    · rw [if_pos ((x40l hn).mpr hl)]
      obtain ⟨s', a1, a2, a3, a4, a5⟩ := g209_67_eq hn h1 x1 x2 x3 x4 x5 L ok
      exact ⟨s', a1, a2, a3, by rw [if_pos hl]; exact a4 52 (by decide), fun j y _ => a4 j y, a5⟩
    · rw [if_neg (fun z => hl ((x40l hn).mp z))]
      obtain ⟨s', a1, a2, a3, a4, a5⟩ := g209_67_eq (s := xh_ui s 53 52 (s 91 (7 * (n % 40) + 6))) hn (by rw [xu_n (by decide)]; exact h1) x1 x2 x3 x4 x5 L ok
      rw [xu_o (by decide)] at a2
      exact ⟨s', a1, a2, a3, by rw [if_neg hl, a4 52 (by decide), xu_s], fun j y z => by rw [a4 j y, xu_n z], fun c y z => by rw [a5 c y z, xu_o y]⟩
  unfold g209
  rw [h1]
  by_cases n0 : n = 0
  · rw [if_pos (show Int32.ofNat n = 0 by rw [n0]; rfl)]
    rw [if_pos n0] at hL
    subst hL
    exact e34
  · rw [if_neg (show ¬ Int32.ofNat n = 0 from fun z => n0 (x_inj (n := 0) (by omega) (by omega) z))]
    obtain ⟨m, rfl⟩ : ∃ m, n = m + 1 := ⟨n - 1, by omega⟩
    rw [Nat.add_sub_cancel] at j6 hL
    rw [if_neg n0] at hL
    rw [x_prd, xrow7 (by omega), xa6, j6.1, cond_true, j6.2, ← hL]
    exact e34
