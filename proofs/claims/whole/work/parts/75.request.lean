/-! request -/
theorem tg_0 : (List.range 160).all (fun m => decide (Int32.ofNat m / 16 = Int32.ofNat (m / 16) ∧ Int32.ofNat m - Int32.ofNat m / 16 * 16 = Int32.ofNat (m % 16) ∧ Int32.ofNat m >>> (4 &&& 31) = Int32.ofNat (m / 16) ∧ Int32.ofNat m &&& 15 = Int32.ofNat (m % 16))) = true := by decide +kernel
theorem tg {m : Nat} (hm : m < 160) : Int32.ofNat m / 16 = Int32.ofNat (m / 16) ∧ Int32.ofNat m - Int32.ofNat m / 16 * 16 = Int32.ofNat (m % 16) ∧ Int32.ofNat m >>> (4 &&& 31) = Int32.ofNat (m / 16) ∧ Int32.ofNat m &&& 15 = Int32.ofNat (m % 16) := of_decide_eq_true (List.all_eq_true.mp tg_0 m (List.mem_range.mpr hm))
theorem tg_range {b : Int32} (h : (0 : Int32) ≤ b >>> (4 &&& 31) ∧ b >>> (4 &&& 31) < 10) : 0 ≤ b ∧ b < 160 := by
  have z0 : (0 : Int32).toInt = 0 := by decide
  have z10 : (10 : Int32).toInt = 10 := by decide
  have z160 : (160 : Int32).toInt = 160 := by decide
  have e : (b >>> (4 &&& 31)).toInt = b.toInt / 16 := by
    show ((b >>> (Int32.ofNat 4 &&& 31)).toBitVec).toInt = b.toBitVec.toInt / 16
    rw [wt_shr b (by decide), BitVec.toInt_sshiftRight, Int.shiftRight_eq_div_pow]
    rfl
  rw [Int32.le_iff_toInt_le, Int32.lt_iff_toInt_lt, e, z0, z10] at h
  rw [Int32.le_iff_toInt_le, Int32.lt_iff_toInt_lt, z0, z160]
  omega
theorem d8_k {D : Int32} (h : wD8 D) : ∃ k, k < 256 ∧ D = Int32.ofNat k := by
  obtain ⟨k, hk, e⟩ := x_255 D
  refine ⟨k, hk, ?_⟩
  rw [← e]
  refine wt_ext fun i hi => ?_
  rw [wt_and]
  by_cases q : 8 ≤ i
  · rw [h i q, Bool.false_and]
  · have : ∀ i, i < 8 → wt 255 i = true := by decide
    rw [this i (by omega), Bool.and_true]
theorem vd_0 : (List.range 6).all (fun v => (List.range 256).all fun d => decide ((Int32.ofNat v + 10 * Int32.ofNat d) / 10 = Int32.ofNat d ∧ (Int32.ofNat v + 10 * Int32.ofNat d) - (Int32.ofNat v + 10 * Int32.ofNat d) / 10 * 10 = Int32.ofNat v)) = true := by decide +kernel
theorem vd {w D : Int32} (hw : v6 w) (hD : wD8 D) : (w + 10 * D) / 10 = D ∧ (w + 10 * D) - (w + 10 * D) / 10 * 10 = w := by
  obtain ⟨v, h1, rfl⟩ := hw
  obtain ⟨d, h2, rfl⟩ := d8_k hD
  exact of_decide_eq_true (List.all_eq_true.mp (List.all_eq_true.mp vd_0 v (List.mem_range.mpr h1)) d (List.mem_range.mpr h2))
theorem du_0 : (List.range 256).all (fun d => decide ((Int32.ofNat d >>> (6 &&& 31) = 0 ↔ ¬ 64 ≤ Int32.ofNat d) ∧ ((Int32.ofNat d >>> (4 &&& 31)) &&& 1 = 0 ↔ ¬ (Int32.ofNat d >>> (4 &&& 31)) &&& 1 = 1) ∧ ((Int32.ofNat d >>> (5 &&& 31)) &&& 1 = 0 ↔ ¬ (Int32.ofNat d >>> (5 &&& 31)) &&& 1 = 1))) = true := by decide +kernel
theorem du {D : Int32} (hD : wD8 D) : (D >>> (6 &&& 31) = 0 ↔ ¬ 64 ≤ D) ∧ ((D >>> (4 &&& 31)) &&& 1 = 0 ↔ ¬ (D >>> (4 &&& 31)) &&& 1 = 1) ∧ ((D >>> (5 &&& 31)) &&& 1 = 0 ↔ ¬ (D >>> (5 &&& 31)) &&& 1 = 1) := by
  obtain ⟨d, h2, rfl⟩ := d8_k hD
  exact of_decide_eq_true (List.all_eq_true.mp du_0 d (List.mem_range.mpr h2))
/-- can the duties be fulfilled -/
def ful (D h n : Int32) : Bool := decide (¬ 64 ≤ D ∧ ((D >>> (4 &&& 31)) &&& 1 = 1 → n < 3) ∧ ((D >>> (5 &&& 31)) &&& 1 = 1 → ¬ h < 8 ∧ ¬ 17 < h))
def cnt4 (D h n : Int32) : Bool := ful D h n && decide ((D >>> (4 &&& 31)) &&& 1 = 1)
theorem x_nlt (x y : Int32) : ¬ x < y ↔ y ≤ x := by
  rw [Int32.le_iff_toInt_le, Int32.lt_iff_toInt_lt]; omega
theorem g137_eq {se : Nat} (hse : se < 6) {D : Int32} (hD : wD8 D) (h : Int32) (σ : xS) : g137 (Int32.ofNat se) D h σ = some (.inl (xb (ful D h (σ 10 se))), bif cnt4 D h (σ 10 se) then xh_ui σ 10 se (σ 10 se + 1) else σ) := by
  obtain ⟨-, h2, h3, -⟩ := x6 se hse
  obtain ⟨d1, d2, d3⟩ := du hD
  unfold cnt4
  have g29 : (¬ 64 ≤ D) → ((D >>> (5 &&& 31)) &&& 1 = 1 → ¬ h < 8 ∧ ¬ 17 < h) → g137_29 (Int32.ofNat se) (xb (decide (D >>> (4 &&& 31) &&& 1 = 1))) σ = some (.inl (xb (ful D h (σ 10 se))), bif (ful D h (σ 10 se) && decide ((D >>> (4 &&& 31)) &&& 1 = 1)) then xh_ui σ 10 se (σ 10 se + 1) else σ) := by
    intro q1 q2
    unfold g137_29 g137_46
    rw [h2, h3]
    simp only [cond_true]
    by_cases b4 : (D >>> (4 &&& 31)) &&& 1 = 1
    · rw [decide_eq_true b4, Bool.and_true, show xb true = 1 from rfl, if_neg x1n, if_neg x1n]
      by_cases n3 : σ 10 se < 3
      · have : ful D h (σ 10 se) = true := decide_eq_true ⟨q1, fun _ => n3, q2⟩
        rw [if_pos n3, this]
        rfl
      · have : ful D h (σ 10 se) = false := decide_eq_false (fun z => n3 (z.2.1 b4))
        rw [if_neg n3, this]
        rfl
    · have : ful D h (σ 10 se) = true := decide_eq_true ⟨q1, fun z => absurd z b4, q2⟩
      rw [decide_eq_false b4, Bool.and_false, this]
      rfl
  unfold g137 g138
  rw [g28_eq]
  dsimp only
  rw [g28_eq]
  dsimp only
  by_cases q1 : 64 ≤ D
  · have : ful D h (σ 10 se) = false := decide_eq_false (fun z => z.1 q1)
    rw [if_neg (fun z => d1.mp z q1), this]
    rfl
  · rw [if_pos (d1.mpr q1)]
    by_cases b5 : (D >>> (5 &&& 31)) &&& 1 = 1
    · rw [decide_eq_true b5, show xb true = 1 from rfl, if_neg x1n]
      by_cases h8 : h < 8
      · have : ful D h (σ 10 se) = false := decide_eq_false (fun z => (z.2.2 b5).1 h8)
        rw [if_pos h8, this]
        rfl
      · rw [if_neg h8]
        by_cases h17 : 17 < h
        · have : ful D h (σ 10 se) = false := decide_eq_false (fun z => (z.2.2 b5).2 h17)
          rw [if_pos h17, this]
          rfl
        · rw [if_neg h17]
          dsimp only
          rw [if_neg x1n]
          exact g29 q1 (fun _ => ⟨h8, h17⟩)
    · rw [decide_eq_false b5, show xb false = 0 from rfl, if_pos x0p]
      exact g29 q1 (fun z => absurd z b5)
theorem g208_eq {se : Nat} (hse : se < 6) {D : Int32} (hD : wD8 D) (h : Int32) (σ : xS) : g208 D (Int32.ofNat se) h σ = some (.inl (xb (ful D h (σ 61 se))), bif cnt4 D h (σ 61 se) then xh_ui σ 61 se (σ 61 se + 1) else σ) := by
  obtain ⟨-, h2, h3, -⟩ := x6 se hse
  obtain ⟨d1, d2, d3⟩ := du hD
  unfold cnt4
  have e48 : ful D h (σ 61 se) = false → g208_48 D (Int32.ofNat se) σ = some (.inl (xb (ful D h (σ 61 se))), bif (ful D h (σ 61 se) && decide ((D >>> (4 &&& 31)) &&& 1 = 1)) then xh_ui σ 61 se (σ 61 se + 1) else σ) := fun z => by
    rw [z]; rfl
  have e44 : ful D h (σ 61 se) = true → g208_44 D (Int32.ofNat se) σ = some (.inl (xb (ful D h (σ 61 se))), bif (ful D h (σ 61 se) && decide ((D >>> (4 &&& 31)) &&& 1 = 1)) then xh_ui σ 61 se (σ 61 se + 1) else σ) := fun z => by
    rw [z, Bool.true_and]
    unfold g208_44 g208_49
    rw [if_neg x1n, h2, h3]
    by_cases b4 : (D >>> (4 &&& 31)) &&& 1 = 1
    · rw [if_pos b4, decide_eq_true b4]; rfl
    · rw [if_neg b4, decide_eq_false b4]; rfl
  have e24 : ¬ 64 ≤ D → ((D >>> (4 &&& 31)) &&& 1 = 1 → σ 61 se < 3) → g208_24 D (Int32.ofNat se) h σ = some (.inl (xb (ful D h (σ 61 se))), bif (ful D h (σ 61 se) && decide ((D >>> (4 &&& 31)) &&& 1 = 1)) then xh_ui σ 61 se (σ 61 se + 1) else σ) := fun q1 q2 => by
    unfold g208_24
    by_cases b5 : (D >>> (5 &&& 31)) &&& 1 = 1
    · rw [if_neg (fun z => d3.mp z b5)]
      by_cases h8 : h < 8
      · rw [if_pos h8]; exact e48 (decide_eq_false (fun z => (z.2.2 b5).1 h8))
      · rw [if_neg h8]
        by_cases h17 : 17 < h
        · rw [if_pos h17]; exact e48 (decide_eq_false (fun z => (z.2.2 b5).2 h17))
        · rw [if_neg h17]; exact e44 (decide_eq_true ⟨q1, q2, fun _ => ⟨h8, h17⟩⟩)
    · rw [if_pos (d3.mpr b5)]; exact e44 (decide_eq_true ⟨q1, q2, fun z => absurd z b5⟩)
  unfold g208
  by_cases q1 : 64 ≤ D
  · rw [if_pos q1]; exact e48 (decide_eq_false (fun z => z.1 q1))
  · rw [if_neg q1, h2, cond_true, h3]
    by_cases b4 : (D >>> (4 &&& 31)) &&& 1 = 1
    · rw [if_neg (fun z => d2.mp z b4)]
      by_cases n3 : σ 61 se < 3
      · rw [if_neg (fun z => (x_nlt _ _).mpr z n3)]; exact e24 q1 (fun _ => n3)
      · rw [if_pos ((x_nlt _ _).mp n3)]; exact e48 (decide_eq_false (fun z => n3 (z.2.1 b4)))
    · rw [if_pos (d2.mpr b4)]; exact e24 q1 (fun z => absurd z b4)
theorem g136_b (p : Nat) (a b c d : Int32) (σ : xS) : g136 p a b c d σ = if (0 ≤ a ∧ a < 6) ∧ (0 ≤ b ∧ b < 160) ∧ (0 ≤ c ∧ c < 24) then g136_31 p a b c d 1 σ else some (.inr 0, σ) := by
  by_cases hA : 0 ≤ a ∧ a < 6
  · by_cases hB : 0 ≤ b ∧ b < 160
    · by_cases hC : 0 ≤ c ∧ c < 24
      · rw [if_pos (show (0 ≤ a ∧ a < 6) ∧ (0 ≤ b ∧ b < 160) ∧ (0 ≤ c ∧ c < 24) from ⟨hA, hB, hC⟩)]
        simp only [g136, g63_eq, decide_eq_true hA, xb_t, x10, if_false, g25_eq, decide_eq_true hB, decide_eq_true hC]
      · rw [if_neg (show ¬ ((0 ≤ a ∧ a < 6) ∧ (0 ≤ b ∧ b < 160) ∧ (0 ≤ c ∧ c < 24)) from fun z => hC z.2.2)]
        simp only [g136, g63_eq, decide_eq_true hA, xb_t, x10, if_false, g25_eq, decide_eq_true hB, decide_eq_false hC, xb_f, x00, if_true, g136_30, g136_31, g26_0]
    · rw [if_neg (show ¬ ((0 ≤ a ∧ a < 6) ∧ (0 ≤ b ∧ b < 160) ∧ (0 ≤ c ∧ c < 24)) from fun z => hB z.2.1)]
      simp only [g136, g63_eq, decide_eq_true hA, xb_t, x10, if_false, g25_eq, decide_eq_false hB, xb_f, x00, if_true, g136_30, g136_31, g26_0]
  · rw [if_neg (show ¬ ((0 ≤ a ∧ a < 6) ∧ (0 ≤ b ∧ b < 160) ∧ (0 ≤ c ∧ c < 24)) from fun z => hA z.1)]
    simp only [g136, g63_eq, decide_eq_false hA, xb_f, x00, if_true, g136_30, g136_31, g26_0]
