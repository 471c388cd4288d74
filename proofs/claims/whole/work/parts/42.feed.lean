/-! feed -/
theorem x_255 (y : Int32) : ∃ k, k < 256 ∧ y &&& 255 = Int32.ofNat k := by
  refine ⟨(y &&& 255).toBitVec.toNat, ?_, Int32.toBitVec_inj.mp ?_⟩
  · have h : (255 : Int32).toBitVec.toNat = 255 := by decide
    rw [Int32.toBitVec_and, BitVec.toNat_and, h]
    exact Nat.lt_succ_of_le Nat.and_le_right
  · rw [Int32.toBitVec_ofNat', BitVec.ofNat_toNat, BitVec.setWidth_eq]
theorem upd_upd (f : Nat → Int32) (i : Nat) (v w : Int32) : upd (upd f i v) i w = upd f i w := funext fun j => by
  by_cases h : j = i
  · subst h; rw [upd_s, upd_s]
  · rw [upd_n h, upd_n h, upd_n h]
theorem upd_id {f : Nat → Int32} {i : Nat} {v : Int32} (h : f i = v) : upd f i v = f := funext fun j => by
  by_cases q : j = i
  · subst q; rw [upd_s, h]
  · rw [upd_n q]
theorem xset_ui2 {a b : Nat} (h : ¬ a = b) (σ : xS) (r q : Nat → Int32) (i : Nat) (v : Int32) : xh_ui (xset (xset σ b q) a r) b i v = xset (xset σ b (upd q i v)) a r := funext fun c => by
  have hba : ¬ b = a := fun e => h e.symm
  unfold xh_ui xset
  by_cases c1 : c = b
  · subst c1; rw [if_pos rfl, if_neg hba, if_pos rfl, if_neg hba, if_pos rfl]
  · rw [if_neg c1]
    by_cases c2 : c = a
    · rw [if_pos c2, if_pos c2]
    · rw [if_neg c2, if_neg c1, if_neg c2, if_neg c1]
/-- a row set, and its length at (b, i) -/
def xF (σ : xS) (a b i : Nat) (r : Nat → Int32) (L : Nat) : xS := xset (xset σ b (upd (σ b) i (Int32.ofNat L))) a r
theorem xF_len {a b : Nat} (h : ¬ b = a) (σ : xS) (i : Nat) (r : Nat → Int32) (L : Nat) : xF σ a b i r L b i = Int32.ofNat L := by
  unfold xF xset; rw [if_neg h, if_pos rfl, upd_s]
theorem xF_len2 {a b : Nat} (h : ¬ b = a) (σ : xS) (i j : Nat) (r : Nat → Int32) (L : Nat) (v : Int32) : xh_ui (xF σ a b i r L) a j v b i = Int32.ofNat L := by
  rw [xu_o h, xF_len h]
theorem xF_up {a b : Nat} (h : ¬ b = a) (σ : xS) (i j : Nat) (r : Nat → Int32) (L : Nat) (v : Int32) : xh_ui (xh_ui (xF σ a b i r L) a j v) b i (Int32.ofNat L + 1) = xF σ a b i (upd r j v) (L + 1) := by
  unfold xF
  rw [xset_ui, xset_ui2 (fun e => h e.symm), upd_upd, x_succ]
theorem xF_id {σ : xS} {a b i L : Nat} (h : σ b i = Int32.ofNat L) : xF σ a b i (σ a) L = σ := by
  unfold xF
  rw [upd_id h, xset_id, xset_id]
/-- a byte of the eight -/
def wby (x : Int64) (m : Nat) : Int32 := (Int64.toInt32 (Int64.toUInt64 x >>> (Int64.toUInt64 (Int32.toInt64 (8 * Int32.ofNat m)) &&& Int64.toUInt64 63)).toInt64) &&& 255
theorem wby_eq (x : Int64) (m : Nat) : Int64.toInt32 ((Int64.toUInt64 x >>> (Int64.toUInt64 (Int32.toInt64 (8 * Int32.ofNat m)) &&& Int64.toUInt64 63)).toInt64 &&& 255) = wby x m := by
  rw [Int64.toInt32_and]; rfl
def wfd (x : Int64) : Nat → Nat → (Nat → Int32) → Nat → Int32
  | 0, _, r => r
  | m + 1, L, r => wfd x m (L + 1) (upd r L (wby x m))
theorem x9 : ∀ m, m < 9 → Int32.ofNat (m + 1) - 1 = Int32.ofNat m ∧ ¬ Int32.ofNat m < 0 ∧ Int32.ofNat m + (-1) = Int32.ofNat m - 1 := by decide
theorem wfd_c (σ : xS) (x : Int64) : ∀ (m f L : Nat) (r : Nat → Int32), m ≤ 8 → L + m ≤ 300 → m < f → xlo (fun a : Int64 × Int32 × xS => g85_5b a.1 a.2.1 a.2.2) f (x, Int32.ofNat m - 1, xF σ 22 21 1 r L) = some (.inl (Int32.ofNat (L + m)), xF σ 22 21 1 (wfd x m L r) (L + m))
  | _, 0, _, _, _, _, h => absurd h (Nat.not_lt_zero _)
  | 0, f + 1, L, r, _, _, _ => by
    refine xlo_end ?_
    dsimp only
    unfold g85_5b
    rw [if_pos (by decide), xF_len (by decide)]
    rfl
  | m + 1, f + 1, L, r, hm, hL, hf => by
    obtain ⟨h1, h2, h3⟩ := x9 m (by omega)
    have e : g85_5b x (Int32.ofNat (m + 1) - 1) (xF σ 22 21 1 r L) = some (.inl (x, Int32.ofNat m - 1, xF σ 22 21 1 (upd r L (wby x m)) (L + 1))) := by
      unfold g85_5b
      rw [h1, if_neg h2, xF_len (by decide), xn_of (by omega) (by omega), cond_true, Int32.toNatClampNeg_ofNat_of_lt (by omega), xF_len2 (by decide), xF_up (by decide), wby_eq, h3]
    rw [xlo_step (a := (x, Int32.ofNat (m + 1) - 1, xF σ 22 21 1 r L)) e, wfd_c σ x m f (L + 1) _ (by omega) (by omega) (by omega), wfd, show L + 1 + m = L + (m + 1) by omega]
theorem wfd_r (σ : xS) (x : Int64) : ∀ (m f L : Nat) (r : Nat → Int32), m ≤ 8 → L + m ≤ 300 → m < f → xlo (fun a : Int64 × Int32 × xS => g169_50b a.1 a.2.1 a.2.2) f (x, Int32.ofNat m - 1, xF σ 69 53 17 r L) = some (.inl (Int32.ofNat (L + m)), xF σ 69 53 17 (wfd x m L r) (L + m))
  | _, 0, _, _, _, _, h => absurd h (Nat.not_lt_zero _)
  | 0, f + 1, L, r, _, _, _ => by
    refine xlo_end ?_
    dsimp only
    unfold g169_50b
    rw [if_pos (by decide), xF_len (by decide)]
    rfl
  | m + 1, f + 1, L, r, hm, hL, hf => by
    obtain ⟨h1, h2, h3⟩ := x9 m (by omega)
    have e : g169_50b x (Int32.ofNat (m + 1) - 1) (xF σ 69 53 17 r L) = some (.inl (x, Int32.ofNat m - 1, xF σ 69 53 17 (upd r L (wby x m)) (L + 1))) := by
      unfold g169_50b
      rw [h1, if_neg h2, xF_len (by decide), xn_of (by omega) (by omega), cond_true, Int32.toNatClampNeg_ofNat_of_lt (by omega), xF_len2 (by decide), xF_up (by decide), h3]
      rfl
    rw [xlo_step (a := (x, Int32.ofNat (m + 1) - 1, xF σ 69 53 17 r L)) e, wfd_r σ x m f (L + 1) _ (by omega) (by omega) (by omega), wfd, show L + 1 + m = L + (m + 1) by omega]
theorem wfd_b (x : Int64) : ∀ (m L : Nat) (r : Nat → Int32), (∀ i, ∃ k, k < 256 ∧ r i = Int32.ofNat k) → ∀ i, ∃ k, k < 256 ∧ wfd x m L r i = Int32.ofNat k
  | 0, _, _, h => h
  | m + 1, L, r, h => wfd_b x m (L + 1) (upd r L (wby x m)) fun i => by
    by_cases q : i = L
    · subst q; rw [upd_s]; exact x_255 _
    · rw [upd_n q]; exact h i
/-- feed -/
theorem op12 {t : Nat} {σ : xS} (h : wK t σ) (x : Int64) (a : Int32) (τ : xT) : wOp (g82 x a) (g169 x a) t σ τ := by
  obtain ⟨hA, hB, hC, hD, hE, ⟨f1, f2, L, f3, f4, f5⟩, hG, hH⟩ := id h
  by_cases ha1 : a < 1
  · refine ⟨1, σ, τ, 0, xh_ui σ 53 21 1, ?_, ?_, rfl, fun q => absurd q (by decide), wK_say h 1, wFr_say σ 1⟩
    · simp only [g82, g83, if_pos ha1, g83_15, g83_16, g26_0, if_true]
    · simp only [g169, if_pos ha1, g169_12, g169_33, xu_s, x10, if_false]
  · by_cases ha2 : 8 < a
    · have ha3 : ¬ a ≤ 8 := Int32.not_le.mpr ha2
      refine ⟨1, σ, τ, 0, xh_ui σ 53 21 1, ?_, ?_, rfl, fun q => absurd q (by decide), wK_say h 1, wFr_say σ 1⟩
      · simp only [g82, g83, if_neg ha1, if_pos ha2, g83_15, g83_16, g26_0, if_true]
      · simp only [g169, if_neg ha1, if_neg ha3, g169_12, g169_33, xu_s, x10, if_false]
    · have ha3 : a ≤ 8 := Int32.not_lt.mp ha2
      by_cases q : 300 < Int32.ofNat L + a
      · have q' : ¬ Int32.ofNat L + a ≤ 300 := Int32.not_le.mpr q
        refine ⟨2, σ, τ, 0, xh_ui σ 53 21 2, ?_, ?_, rfl, fun q => absurd q (by decide), wK_say h 2, wFr_say σ 2⟩
        · simp only [g82, g83, if_neg ha1, if_neg ha2, g83_16, g26_1, g84, f4, if_pos q, g31_0, n10, if_false, if_true]
        · simp only [g169, if_neg ha1, if_pos ha3, f5, if_neg q', g169_33, xu_s, x20, if_false]
      · have q' : Int32.ofNat L + a ≤ 300 := Int32.not_lt.mp q
        have a1 := Int32.le_iff_toInt_le.mp (Int32.not_lt.mp ha1)
        have a3 := Int32.le_iff_toInt_le.mp ha3
        have z1 : (1 : Int32).toInt = 1 := by decide
        have z8 : (8 : Int32).toInt = 8 := by decide
        have z0 : (0 : Int32).toInt = 0 := by decide
        have z9 : (Int32.ofNat 9).toInt = 9 := by decide
        have z300 : (300 : Int32).toInt = 300 := by decide
        obtain ⟨m, hm, rfl⟩ := x_below (x := a) (k := 9) (by decide) (by rw [Int32.le_iff_toInt_le]; omega) (by rw [Int32.lt_iff_toInt_lt]; omega)
        have q2 := Int32.le_iff_toInt_le.mp q'
        rw [← Int32.ofNat_add, Int32.toInt_ofNat_of_lt (by omega), z300] at q2
        have hLm : L + m ≤ 300 := by omega
        let s1 : xS := xF σ 22 21 1 (wfd x m L (σ 22)) (L + m)
        let s2 : xS := xh_ui s1 53 21 0
        let s3 : xS := xF s2 69 53 17 (wfd x m L (σ 69)) (L + m)
        have e1 : g85 x (Int32.ofNat m) σ = some (.inl (Int32.ofNat (L + m)), s1) := by
          have := wfd_c σ x m 1000 L (σ 22) (by omega) hLm (by omega)
          rw [xF_id f4] at this
          exact this
        have e2 : g169_50 x (Int32.ofNat m - 1) s2 = some (.inl (Int32.ofNat (L + m)), s3) := by
          have := wfd_r s2 x m 1000 L (s2 69) (by omega) hLm (by omega)
          rw [xF_id (σ := s2) (a := 69) (b := 53) (i := 17) (L := L) f5] at this
          exact this
        refine ⟨0, s1, xh_ul τ 92 0 (Int32.toInt64 (Int32.ofNat (L + m))), Int32.ofNat (L + m), s3, ?_, ?_, rfl, fun _ => rfl, ⟨hA, hB, hC, hD, hE, ⟨?_, wfd_b x m L _ f2, L + m, hLm, ?_, ?_⟩, hG, wKH_s hH⟩, ?_⟩
        · simp only [g82, g83, if_neg ha1, if_neg ha2, g83_16, g26_1, g84, f4, if_neg q, g31_1, e1]
        · have f5' : s1 53 17 = Int32.ofNat L := f5
          simp only [g169, if_neg ha1, if_pos ha3, f5', if_pos q', g169_33, xu_s, if_true]
          exact e2
        · show wfd x m L (σ 22) = wfd x m L (σ 69)
          rw [f1]
        · exact xF_len (by decide) _ _ _ _
        · exact xF_len (by decide) _ _ _ _
        · intro c hc
          show (if c = 69 then _ else (if c = 53 then _ else (if c = 53 then _ else (if c = 22 then _ else (if c = 21 then _ else σ c))))) = σ c
          rw [if_neg (by omega), if_neg (by omega), if_neg (by omega), if_neg (by omega), if_neg (by omega)]
