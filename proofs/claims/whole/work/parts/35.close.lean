/-! sets of roles as bits; both closures are the least closed set -/
def wt (x : Int32) (i : Nat) : Bool := x.toBitVec.getLsbD i
theorem wt_sh : ∀ i, i < 32 → ((Int32.ofNat i &&& 31).toBitVec.smod 32).toNat = i := by decide
theorem wt_shr (x : Int32) {i : Nat} (hi : i < 32) : (x >>> (Int32.ofNat i &&& 31)).toBitVec = x.toBitVec.sshiftRight i := by
  rw [Int32.toBitVec_shiftRight, BitVec.sshiftRight', wt_sh i hi]
theorem wt_bit (x : Int32) {i : Nat} (hi : i < 32) : ((x >>> (Int32.ofNat i &&& 31)) &&& 1 = 1) ↔ wt x i = true := by
  have e1 : (1 : Int32).toBitVec = 1#32 := rfl
  rw [← Int32.toBitVec_inj, Int32.toBitVec_and, wt_shr x hi, e1, BitVec.and_one_eq_setWidth_ofBool_getLsbD, BitVec.getLsbD_sshiftRight]
  have h0 : (!decide (32 ≤ 0) && if i + 0 < 32 then x.toBitVec.getLsbD (i + 0) else x.toBitVec.msb) = wt x i := by
    rw [if_pos (by omega), Nat.add_zero]; rfl
  rw [h0]
  cases wt x i <;> decide
theorem wt_or (x y : Int32) (i : Nat) : wt (x ||| y) i = (wt x i || wt y i) := by
  unfold wt; rw [Int32.toBitVec_or, BitVec.getLsbD_or]
theorem wt_and (x y : Int32) (i : Nat) : wt (x &&& y) i = (wt x i && wt y i) := by
  unfold wt; rw [Int32.toBitVec_and, BitVec.getLsbD_and]
theorem wt_ext {x y : Int32} (h : ∀ i, i < 32 → wt x i = wt y i) : x = y :=
  Int32.toBitVec_inj.mp (BitVec.eq_of_getLsbD_eq fun i hi => h i hi)
/-- a set of roles: no bit but the twelve -/
def wM (x : Int32) : Prop := ∀ i, 12 ≤ i → wt x i = false
theorem wM_ext {x y : Int32} (hx : wM x) (hy : wM y) (h : ∀ i, i < 12 → wt x i = wt y i) : x = y :=
  wt_ext fun i _ => if hi : i < 12 then h i hi else by rw [hx i (by omega), hy i (by omega)]
theorem wM_or {x y : Int32} (hx : wM x) (hy : wM y) : wM (x ||| y) := fun i hi => by rw [wt_or, hx i hi, hy i hi]; rfl
theorem wM_and {x y : Int32} (hx : wM x) : wM (x &&& y) := fun i hi => by rw [wt_and, hx i hi]; rfl
theorem wM_0 : wM 0 := fun i _ => by unfold wt; show (0#32).getLsbD i = false; rw [BitVec.getLsbD_zero]
def wS (x y : Int32) : Prop := ∀ i, wt x i = true → wt y i = true
def wC (U : Nat → Int32) (y : Int32) : Prop := ∀ i, i < 12 → wt y i = true → wS (U i) y
def wg (U : Nat → Int32) (x : Int32) (i : Nat) : Int32 := if (x >>> (Int32.ofNat i &&& 31)) &&& 1 = 1 then x ||| U i else x
def wh (U : Nat → Int32) (k x : Int32) (i : Nat) : Int32 := if (k >>> (Int32.ofNat i &&& 31)) &&& 1 = 1 then x ||| U i else x
theorem wh_cases (U : Nat → Int32) (k x : Int32) {i : Nat} (hi : i < 12) : (wt k i = true ∧ wh U k x i = x ||| U i) ∨ (wt k i = false ∧ wh U k x i = x) := by
  unfold wh
  by_cases h : (k >>> (Int32.ofNat i &&& 31)) &&& 1 = 1
  · exact Or.inl ⟨(wt_bit k (by omega)).mp h, if_pos h⟩
  · refine Or.inr ⟨?_, if_neg h⟩
    cases hb : wt k i with
    | false => rfl
    | true => exact absurd ((wt_bit k (by omega)).mpr hb) h
theorem wg_fold (U : Nat → Int32) : ∀ (l : List Nat) (x : Int32), (∀ i ∈ l, i < 12) → wS x (l.foldl (wg U) x) ∧ (∀ i ∈ l, wt x i = true → wS (U i) (l.foldl (wg U) x)) ∧ (∀ y, wC U y → wS x y → wS (l.foldl (wg U) x) y) ∧ ((∀ i, i < 12 → wM (U i)) → wM x → wM (l.foldl (wg U) x))
  | [], x, _ => ⟨fun _ h => h, fun i hi => absurd hi (List.not_mem_nil), fun _ _ h => h, fun _ h => h⟩
  | i :: l, x, hl => by
    have hi : i < 12 := hl i (List.mem_cons_self)
    obtain ⟨a, b, c, m⟩ := wg_fold U l (wg U x i) (fun j hj => hl j (List.mem_cons_of_mem _ hj))
    rw [List.foldl_cons]
    have e : wg U x i = wh U x x i := rfl
    rcases wh_cases U x x hi with ⟨hb, he⟩ | ⟨hb, he⟩
    · have hx : wS x (wg U x i) := fun j hj => by rw [e, he, wt_or, hj]; rfl
      refine ⟨fun j hj => a j (hx j hj), fun k hk hkb j hj => ?_, fun y hy hs => c y hy (fun j hj => ?_), fun hU hM => m hU (by rw [e, he]; exact wM_or hM (hU i hi))⟩
      · rcases List.mem_cons.mp hk with rfl | hk'
        · exact a j (by rw [e, he, wt_or, hj, Bool.or_true])
        · exact b k hk' (hx k hkb) j hj
      · rw [e, he, wt_or, Bool.or_eq_true] at hj
        rcases hj with hj | hj
        · exact hs j hj
        · exact hy i hi (hs i hb) j hj
    · rw [e, he] at a b c m ⊢
      refine ⟨a, fun k hk hkb j hj => ?_, c, m⟩
      rcases List.mem_cons.mp hk with rfl | hk'
      · rw [hb] at hkb; cases hkb
      · exact b k hk' hkb j hj
theorem wh_fold (U : Nat → Int32) (k : Int32) : ∀ (l : List Nat) (x : Int32), (∀ i ∈ l, i < 12) → wS x (l.foldl (wh U k) x) ∧ (∀ i ∈ l, wt k i = true → wS (U i) (l.foldl (wh U k) x)) ∧ (∀ y, (∀ i, i < 12 → wt k i = true → wS (U i) y) → wS x y → wS (l.foldl (wh U k) x) y) ∧ ((∀ i, i < 12 → wM (U i)) → wM x → wM (l.foldl (wh U k) x))
  | [], x, _ => ⟨fun _ h => h, fun i hi => absurd hi (List.not_mem_nil), fun _ _ h => h, fun _ h => h⟩
  | i :: l, x, hl => by
    have hi : i < 12 := hl i (List.mem_cons_self)
    obtain ⟨a, b, c, m⟩ := wh_fold U k l (wh U k x i) (fun j hj => hl j (List.mem_cons_of_mem _ hj))
    rw [List.foldl_cons]
    rcases wh_cases U k x hi with ⟨hb, he⟩ | ⟨hb, he⟩
    · have hx : wS x (wh U k x i) := fun j hj => by rw [he, wt_or, hj]; rfl
      refine ⟨fun j hj => a j (hx j hj), fun n hn hnb j hj => ?_, fun y hy hs => c y hy (fun j hj => ?_), fun hU hM => m hU (by rw [he]; exact wM_or hM (hU i hi))⟩
      · rcases List.mem_cons.mp hn with rfl | hn'
        · exact a j (by rw [he, wt_or, hj, Bool.or_true])
        · exact b n hn' hnb j hj
      · rw [he, wt_or, Bool.or_eq_true] at hj
        rcases hj with hj | hj
        · exact hs j hj
        · exact hy i hi hb j hj
    · rw [he] at a b c m ⊢
      refine ⟨a, fun n hn hnb j hj => ?_, c, m⟩
      rcases List.mem_cons.mp hn with rfl | hn'
      · rw [hb] at hnb; cases hnb
      · exact b n hn' hnb j hj
/-- what a round is good for -/
def wP (U : Nat → Int32) (f : Int32 → Int32) : Prop := (∀ x, wS x (f x)) ∧ (∀ x y, wC U y → wS x y → wS (f x) y) ∧ (∀ x, f x = x → wC U x) ∧ (∀ x, wM x → wM (f x))
theorem w_r12 : ∀ i ∈ List.range' 0 12, i < 12 := by decide
theorem w_m12 {i : Nat} (hi : i < 12) : i ∈ List.range' 0 12 := by rw [List.mem_range'_1]; omega
theorem wP_wr {U : Nat → Int32} (hU : ∀ i, i < 12 → wM (U i)) : wP U (wr U) := by
  refine ⟨fun x => (wg_fold U _ x w_r12).1, fun x y hy hs => (wg_fold U _ x w_r12).2.2.1 y hy hs, fun x hx i hi hb j hj => ?_, fun x hx => (wg_fold U _ x w_r12).2.2.2 hU hx⟩
  have h := (wg_fold U _ x w_r12).2.1 i (w_m12 hi) hb j hj
  have e : (List.range' 0 12).foldl (wg U) x = x := hx
  rw [e] at h
  exact h
theorem wP_wj {U : Nat → Int32} (hU : ∀ i, i < 12 → wM (U i)) : wP U (wj U) := by
  refine ⟨fun x => (wh_fold U x _ x w_r12).1, fun x y hy hs => (wh_fold U x _ x w_r12).2.2.1 y (fun i hi hb => hy i hi (hs i hb)) hs, fun x hx i hi hb j hj => ?_, fun x hx => (wh_fold U x _ x w_r12).2.2.2 hU hx⟩
  have h := (wh_fold U x _ x w_r12).2.1 i (w_m12 hi) hb j hj
  have e : (List.range' 0 12).foldl (wh U x) x = x := hx
  rw [e] at h
  exact h
def wit (f : Int32 → Int32) : Nat → Int32 → Int32
  | 0, x => x
  | n + 1, x => wit f n (f x)
theorem wit_fix {f : Int32 → Int32} {x : Int32} (h : f x = x) : ∀ n, wit f n x = x
  | 0 => rfl
  | n + 1 => by rw [wit, h, wit_fix h n]
theorem w_cnt : ∀ (l : List Nat) (p q : Nat → Bool), (∀ i ∈ l, p i = true → q i = true) → (∃ i ∈ l, p i = false ∧ q i = true) → l.countP p < l.countP q
  | [], _, _, _, h => by obtain ⟨i, hi, -⟩ := h; exact absurd hi (List.not_mem_nil)
  | a :: l, p, q, h, ⟨i, hi, hp, hq⟩ => by
    have h1 : ∀ i ∈ l, p i = true → q i = true := fun i hi => h i (List.mem_cons_of_mem _ hi)
    have h2 : l.countP p ≤ l.countP q := List.countP_mono_left h1
    rcases List.mem_cons.mp hi with rfl | hi'
    · rw [List.countP_cons_of_neg (by rw [hp]; decide), List.countP_cons_of_pos hq]; omega
    · have h3 := w_cnt l p q h1 ⟨i, hi', hp, hq⟩
      by_cases pa : p a = true
      · rw [List.countP_cons_of_pos pa, List.countP_cons_of_pos (h a (List.mem_cons_self) pa)]; omega
      · rw [List.countP_cons_of_neg pa]
        by_cases qa : q a = true
        · rw [List.countP_cons_of_pos qa]; omega
        · rw [List.countP_cons_of_neg qa]; exact h3
def wcnt (x : Int32) : Nat := (List.range' 0 12).countP (wt x)
theorem wcnt_lt {x y : Int32} (hs : wS x y) (hx : wM x) (hy : wM y) (hne : ¬ y = x) : wcnt x < wcnt y := by
  refine w_cnt _ _ _ (fun i _ => hs i) ?_
  by_cases h : ∃ i, i < 12 ∧ wt x i = false ∧ wt y i = true
  · obtain ⟨i, hi, h1, h2⟩ := h
    exact ⟨i, w_m12 hi, h1, h2⟩
  · refine absurd (wM_ext hy hx fun i hi => ?_) hne
    cases h1 : wt x i with
    | true => exact hs i h1
    | false =>
      cases h2 : wt y i with
      | false => rfl
      | true => exact absurd ⟨i, hi, h1, h2⟩ h
theorem wcnt_all {x : Int32} (h : 12 ≤ wcnt x) : ∀ i, i < 12 → wt x i = true := by
  intro i hi
  have hle : wcnt x ≤ (List.range' 0 12).length := List.countP_le_length
  have hlen : (List.range' 0 12).length = 12 := rfl
  have he : (List.range' 0 12).countP (wt x) = (List.range' 0 12).length := by unfold wcnt at h hle; omega
  exact List.countP_eq_length.mp he i (w_m12 hi)
theorem wcnt_0 {x : Int32} (h : wcnt x = 0) : ∀ i, i < 12 → wt x i = false := by
  intro i hi
  have h1 := List.countP_eq_zero.mp h i (w_m12 hi)
  cases hb : wt x i with
  | false => rfl
  | true => exact absurd hb h1
theorem wit_ok {U : Nat → Int32} {f : Int32 → Int32} (hf : wP U f) : ∀ (n : Nat) (x : Int32), wM x → wS x (wit f n x) ∧ (∀ y, wC U y → wS x y → wS (wit f n x) y) ∧ wM (wit f n x)
  | 0, x, hx => ⟨fun _ h => h, fun _ _ h => h, hx⟩
  | n + 1, x, hx => by
    obtain ⟨a, b, c⟩ := wit_ok hf n (f x) (hf.2.2.2 x hx)
    exact ⟨fun i hi => a i (hf.1 x i hi), fun y hy hs => b y hy (hf.2.1 x y hy hs), c⟩
theorem wit_closed {U : Nat → Int32} (hU : ∀ i, i < 12 → wM (U i)) {f : Int32 → Int32} (hf : wP U f) : ∀ (n : Nat) (x : Int32), wM x → 12 ≤ wcnt x + n → wC U (wit f n x)
  | 0, x, hx, h => fun i hi _ j hj => by
    by_cases hj12 : j < 12
    · exact wcnt_all h j hj12
    · rw [hU i hi j (by omega)] at hj; cases hj
  | n + 1, x, hx, h => by
    by_cases hq : f x = x
    · rw [wit_fix hq]; exact hf.2.2.1 x hq
    · have := wcnt_lt (hf.1 x) hx (hf.2.2.2 x hx) hq
      exact wit_closed hU hf n (f x) (hf.2.2.2 x hx) (by omega)
theorem wit_cl {U : Nat → Int32} (hU : ∀ i, i < 12 → wM (U i)) {f : Int32 → Int32} (hf : wP U f) {n : Nat} (hn : 11 ≤ n) {x : Int32} (hx : wM x) : wC U (wit f n x) := by
  by_cases h : wcnt x = 0
  · have hc : wC U x := fun i hi hb => by rw [wcnt_0 h i hi] at hb; cases hb
    have e : f x = x := wM_ext (hf.2.2.2 x hx) hx fun i _ => by
      cases hb : wt x i with
      | true => exact hf.1 x i hb
      | false =>
        cases hb2 : wt (f x) i with
        | false => rfl
        | true => rw [hf.2.1 x x hc (fun _ h => h) i hb2] at hb; cases hb
    rw [wit_fix e]; exact hc
  · exact wit_closed hU hf n x hx (by omega)
theorem wk_wit (U : Nat → Int32) : ∀ (n : Nat) (x : Int32), wk U n x = wit (wj U) n x
  | 0, _ => rfl
  | n + 1, x => by
    by_cases h : wj U x = x
    · rw [wk, if_pos h, wit_fix h]
    · rw [wk, if_neg h, wk_wit U n]; rfl
theorem wc_wit (U : Nat → Int32) (x : Int32) : wc U x = wit (wr U) 12 x := rfl
/-- the class's closure is the reference's -/
theorem wk_wc {U : Nat → Int32} (hU : ∀ i, i < 12 → wM (U i)) {x : Int32} (hx : wM x) : wk U 11 x = wc U x := by
  rw [wk_wit, wc_wit]
  obtain ⟨a1, b1, c1⟩ := wit_ok (wP_wj hU) 11 x hx
  obtain ⟨a2, b2, c2⟩ := wit_ok (wP_wr hU) 12 x hx
  have d1 := wit_cl hU (wP_wj hU) (Nat.le_refl 11) hx
  have d2 := wit_cl hU (wP_wr hU) (by decide : 11 ≤ 12) hx
  refine wM_ext c1 c2 fun i _ => ?_
  cases h1 : wt (wit (wj U) 11 x) i with
  | true => exact (b1 _ d2 a2 i h1).symm
  | false =>
    cases h2 : wt (wit (wr U) 12 x) i with
    | false => rfl
    | true => rw [b2 _ d1 a1 i h2] at h1; cases h1
theorem wc_M {U : Nat → Int32} (hU : ∀ i, i < 12 → wM (U i)) {x : Int32} (hx : wM x) : wM (wc U x) := by
  rw [wc_wit]; exact (wit_ok (wP_wr hU) 12 x hx).2.2
theorem wt_4095 : ∀ i, i < 12 → wt 4095 i = true := by decide
theorem wM_4095 {x : Int32} (hx : wM x) : x &&& 4095 = x := wt_ext fun i _ => by
  rw [wt_and]
  by_cases h : i < 12
  · rw [wt_4095 i h, Bool.and_true]
  · rw [hx i (by omega)]; rfl
theorem wM_nat {x : Int32} (hx : wM x) : ∃ n, n < 4096 ∧ x = Int32.ofNat n := by
  refine ⟨x.toBitVec.toNat, ?_, Int32.toBitVec_inj.mp ?_⟩
  · have h : (x &&& 4095).toBitVec.toNat = x.toBitVec.toNat := congrArg (fun y : Int32 => y.toBitVec.toNat) (wM_4095 hx)
    rw [Int32.toBitVec_and, BitVec.toNat_and] at h
    have h2 : x.toBitVec.toNat &&& (4095 : Int32).toBitVec.toNat ≤ (4095 : Int32).toBitVec.toNat := Nat.and_le_right
    have h3 : (4095 : Int32).toBitVec.toNat = 4095 := by decide
    omega
  · rw [Int32.toBitVec_ofNat', BitVec.ofNat_toNat, BitVec.setWidth_eq]
theorem wb_wm' {x : Int32} (hx : wM x) : wb x = wm x := by
  obtain ⟨n, hn, rfl⟩ := wM_nat hx
  exact wb_wm n hn
theorem wM_of {x : Int32} (h0 : 0 ≤ x) (h1 : x < 4096) : wM x := by
  intro i hi
  have e1 : x = Int32.ofNat x.toNatClampNeg := (Int32.ofNat_toNatClampNeg x h0).symm
  have e2 : x.toNatClampNeg < 4096 := by
    have a := Int32.lt_iff_toInt_lt.mp h1
    have b := Int32.le_iff_toInt_le.mp h0
    have c : (4096 : Int32).toInt = 4096 := by decide
    have d : (0 : Int32).toInt = 0 := by decide
    rw [c] at a; rw [d] at b
    show x.toInt.toNat < 4096
    omega
  rw [e1]
  unfold wt
  rw [Int32.toBitVec_ofNat', BitVec.getLsbD_ofNat]
  rw [Nat.testBit_lt_two_pow (Nat.lt_of_lt_of_le e2 (Nat.pow_le_pow_right (by decide) hi : 2 ^ 12 ≤ 2 ^ i))]
  simp
