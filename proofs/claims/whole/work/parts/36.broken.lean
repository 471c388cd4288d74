/-! is a bound broken: class and reference -/
theorem xn_of {m n : Nat} (hm : m < 2 ^ 31) (h : m < n) : xn (Int32.ofNat m) n = true := by
  have h1 : ¬ Int32.ofNat m < 0 := by
    rw [Int32.lt_iff_toInt_lt, Int32.toInt_ofNat_of_lt hm]
    have h0 : (0 : Int32).toInt = 0 := by decide
    omega
  unfold xn
  rw [decide_eq_false h1, Int32.toNatClampNeg_ofNat_of_lt hm, Bool.not_false, Bool.true_and, Nat.blt_eq]
  exact h
theorem x_below {x : Int32} {k : Nat} (hk : k < 2 ^ 31) (h0 : 0 ≤ x) (h1 : x < Int32.ofNat k) : ∃ m, m < k ∧ x = Int32.ofNat m := by
  refine ⟨x.toNatClampNeg, ?_, (Int32.ofNat_toNatClampNeg x h0).symm⟩
  have a := Int32.lt_iff_toInt_lt.mp h1
  have b := Int32.le_iff_toInt_le.mp h0
  rw [Int32.toInt_ofNat_of_lt hk] at a
  have c : (0 : Int32).toInt = 0 := by decide
  rw [c] at b
  show x.toInt.toNat < k
  omega
theorem w_any {l : List Nat} {p q : Nat → Bool} (h : ∀ i ∈ l, p i = q i) : l.any p = l.any q := by
  induction l with
  | nil => rfl
  | cons a l ih => rw [List.any_cons, List.any_cons, h a List.mem_cons_self, ih fun i hi => h i (List.mem_cons_of_mem _ hi)]
theorem w_anyr {n : Nat} {p q : Nat → Bool} (h : ∀ i, i < n → p i = q i) : (List.range' 0 n).any p = (List.range' 0 n).any q :=
  w_any fun i hi => h i (by rw [List.mem_range'_1] at hi; omega)
theorem w_find {γ : Type} (l : List Nat) (c : Nat → Bool) (A B : γ) : ((l.findSome? fun i => bif c i then some A else none).getD B) = bif l.any c then A else B := by
  induction l with
  | nil => rfl
  | cons a l ih =>
    rw [List.findSome?_cons, List.any_cons]
    cases c a with
    | true => rfl
    | false => exact ih
theorem wf_any (N : Nat) (x : Nat → Int32) (n : Int32) (σ : xS) : wf N x n σ = (Sum.inl (xb ((List.range' 0 N).any fun i => !decide (x i < n))), σ) := by
  unfold wf
  have e : (fun i => if x i < n then none else some ((Sum.inl 1, σ) : xQ)) = fun i => bif !decide (x i < n) then some ((Sum.inl 1, σ) : xQ) else none := funext fun i => by
    by_cases h : x i < n
    · rw [if_pos h, decide_eq_true h]; rfl
    · rw [if_neg h, decide_eq_false h]; rfl
  rw [e, w_find]
  cases (List.range' 0 N).any fun i => !decide (x i < n) <;> rfl
theorem wo_any (N : Nat) (o x : Nat → Int32) (n : Int32) (σ : xS) : wo N o x n σ = (Sum.inl (xb ((List.range' 0 N).any fun i => !decide (o i = 0) && !decide (x i < n))), σ) := by
  unfold wo
  have e : (fun i => if o i = 0 then none else if x i < n then none else some ((Sum.inl 1, σ) : xQ)) = fun i => bif !decide (o i = 0) && !decide (x i < n) then some ((Sum.inl 1, σ) : xQ) else none := funext fun i => by
    by_cases h0 : o i = 0
    · rw [if_pos h0, decide_eq_true h0]; rfl
    · rw [if_neg h0, decide_eq_false h0]
      by_cases h : x i < n
      · rw [if_pos h, decide_eq_true h]; rfl
      · rw [if_neg h, decide_eq_false h]; rfl
  rw [e, w_find]
  cases (List.range' 0 N).any fun i => !decide (o i = 0) && !decide (x i < n) <;> rfl
/-- is the class's bound broken -/
def wz (U G A : Nat → Int32) (d r n : Int32) : Bool := if d = 0 then (List.range' 0 8).any (fun i => !decide (wb (wk U 11 (G i) &&& r) < n)) else (List.range' 0 6).any (fun i => !decide (wb (wk U 11 (A i) &&& r) < n))
/-- is the reference's -/
def wy (U G A O : Nat → Int32) (d r n : Int32) : Bool := if d = 0 then (List.range' 0 8).any (fun i => !decide (wm (wc U (G i) &&& r) < n)) else (List.range' 0 6).any (fun i => !decide (O i = 0) && !decide (wm (wc U (A i) &&& r) < n))
theorem g34_eq (d r n : Int32) (σ : xS) : g34 d r n σ = some (.inl (xb (wz (σ 2) (σ 4) (σ 9) d r n)), σ) := by
  unfold g34 wz
  by_cases h : d = 0
  · rw [if_pos h, if_pos h, g38_eq, wf_any]; dsimp only; rw [xb_01, cond_true]
  · rw [if_neg h, if_neg h, g35_eq, wf_any]; dsimp only; rw [xb_01, cond_true]
theorem x66 : ∀ n, n < 7 → ∀ i, i < n → ¬ Int32.ofNat n ≤ Int32.ofNat i := by decide
theorem g33_eq {σ : xS} {n : Nat} (hn : n ≤ 6) (hs : σ 11 3 = Int32.ofNat n) : g33 σ = some (.inl (xb ((List.range' 0 n).any fun b => wz (σ 2) (σ 4) (σ 9) (σ 12 b) (σ 13 b) (σ 14 b))), σ) := by
  unfold g33 g33_2
  refine (xlo_find (f := fun a : Int32 × xS => g33_2b a.1 a.2) (fun i => (Int32.ofNat i, σ)) n (fun b => bif wz (σ 2) (σ 4) (σ 9) (σ 12 b) (σ 13 b) (σ 14 b) then some ((Sum.inl 1, σ) : xQ) else none) (Sum.inl 0, σ) (fun i hi => ?_) ?_ n 1000 0 (by omega) (by omega)).trans ?_
  · obtain ⟨h1, h2, h3, h4⟩ := x6 i (by omega)
    dsimp only
    unfold g33_2b
    rw [hs, if_neg (x66 n (by omega) i hi), h2, cond_true, h3, g34_eq]
    dsimp only
    rw [xb_if, h4]
    cases wz (σ 2) (σ 4) (σ 9) (σ 12 i) (σ 13 i) (σ 14 i) <;> rfl
  · dsimp only
    unfold g33_2b
    rw [hs, if_pos (Int32.le_refl _)]
  · rw [w_find]
    cases (List.range' 0 n).any fun b => wz (σ 2) (σ 4) (σ 9) (σ 12 b) (σ 13 b) (σ 14 b) <;> rfl
theorem g155_eq {b : Nat} (hb : b < 6) (σ : xS) : g155 (Int32.ofNat b) σ = some (.inl (xb (wy (σ 54) (σ 55) (σ 60) (σ 58) (σ 62 b) (σ 63 b) (σ 64 b))), σ) := by
  obtain ⟨h1, h2, h3, h4⟩ := x6 b hb
  unfold g155 wy
  rw [h2, cond_true, h3]
  by_cases h : σ 62 b = 0
  · rw [if_pos h, if_pos h, g155_67_eq hb, wf_any]
  · rw [if_neg h, if_neg h, g155_11_eq hb, wo_any]
theorem g154_eq {σ : xS} {n : Nat} (hn : n ≤ 6) (hs : σ 53 8 = Int32.ofNat n) : g154 σ = some (.inl (xb ((List.range' 0 n).any fun b => wy (σ 54) (σ 55) (σ 60) (σ 58) (σ 62 b) (σ 63 b) (σ 64 b))), σ) := by
  unfold g154 g154_2
  refine (xlo_find (f := fun a : Int32 × xS => g154_2b a.1 a.2) (fun i => (Int32.ofNat i, σ)) n (fun b => bif wy (σ 54) (σ 55) (σ 60) (σ 58) (σ 62 b) (σ 63 b) (σ 64 b) then some ((Sum.inl 1, σ) : xQ) else none) (Sum.inl 0, σ) (fun i hi => ?_) ?_ n 1000 0 (by omega) (by omega)).trans ?_
  · obtain ⟨h1, h2, h3, h4⟩ := x6 i (by omega)
    dsimp only
    unfold g154_2b
    rw [hs, if_neg (x66 n (by omega) i hi), g155_eq (by omega)]
    dsimp only
    rw [xb_if, h4]
    cases wy (σ 54) (σ 55) (σ 60) (σ 58) (σ 62 i) (σ 63 i) (σ 64 i) <;> rfl
  · dsimp only
    unfold g154_2b
    rw [hs, if_pos (Int32.le_refl _)]
  · rw [w_find]
    cases (List.range' 0 n).any fun b => wy (σ 54) (σ 55) (σ 60) (σ 58) (σ 62 b) (σ 63 b) (σ 64 b) <;> rfl
theorem wm_0 : wm 0 = 0 := by decide
theorem wc_0 {U : Nat → Int32} (hU : ∀ i, i < 12 → wM (U i)) : wc U 0 = 0 := by
  have hb : ∀ i, wt 0 i = false := fun i => by unfold wt; show (0#32).getLsbD i = false; rw [BitVec.getLsbD_zero]
  have hc : wC U 0 := fun i _ h => by rw [hb i] at h; cases h
  refine wM_ext (wc_M hU wM_0) wM_0 fun i _ => ?_
  cases h : wt (wc U 0) i with
  | false => rw [hb]
  | true => rw [wc_wit] at h; rw [(wit_ok (wP_wr hU) 12 0 wM_0).2.1 0 hc (fun _ h => h) i h]
/-- how a class's session stands to the reference's: closed and empty, or open and the same -/
def wse (o a a' : Int32) : Prop := (o = 0 ∧ a = 0) ∨ (o = 1 ∧ a = a' ∧ wM a)
theorem wz_wy {U G A A' O : Nat → Int32} (hU : ∀ i, i < 12 → wM (U i)) (hG : ∀ i, i < 8 → wM (G i)) (hS : ∀ i, i < 6 → wse (O i) (A i) (A' i)) {d r n : Int32} (hr : wM r) (hn : 0 < n) : wz U G A d r n = wy U G A' O d r n := by
  have key : ∀ x, wM x → wb (wk U 11 x &&& r) = wm (wc U x &&& r) := fun x hx => by rw [wk_wc hU hx, wb_wm' (wM_and (wc_M hU hx))]
  unfold wz wy
  by_cases h : d = 0
  · rw [if_pos h, if_pos h]
    exact w_anyr fun i hi => by rw [key _ (hG i hi)]
  · rw [if_neg h, if_neg h]
    refine w_anyr fun i hi => ?_
    rcases hS i hi with ⟨h1, h2⟩ | ⟨h1, h2, h3⟩
    · rw [h1, h2, key _ wM_0, wc_0 hU, Int32.zero_and, wm_0, decide_eq_true hn]; rfl
    · rw [key _ h3, h1, h2]; rfl
