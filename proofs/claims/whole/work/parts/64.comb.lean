/-! judging: the loops over a policy's nodes -/
def kl (n N : Nat) : List Nat := List.range' (n + 1) (N - (n + 1))
theorem kl_mem {n N k : Nat} (h : k ∈ kl n N) : n < k ∧ k < N := by
  unfold kl at h
  rw [List.mem_range'_1] at h; omega
/-- some node in n has the value x -/
def sm (P V : Nat → Int32) (n N : Nat) (x : Int32) : Bool := (kl n N).any fun k => decide (P k = Int32.ofNat n) && decide (V k = x)
def sw (P V : Nat → Int32) (n N : Nat) : Int32 := (kl n N).foldl (fun y k => if P k = Int32.ofNat n then y ||| (1 <<< (V k &&& 31)) else y) 0
theorem sw_fold {P V : Nat → Int32} {a : Int32} {x : Nat} (hx : x < 6) : ∀ (l : List Nat) (y : Int32), (∀ k ∈ l, ∃ v, v < 6 ∧ V k = Int32.ofNat v) → wt (l.foldl (fun y k => if P k = a then y ||| (1 <<< (V k &&& 31)) else y) y) x = (wt y x || l.any fun k => decide (P k = a) && decide (V k = Int32.ofNat x))
  | [], y, _ => by rw [List.foldl_nil, List.any_nil, Bool.or_false]
  | k :: l, y, h => by
    rw [List.foldl_cons, sw_fold hx l _ (fun k hk => h k (List.mem_cons_of_mem _ hk)), List.any_cons]
    obtain ⟨v, hv, e⟩ := h k List.mem_cons_self
    by_cases q : P k = a
    · rw [if_pos q, decide_eq_true q, Bool.true_and, wt_or, e, wt_1 v (by omega) x (by omega), Bool.or_assoc]
      have : decide (x = v) = decide (Int32.ofNat v = Int32.ofNat x) := by
        by_cases z : x = v
        · rw [decide_eq_true z, decide_eq_true (by rw [z])]
        · rw [decide_eq_false z, decide_eq_false (fun y => z (x_inj (by omega) (by omega) y.symm))]
      rw [this]
    · rw [if_neg q, decide_eq_false q, Bool.false_and, Bool.false_or]
theorem sw_bit {P V : Nat → Int32} {n N : Nat} (hV : ∀ k, k < N → n < k → ∃ v, v < 6 ∧ V k = Int32.ofNat v) {x : Nat} (hx : x < 6) (σ : xS) : g28 (sw P V n N) (Int32.ofNat x) σ = some (.inl (xb (sm P V n N (Int32.ofNat x))), σ) := by
  rw [g28_eq]
  have h := sw_fold (P := P) (V := V) (a := Int32.ofNat n) hx (kl n N) 0 (fun k hk => hV k (kl_mem hk).2 (kl_mem hk).1)
  have h0 : wt 0 x = false := by unfold wt; show (0#32).getLsbD x = false; rw [BitVec.getLsbD_zero]
  rw [h0, Bool.false_or] at h
  have e : decide ((sw P V n N >>> (Int32.ofNat x &&& 31)) &&& 1 = 1) = sm P V n N (Int32.ofNat x) := by
    have h' : wt (sw P V n N) x = sm P V n N (Int32.ofNat x) := h
    rw [← h']
    cases hb : wt (sw P V n N) x with
    | true => exact decide_eq_true ((wt_bit _ (by omega)).mpr hb)
    | false => exact decide_eq_false (fun z => by rw [(wt_bit _ (by omega)).mp z] at hb; cases hb)
  rw [e]
theorem g129_eq {p n N : Nat} {σ : xS} (hn : n < N) (hN : N ≤ 40) (h7 : σ (59 - p) 7 = Int32.ofNat N) : g129 p (Int32.ofNat n) σ = some (.inl (sw (σ (59 - p + 2)) (σ 48) n N), σ) := by
  unfold g129 g129_6
  rw [x_succ]
  exact xlo_for (f := fun a : Int32 × Int32 × Int32 × xS => g129_6b p a.1 a.2.1 a.2.2.1 a.2.2.2) (fun i y => (Int32.ofNat n, y, Int32.ofNat i, σ)) N (fun k y => if σ (59 - p + 2) k = Int32.ofNat n then y ||| (1 <<< (σ 48 k &&& 31)) else y) (fun y => ((Sum.inl y, σ) : xQ)) (fun i y hi => by
    dsimp only
    unfold g129_6b g129_41
    rw [h7, if_neg (by rw [x_le1000 (by omega) (by omega)]; omega), xn_of (by omega) (by omega), cond_true, Int32.toNatClampNeg_ofNat_of_lt (by omega), x_succ]
    by_cases q : σ (59 - p + 2) i = Int32.ofNat n
    · rw [if_pos q, if_pos q]
    · rw [if_neg q, if_neg q]) (fun y => by
    dsimp only
    unfold g129_6b
    rw [h7, if_pos (Int32.le_refl _)]) (N - (n + 1)) 1000 (n + 1) 0 (by omega) (by omega)
/-- a search of the reference -/
theorem g203_eq {n N : Nat} {s : xS} (hn : n < N) (hN : N ≤ 40) (h70 : s 70 0 = Int32.ofNat N) (x : Int32) : g203 (Int32.ofNat n) x s = some (.inl (xb (sm (s 72) (s 88) n N x)), s) := by
  unfold g203 g203_4
  rw [x_succ]
  refine (xlo_find (f := fun a : Int32 × Int32 × Int32 × xS => g203_4b a.1 a.2.1 a.2.2.1 a.2.2.2) (fun i => (Int32.ofNat n, x, Int32.ofNat i, s)) N (fun k => bif decide (s 72 k = Int32.ofNat n) && decide (s 88 k = x) then some ((Sum.inl 1, s) : xQ) else none) (Sum.inl 0, s) (fun i hi => ?_) ?_ (N - (n + 1)) 1000 (n + 1) (by omega) (by omega)).trans ?_
  · dsimp only
    unfold g203_4b g203_36
    rw [h70, if_neg (by rw [x_le1000 (by omega) (by omega)]; omega), xn_of (by omega) (by omega), cond_true, Int32.toNatClampNeg_ofNat_of_lt (by omega), xn_of (by omega) (by omega), cond_true, x_succ]
    by_cases q : s 72 i = Int32.ofNat n
    · rw [if_pos q, decide_eq_true q]
      by_cases y : s 88 i = x
      · rw [if_pos y, decide_eq_true y]; rfl
      · rw [if_neg y, decide_eq_false y]; rfl
    · rw [if_neg q, decide_eq_false q]; rfl
  · dsimp only
    unfold g203_4b
    rw [h70, if_pos (Int32.le_refl _)]
  · rw [w_find]
    show some (bif sm (s 72) (s 88) n N x then _ else _) = _
    cases sm (s 72) (s 88) n N x <;> rfl
def ovr (s : Int32 → Bool) (a b : Int32) : Int32 := bif s a then a else bif s 5 || (s (a + 2) && (s b || s (b + 2))) then 5 else bif s (a + 2) then a + 2 else bif s b then b else bif s (b + 2) then b + 2 else 0
theorem g130_eq {S : Int32} {s : Int32 → Bool} {a b : Int32} (h : ∀ x, x = a ∨ x = b ∨ x = a + 2 ∨ x = b + 2 ∨ x = 5 → ∀ σ, g28 S x σ = some (.inl (xb (s x)), σ)) (σ : xS) : g130 a b S σ = some (.inl (ovr s a b), σ) := by
  have ha := h a (Or.inl rfl)
  have hb := h b (Or.inr (Or.inl rfl))
  have ha2 := h (a + 2) (Or.inr (Or.inr (Or.inl rfl)))
  have hb2 := h (b + 2) (Or.inr (Or.inr (Or.inr (Or.inl rfl))))
  have h5 := h 5 (Or.inr (Or.inr (Or.inr (Or.inr rfl))))
  unfold ovr
  simp only [g130, g130_36, g130_41, g130_66, ha, hb, ha2, hb2, h5, xb_if]
  cases s a <;> cases s b <;> cases s (a + 2) <;> cases s (b + 2) <;> cases s 5 <;> rfl
theorem g202_eq {n : Int32} {s : Int32 → Bool} {a b : Int32} {σ : xS} (h : ∀ x, g203 n x σ = some (.inl (xb (s x)), σ)) : g202 n a b σ = some (.inl (ovr s a b), σ) := by
  unfold ovr
  simp only [g202, g202_53, h, xb_if]
  cases s a <;> cases s b <;> cases s (a + 2) <;> cases s (b + 2) <;> cases s 5 <;> rfl
/-- duties of the nodes in n whose value is v, behind z -/
def orD (P V D : Nat → Int32) (n N : Nat) (v z : Int32) : Int32 := (kl n N).foldl (fun y k => if P k = Int32.ofNat n ∧ V k = v then y ||| D k else y) z
theorem g131_eq {p n N : Nat} {σ : xS} (hp : p = 23 ∨ p = 36) (hn : n < N) (hN : N ≤ 40) (h7 : σ (59 - p) 7 = Int32.ofNat N) (v : Int32) : g131 p (Int32.ofNat n) v σ = some (.inl 0, xh_ui (xh_ui σ 48 n v) 49 n (orD (σ (59 - p + 2)) (σ 48) (σ 49) n N v (σ 49 n))) := by
  unfold g131 g131_11
  rw [xn_of (by omega) (by omega), cond_true, Int32.toNatClampNeg_ofNat_of_lt (by omega), x_succ]
  have lp : ∀ (k f i : Nat) (y : Int32), n < i → i + k = N → k < f → xlo (fun a : Int32 × Int32 × Int32 × xS => g131_11b p a.1 a.2.1 a.2.2.1 a.2.2.2) f (Int32.ofNat n, v, Int32.ofNat i, xh_ui (xh_ui σ 48 n v) 49 n y) = some (.inl 0, xh_ui (xh_ui σ 48 n v) 49 n ((List.range' i k).foldl (fun y k => if σ (59 - p + 2) k = Int32.ofNat n ∧ σ 48 k = v then y ||| σ 49 k else y) y)) := by
    intro k
    induction k with
    | zero =>
      intro f i y hi hk hf
      obtain ⟨f, rfl⟩ : ∃ f', f = f' + 1 := ⟨f - 1, by omega⟩
      have hiN : i = N := by omega
      have e7 : xh_ui (xh_ui σ 48 n v) 49 n y (59 - p) 7 = Int32.ofNat N := by rw [xu_o (by omega), xu_o (by omega)]; exact h7
      refine xlo_end ?_
      dsimp only
      unfold g131_11b
      rw [e7, hiN, if_pos (Int32.le_refl _)]
      rfl
    | succ k ih =>
      intro f i y hi hk hf
      obtain ⟨f, rfl⟩ : ∃ f', f = f' + 1 := ⟨f - 1, by omega⟩
      have e7 : xh_ui (xh_ui σ 48 n v) 49 n y (59 - p) 7 = Int32.ofNat N := by rw [xu_o (by omega), xu_o (by omega)]; exact h7
      have e2 : xh_ui (xh_ui σ 48 n v) 49 n y (59 - p + 2) i = σ (59 - p + 2) i := by rw [xu_o (by omega), xu_o (by omega)]
      have e48 : xh_ui (xh_ui σ 48 n v) 49 n y 48 i = σ 48 i := by rw [xu_o (by decide), xu_n (by omega)]
      have e49 : xh_ui (xh_ui σ 48 n v) 49 n y 49 i = σ 49 i := by rw [xu_n (by omega), xu_o (by decide)]
      have e49n : xh_ui (xh_ui σ 48 n v) 49 n y 49 n = y := xu_s _ _ _ _
      have step : g131_11b p (Int32.ofNat n) v (Int32.ofNat i) (xh_ui (xh_ui σ 48 n v) 49 n y) = some (.inl (Int32.ofNat n, v, Int32.ofNat (i + 1), xh_ui (xh_ui σ 48 n v) 49 n (if σ (59 - p + 2) i = Int32.ofNat n ∧ σ 48 i = v then y ||| σ 49 i else y))) := by
        unfold g131_11b g131_60
        rw [e7, if_neg (by rw [x_le1000 (by omega) (by omega)]; omega), xn_of (by omega) (by omega), cond_true, Int32.toNatClampNeg_ofNat_of_lt (by omega), e2, e48, x_succ]
        by_cases q : σ (59 - p + 2) i = Int32.ofNat n
        · rw [if_pos q]
          by_cases w : σ 48 i = v
          · rw [if_pos w, if_pos ⟨q, w⟩, xn_of (by omega) (by omega), cond_true, Int32.toNatClampNeg_ofNat_of_lt (by omega), e49, e49n, xu_u]
          · rw [if_neg w, if_neg (fun z => w z.2)]
        · rw [if_neg q, if_neg (fun z => q z.1)]
      rw [xlo_step (a := (Int32.ofNat n, v, Int32.ofNat i, xh_ui (xh_ui σ 48 n v) 49 n y)) step, ih f (i + 1) _ (by omega) (by omega) (by omega), List.range'_succ, List.foldl_cons]
  have := lp (N - (n + 1)) 1000 (n + 1) (σ 49 n) (by omega) (by omega) (by omega)
  have eid : xh_ui (xh_ui σ 48 n v) 49 n (σ 49 n) = xh_ui σ 48 n v := funext fun c => by
    by_cases h : c = 49
    · subst h; rw [xu_a, xu_o (by decide), upd_id rfl]
    · rw [xu_o h]
  rw [eid] at this
  exact this
/-- the first node in n of which c holds -/
def fst1 (P : Nat → Int32) (c : Nat → Bool) (n N : Nat) : Option Nat := (kl n N).find? fun k => decide (P k = Int32.ofNat n) && c k
def oi (x : Option Nat) : Int32 := match x with
  | none => -1
  | some k => Int32.ofNat k
theorem fs_find {γ : Type} (l : List Nat) (c : Nat → Bool) (A : Nat → γ) (B : γ) : ((l.findSome? fun i => bif c i then some (A i) else none).getD B) = match l.find? c with | some k => A k | none => B := by
  induction l with
  | nil => rfl
  | cons a l ih =>
    rw [List.findSome?_cons, List.find?_cons]
    cases c a with
    | true => rfl
    | false => exact ih
theorem fst1_lt {P : Nat → Int32} {c : Nat → Bool} {n N k : Nat} (h : fst1 P c n N = some k) : n < k ∧ k < N ∧ P k = Int32.ofNat n ∧ c k = true := by
  have h1 := List.mem_of_find?_eq_some h
  have h2 := List.find?_some h
  rw [Bool.and_eq_true, decide_eq_true_eq] at h2
  exact ⟨(kl_mem h1).1, (kl_mem h1).2, h2.1, h2.2⟩
theorem g132_eq {p n N : Nat} {σ : xS} (hn : n < N) (hN : N ≤ 40) (h7 : σ (59 - p) 7 = Int32.ofNat N) : g132 p (Int32.ofNat n) σ = some (.inl (oi (fst1 (σ (59 - p + 2)) (fun k => !decide (σ 48 k = 0)) n N)), σ) := by
  unfold g132 g132_4
  rw [x_succ]
  refine (xlo_find (f := fun a : Int32 × Int32 × xS => g132_4b p a.1 a.2.1 a.2.2) (fun i => (Int32.ofNat n, Int32.ofNat i, σ)) N (fun k => bif decide (σ (59 - p + 2) k = Int32.ofNat n) && !decide (σ 48 k = 0) then some ((Sum.inl (Int32.ofNat k), σ) : xQ) else none) (Sum.inl (-1), σ) (fun i hi => ?_) ?_ (N - (n + 1)) 1000 (n + 1) (by omega) (by omega)).trans ?_
  · dsimp only
    unfold g132_4b g132_39
    rw [h7, if_neg (by rw [x_le1000 (by omega) (by omega)]; omega), xn_of (by omega) (by omega), cond_true, Int32.toNatClampNeg_ofNat_of_lt (by omega), x_succ]
    by_cases q : σ (59 - p + 2) i = Int32.ofNat n
    · rw [if_pos q, decide_eq_true q]
      by_cases y : σ 48 i = 0
      · rw [if_pos y, decide_eq_true y]; rfl
      · rw [if_neg y, decide_eq_false y]; rfl
    · rw [if_neg q, decide_eq_false q]; rfl
  · dsimp only
    unfold g132_4b
    rw [h7, if_pos (Int32.le_refl _)]
  · rw [fs_find]
    show some (match fst1 (σ (59 - p + 2)) (fun k => !decide (σ 48 k = 0)) n N with | some k => ((Sum.inl (Int32.ofNat k), σ) : xQ) | none => (Sum.inl (-1), σ)) = _
    cases fst1 (σ (59 - p + 2)) (fun k => !decide (σ 48 k = 0)) n N <;> rfl
theorem g205_eq {n N : Nat} {s : xS} (hn : n < N) (hN : N ≤ 40) (h70 : s 70 0 = Int32.ofNat N) : g205 (Int32.ofNat n) s = some (.inl (oi (fst1 (s 72) (fun k => if s 71 n = 70 then !decide (s 88 k = 0) else decide (s 87 k = 1)) n N)), s) := by
  unfold g205 g205_4
  rw [x_succ]
  refine (xlo_find (f := fun a : Int32 × Int32 × xS => g205_4b a.1 a.2.1 a.2.2) (fun i => (Int32.ofNat n, Int32.ofNat i, s)) N (fun k => bif decide (s 72 k = Int32.ofNat n) && (if s 71 n = 70 then !decide (s 88 k = 0) else decide (s 87 k = 1)) then some ((Sum.inl (Int32.ofNat k), s) : xQ) else none) (Sum.inl (-1), s) (fun i hi => ?_) ?_ (N - (n + 1)) 1000 (n + 1) (by omega) (by omega)).trans ?_
  · dsimp only
    unfold g205_4b g205_59
    rw [h70, if_neg (by rw [x_le1000 (by omega) (by omega)]; omega), xn_of (by omega) (by omega), cond_true, Int32.toNatClampNeg_ofNat_of_lt (by omega), xn_of (by omega) (by omega), cond_true, Int32.toNatClampNeg_ofNat_of_lt (by omega), xn_of (by omega) (by omega), cond_true, x_succ]
    by_cases q : s 72 i = Int32.ofNat n
    · rw [if_pos q, decide_eq_true q]
      by_cases f : s 71 n = 70
      · rw [if_pos f, if_pos f]
        by_cases y : s 88 i = 0
        · rw [if_pos y, decide_eq_true y]; rfl
        · rw [if_neg y, decide_eq_false y]; rfl
      · rw [if_neg f, if_neg f]
        by_cases y : s 87 i = 1
        · rw [if_pos y, decide_eq_true y]; rfl
        · rw [if_neg y, decide_eq_false y]; rfl
    · rw [if_neg q, decide_eq_false q]; rfl
  · dsimp only
    unfold g205_4b
    rw [h70, if_pos (Int32.le_refl _)]
  · rw [fs_find]
    show some (match fst1 (s 72) (fun k => if s 71 n = 70 then !decide (s 88 k = 0) else decide (s 87 k = 1)) n N with | some k => ((Sum.inl (Int32.ofNat k), s) : xQ) | none => (Sum.inl (-1), s)) = _
    cases fst1 (s 72) (fun k => if s 71 n = 70 then !decide (s 88 k = 0) else decide (s 87 k = 1)) n N <;> rfl
/-- only one applicable: none where there are several or one unsure; else which -/
def oo (P T : Nat → Int32) (n : Nat) : List Nat → Option Nat → Option (Option Nat)
  | [], o => some o
  | k :: l, o => if P k = Int32.ofNat n then (if T k = 0 then oo P T n l o else if T k = 1 then none else if o.isNone = true then oo P T n l (some k) else none) else oo P T n l o
theorem g134_eq {p n N : Nat} {σ : xS} (hp : p = 23 ∨ p = 36) (hn : n < N) (hN : N ≤ 40) (h7 : σ (59 - p) 7 = Int32.ofNat N) : g134 p (Int32.ofNat n) σ = (match oo (σ (59 - p + 2)) (σ 47) n (kl n N) none with | none => some (.inl 0, xh_ui σ 48 n 5) | some none => some (.inl 0, σ) | some (some k) => some (.inl 0, xh_ui (xh_ui σ 48 n (σ 48 k)) 49 n (σ 49 k))) := by
  have e54 : g134_54 p (Int32.ofNat n) σ = some (.inl 0, xh_ui σ 48 n 5) := by
    unfold g134_54; rw [xn_of (by omega) (by omega), cond_true, Int32.toNatClampNeg_ofNat_of_lt (by omega)]
  have lp : ∀ (k f i : Nat) (o : Option Nat), n < i → i + k = N → k < f → (∀ m, o = some m → m < N) → xlo (fun a : Int32 × Int32 × Int32 × xS => g134_6b p a.1 a.2.1 a.2.2.1 a.2.2.2) f (Int32.ofNat n, oi o, Int32.ofNat i, σ) = (match oo (σ (59 - p + 2)) (σ 47) n (List.range' i k) o with | none => some (.inl 0, xh_ui σ 48 n 5) | some none => some (.inl 0, σ) | some (some k) => some (.inl 0, xh_ui (xh_ui σ 48 n (σ 48 k)) 49 n (σ 49 k))) := by
    intro k
    induction k with
    | zero =>
      intro f i o hi hk hf ho
      obtain ⟨f, rfl⟩ : ∃ f', f = f' + 1 := ⟨f - 1, by omega⟩
      have hiN : i = N := by omega
      have e : g134_6b p (Int32.ofNat n) (oi o) (Int32.ofNat i) σ = (match g133 (Int32.ofNat n) (oi o) σ with | some (Sum.inl v2, s3) => some (Sum.inr ((Sum.inl 0, s3))) | some (Sum.inr v2, s3) => none | none => none) := by
        unfold g134_6b
        rw [h7, hiN, if_pos (Int32.le_refl _)]
        rfl
      rw [List.range'_zero]
      cases o with
      | none =>
        refine xlo_end ?_
        show g134_6b p (Int32.ofNat n) (-1) (Int32.ofNat i) σ = _
        have e : g134_6b p (Int32.ofNat n) (-1) (Int32.ofNat i) σ = _ := e
        rw [e]
        rfl
      | some m =>
        have hm := ho m rfl
        refine xlo_end ?_
        show g134_6b p (Int32.ofNat n) (Int32.ofNat m) (Int32.ofNat i) σ = _
        have e : g134_6b p (Int32.ofNat n) (Int32.ofNat m) (Int32.ofNat i) σ = _ := e
        rw [e, show oi (some m) = Int32.ofNat m from rfl]
        unfold g133
        have e49 : xh_ui σ 48 n (σ 48 m) 49 m = σ 49 m := rfl
        rw [if_neg (x40n m (by omega)), xn_of (by omega) (by omega), cond_true, xn_of (by omega) (by omega), cond_true, Int32.toNatClampNeg_ofNat_of_lt (by omega), Int32.toNatClampNeg_ofNat_of_lt (by omega), e49]
    | succ k ih =>
      intro f i o hi hk hf ho
      obtain ⟨f, rfl⟩ : ∃ f', f = f' + 1 := ⟨f - 1, by omega⟩
      rw [List.range'_succ, oo]
      have hb : g134_6b p (Int32.ofNat n) (oi o) (Int32.ofNat i) σ = (if σ (59 - p + 2) i = Int32.ofNat n then (if σ 47 i = 0 then some (.inl (Int32.ofNat n, oi o, Int32.ofNat (i + 1), σ)) else (if σ 47 i = 1 then Option.map Sum.inr (g134_54 p (Int32.ofNat n) σ) else (if oi o = (-1) then some (.inl (Int32.ofNat n, Int32.ofNat i, Int32.ofNat (i + 1), σ)) else Option.map Sum.inr (g134_54 p (Int32.ofNat n) σ)))) else some (.inl (Int32.ofNat n, oi o, Int32.ofNat (i + 1), σ))) := by
        unfold g134_6b g134_64
        rw [h7, if_neg (by rw [x_le1000 (by omega) (by omega)]; omega), xn_of (by omega) (by omega), cond_true, Int32.toNatClampNeg_ofNat_of_lt (by omega), x_succ]
      by_cases q : σ (59 - p + 2) i = Int32.ofNat n
      · rw [if_pos q] at hb ⊢
        by_cases z0 : σ 47 i = 0
        · rw [if_pos z0] at hb ⊢
          rw [xlo_step (a := (Int32.ofNat n, oi o, Int32.ofNat i, σ)) hb, ih f (i + 1) o (by omega) (by omega) (by omega) ho]
        · rw [if_neg z0] at hb ⊢
          by_cases z1 : σ 47 i = 1
          · rw [if_pos z1] at hb ⊢
            exact (xlo_map (a := (Int32.ofNat n, oi o, Int32.ofNat i, σ)) hb).trans e54
          · rw [if_neg z1] at hb ⊢
            cases o with
            | none =>
              have hb : g134_6b p (Int32.ofNat n) (-1) (Int32.ofNat i) σ = some (.inl (Int32.ofNat n, Int32.ofNat i, Int32.ofNat (i + 1), σ)) := by
                have hb : g134_6b p (Int32.ofNat n) (-1) (Int32.ofNat i) σ = _ := hb
                rw [hb]
                rfl
              rw [if_pos (show (none : Option Nat).isNone = true from rfl)]
              show xlo _ (f + 1) (Int32.ofNat n, (-1 : Int32), Int32.ofNat i, σ) = _
              rw [xlo_step (a := (Int32.ofNat n, (-1 : Int32), Int32.ofNat i, σ)) hb]
              exact ih f (i + 1) (some i) (by omega) (by omega) (by omega) (fun m hm => by cases hm; omega)
            | some m =>
              have hm := ho m rfl
              rw [if_neg (show ¬ oi (some m) = -1 from x40n m (by omega))] at hb
              rw [if_neg (show ¬ (some m).isNone = true from fun z => by cases z)]
              exact (xlo_map (a := (Int32.ofNat n, oi (some m), Int32.ofNat i, σ)) hb).trans e54
      · rw [if_neg q] at hb ⊢
        rw [xlo_step (a := (Int32.ofNat n, oi o, Int32.ofNat i, σ)) hb, ih f (i + 1) o (by omega) (by omega) (by omega) ho]
  unfold g134 g134_6
  rw [x_succ]
  exact lp (N - (n + 1)) 1000 (n + 1) none (by omega) (by omega) (by omega) (fun m hm => by cases hm)
