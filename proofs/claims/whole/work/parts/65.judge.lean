/-! judging: one node -/
/-- the reference's count for only-one-applicable -/
def oc (P U : Nat → Int32) (n : Nat) : List Nat → Nat → Option Nat
  | [], c => some c
  | k :: l, c => if P k = Int32.ofNat n then (if U k = 2 then none else if U k = 1 then oc P U n l (c + 1) else oc P U n l c) else oc P U n l c
theorem oc_2 {P U : Nat → Int32} {n : Nat} : ∀ (l : List Nat) (c : Nat), 2 ≤ c → oc P U n l c = none ∨ ∃ c', oc P U n l c = some c' ∧ 2 ≤ c'
  | [], c, h => Or.inr ⟨c, rfl, h⟩
  | k :: l, c, h => by
    rw [oc]
    by_cases q : P k = Int32.ofNat n
    · rw [if_pos q]
      by_cases u2 : U k = 2
      · rw [if_pos u2]; exact Or.inl rfl
      · rw [if_neg u2]
        by_cases u1 : U k = 1
        · rw [if_pos u1]; exact oc_2 l (c + 1) (by omega)
        · rw [if_neg u1]; exact oc_2 l c h
    · rw [if_neg q]; exact oc_2 l c h
theorem oo_oc {P T U : Nat → Int32} {n : Nat} : ∀ (l : List Nat), (∀ k ∈ l, U k = phi (T k) ∧ v3 (T k)) →
    ((oo P T n l none = none → oc P U n l 0 = none ∨ ∃ c', oc P U n l 0 = some c' ∧ 2 ≤ c') ∧ (oo P T n l none = some none → oc P U n l 0 = some 0) ∧ (∀ k, oo P T n l none = some (some k) → oc P U n l 0 = some 1 ∧ l.find? (fun k => decide (P k = Int32.ofNat n) && decide (U k = 1)) = some k)) ∧
    ∀ m, (oo P T n l (some m) = none → oc P U n l 1 = none ∨ ∃ c', oc P U n l 1 = some c' ∧ 2 ≤ c') ∧ (∀ x, oo P T n l (some m) = some x → x = some m ∧ oc P U n l 1 = some 1)
  | [], _ => ⟨⟨fun h => (by cases h), fun _ => rfl, fun k h => by cases h⟩, fun m => ⟨fun h => (by cases h), fun x h => by cases h; exact ⟨rfl, rfl⟩⟩⟩
  | k :: l, h => by
    obtain ⟨⟨a1, a2, a3⟩, b⟩ := oo_oc (P := P) (T := T) (U := U) (n := n) l (fun k hk => h k (List.mem_cons_of_mem _ hk))
    obtain ⟨hu, hv⟩ := h k List.mem_cons_self
    rw [List.find?_cons]
    by_cases q : P k = Int32.ofNat n
    · rcases hv with t0 | t1 | t2
      · have u0 : U k = 0 := by rw [hu, t0]; decide
        have e1 : ∀ o, oo P T n (k :: l) o = oo P T n l o := fun o => by rw [oo, if_pos q, if_pos t0]
        have e2 : ∀ c, oc P U n (k :: l) c = oc P U n l c := fun c => by rw [oc, if_pos q, if_neg (by rw [u0]; decide), if_neg (by rw [u0]; decide)]
        rw [e1, e2, decide_eq_false (show ¬ U k = 1 by rw [u0]; decide), Bool.and_false]
        exact ⟨⟨a1, a2, a3⟩, fun m => by rw [e1, e2]; exact b m⟩
      · have u2 : U k = 2 := by rw [hu, t1]; decide
        have e1 : ∀ o, oo P T n (k :: l) o = none := fun o => by rw [oo, if_pos q, if_neg (by rw [t1]; decide), if_pos t1]
        have e2 : ∀ c, oc P U n (k :: l) c = none := fun c => by rw [oc, if_pos q, if_pos u2]
        rw [e1, e2]
        exact ⟨⟨fun _ => Or.inl rfl, fun z => (by cases z), fun k z => by cases z⟩, fun m => by rw [e1, e2]; exact ⟨fun _ => Or.inl rfl, fun x z => by cases z⟩⟩
      · have u1 : U k = 1 := by rw [hu, t2]; decide
        have e1 : oo P T n (k :: l) none = oo P T n l (some k) := by rw [oo, if_pos q, if_neg (by rw [t2]; decide), if_neg (by rw [t2]; decide), if_pos (show (none : Option Nat).isNone = true from rfl)]
        have e1' : ∀ m, oo P T n (k :: l) (some m) = none := fun m => by rw [oo, if_pos q, if_neg (by rw [t2]; decide), if_neg (by rw [t2]; decide), if_neg (show ¬ (some m).isNone = true from fun z => by cases z)]
        have e2 : ∀ c, oc P U n (k :: l) c = oc P U n l (c + 1) := fun c => by rw [oc, if_pos q, if_neg (by rw [u1]; decide), if_pos u1]
        rw [e1, e2, decide_eq_true q, decide_eq_true u1]
        obtain ⟨c1, c2⟩ := b k
        refine ⟨⟨c1, fun z => ?_, fun x z => ?_⟩, fun m => ?_⟩
        · have := (c2 _ z).1; cases this
        · obtain ⟨y1, y2⟩ := c2 _ z
          cases y1
          exact ⟨y2, rfl⟩
        · rw [e1', e2]
          exact ⟨fun _ => oc_2 l 2 (Nat.le_refl 2), fun x z => by cases z⟩
    · have e1 : ∀ o, oo P T n (k :: l) o = oo P T n l o := fun o => by rw [oo, if_neg q]
      have e2 : ∀ c, oc P U n (k :: l) c = oc P U n l c := fun c => by rw [oc, if_neg q]
      rw [e1, e2, decide_eq_false q, Bool.false_and]
      exact ⟨⟨a1, a2, a3⟩, fun m => by rw [e1, e2]; exact b m⟩
/-- what the count is worth -/
def ocr (s : xS) (f : Option Nat) : Option Nat → Option ((Int32 ⊕ Nat) × xS)
  | none => some (.inl 5, s)
  | some 0 => some (.inl 0, s)
  | some 1 => (match f with | none => none | some k => some (.inl (s 88 k), s))
  | some (_ + 2) => some (.inl 5, s)
theorem g204_eq {n N : Nat} {s : xS} (hn : n < N) (hN : N ≤ 40) (h70 : s 70 0 = Int32.ofNat N) (h71 : s 71 n = 79) : g204 (Int32.ofNat n) s = ocr s (fst1 (s 72) (fun k => decide (s 87 k = 1)) n N) (oc (s 72) (s 87) n (kl n N) 0) := by
  have e205 : g205 (Int32.ofNat n) s = some (.inl (oi (fst1 (s 72) (fun k => decide (s 87 k = 1)) n N)), s) := by
    rw [g205_eq hn hN h70]
    simp only [h71, (by decide : ((79 : Int32) = 70) = False), if_false]
  have lp : ∀ (k f i c : Nat), n < i → i + k = N → k < f → c + k ≤ 100 → xlo (fun a : Int32 × Int32 × Int32 × xS => g204_6b a.1 a.2.1 a.2.2.1 a.2.2.2) f (Int32.ofNat n, Int32.ofNat c, Int32.ofNat i, s) = ocr s (fst1 (s 72) (fun k => decide (s 87 k = 1)) n N) (oc (s 72) (s 87) n (List.range' i k) c) := by
    intro k
    induction k with
    | zero =>
      intro f i c hi hk hf hc2
      obtain ⟨f, rfl⟩ : ∃ f', f = f' + 1 := ⟨f - 1, by omega⟩
      have hiN : i = N := by omega
      rw [List.range'_zero, show oc (s 72) (s 87) n [] c = some c from rfl]
      have hb : g204_6b (Int32.ofNat n) (Int32.ofNat c) (Int32.ofNat i) s = (if Int32.ofNat c ≤ 1 then (if Int32.ofNat c = 0 then some (Sum.inr ((Sum.inl 0, s))) else (match g205 (Int32.ofNat n) s with | some (Sum.inl v4, s5) => (bif xn v4 40 then some (Sum.inr ((Sum.inl (s5 88 (Int32.toNatClampNeg v4)), s5))) else none) | some (Sum.inr v4, s5) => none | none => none)) else some (Sum.inr ((Sum.inl 5, s)))) := by
        unfold g204_6b
        rw [h70, hiN, if_pos (Int32.le_refl _)]
        rfl
      match c, hb with
      | 0, hb =>
        rw [if_pos (by decide), if_pos (by decide)] at hb
        exact xlo_end (a := (Int32.ofNat n, Int32.ofNat 0, Int32.ofNat i, s)) hb
      | 1, hb =>
        rw [if_pos (by decide), if_neg (by decide), e205] at hb
        dsimp only at hb ⊢
        cases e : fst1 (s 72) (fun k => decide (s 87 k = 1)) n N with
        | none =>
          rw [e] at hb
          rw [xlo]
          dsimp only
          rw [hb]
          rfl
        | some m =>
          obtain ⟨m1, m2, -, -⟩ := fst1_lt e
          rw [e, show oi (some m) = Int32.ofNat m from rfl, xn_of (by omega) (by omega), cond_true, Int32.toNatClampNeg_ofNat_of_lt (by omega)] at hb
          exact xlo_end (a := (Int32.ofNat n, Int32.ofNat 1, Int32.ofNat i, s)) hb
      | c + 2, hb =>
        have z1 : (1 : Int32).toInt = 1 := by decide
        rw [if_neg (by rw [Int32.le_iff_toInt_le, z1, Int32.toInt_ofNat_of_lt (by omega)]; omega)] at hb
        exact xlo_end (a := (Int32.ofNat n, Int32.ofNat (c + 2), Int32.ofNat i, s)) hb
    | succ k ih =>
      intro f i c hi hk hf hc2
      obtain ⟨f, rfl⟩ : ∃ f', f = f' + 1 := ⟨f - 1, by omega⟩
      rw [List.range'_succ, oc]
      have hb : g204_6b (Int32.ofNat n) (Int32.ofNat c) (Int32.ofNat i) s = (if s 72 i = Int32.ofNat n then (if s 87 i = 2 then some (Sum.inr ((Sum.inl 5, s))) else (if s 87 i = 1 then some (.inl (Int32.ofNat n, Int32.ofNat (c + 1), Int32.ofNat (i + 1), s)) else some (.inl (Int32.ofNat n, Int32.ofNat c, Int32.ofNat (i + 1), s)))) else some (.inl (Int32.ofNat n, Int32.ofNat c, Int32.ofNat (i + 1), s))) := by
        unfold g204_6b g204_38 g204_61
        rw [h70, if_neg (by rw [x_le1000 (by omega) (by omega)]; omega), xn_of (by omega) (by omega), cond_true, Int32.toNatClampNeg_ofNat_of_lt (by omega), xn_of (by omega) (by omega), cond_true, cond_true, cond_true, x_succ, x_succ]
        by_cases q : s 72 i = Int32.ofNat n
        · rw [if_pos q, if_pos q, if_pos q]
        · rw [if_neg q, if_neg q, if_neg q]
      by_cases q : s 72 i = Int32.ofNat n
      · rw [if_pos q] at hb ⊢
        by_cases u2 : s 87 i = 2
        · rw [if_pos u2] at hb ⊢
          exact xlo_end (a := (Int32.ofNat n, Int32.ofNat c, Int32.ofNat i, s)) hb
        · rw [if_neg u2] at hb ⊢
          by_cases u1 : s 87 i = 1
          · rw [if_pos u1] at hb ⊢
            rw [xlo_step (a := (Int32.ofNat n, Int32.ofNat c, Int32.ofNat i, s)) hb, ih f (i + 1) (c + 1) (by omega) (by omega) (by omega) (by omega)]
          · rw [if_neg u1] at hb ⊢
            rw [xlo_step (a := (Int32.ofNat n, Int32.ofNat c, Int32.ofNat i, s)) hb, ih f (i + 1) c (by omega) (by omega) (by omega) (by omega)]
      · rw [if_neg q] at hb ⊢
        rw [xlo_step (a := (Int32.ofNat n, Int32.ofNat c, Int32.ofNat i, s)) hb, ih f (i + 1) c (by omega) (by omega) (by omega) (by omega)]
  unfold g204 g204_6
  rw [x_succ]
  exact lp (N - (n + 1)) 1000 (n + 1) 0 (by omega) (by omega) (by omega) (by omega)
/-- what a rule is worth: its effect, its target, its condition -/
def rvl (e t c : Int32) : Int32 := if t = 0 ∨ (t = 2 ∧ c = 0) then 0 else if t = 2 ∧ c = 2 then e else e + 2
theorem g125_eq {p n : Nat} {σ : xS} (hp : p = 23 ∨ p = 36) (hn : n < 40) {e : Int32} (he : e = if σ (59 - p + 1) n = 112 then 1 else 2) (c : Int32) : g125 p (Int32.ofNat n) c σ = some (.inl 0, xh_ui (xh_ui σ 48 n (rvl e (σ 47 n) c)) 49 n (if rvl e (σ 47 n) c = 1 then σ (59 - p + 3) n else if rvl e (σ 47 n) c = 2 then σ (59 - p + 4) n else 0)) := by
  have hx : xn (Int32.ofNat n) 40 = true := xn_of (by omega) hn
  have hc : (Int32.ofNat n).toNatClampNeg = n := Int32.toNatClampNeg_ofNat_of_lt (by omega)
  have e87 : ∀ v, g125_87 p (Int32.ofNat n) (xh_ui σ 48 n v) = some (.inl 0, xh_ui (xh_ui σ 48 n v) 49 n (if v = 1 then σ (59 - p + 3) n else if v = 2 then σ (59 - p + 4) n else 0)) := fun v => by
    have k3 : xh_ui σ 48 n v (59 - p + 3) = σ (59 - p + 3) := xu_o (by omega)
    have k4 : xh_ui σ 48 n v (59 - p + 4) = σ (59 - p + 4) := xu_o (by omega)
    unfold g125_87 g126
    rw [hx, cond_true, hc, xu_s, k3, k4]
    by_cases v1 : v = 1
    · rw [if_pos v1, if_pos v1, cond_true]
    · rw [if_neg v1, if_neg v1]
      by_cases v2 : v = 2
      · rw [if_pos v2, if_pos v2, cond_true]
      · rw [if_neg v2, if_neg v2]
  have e19 : ∀ k0, g125_19 p (Int32.ofNat n) c k0 σ = g125_87 p (Int32.ofNat n) (xh_ui σ 48 n (rvl k0 (σ 47 n) c)) := fun k0 => by
    unfold g125_19 g125_43 g125_53 g125_78 rvl
    rw [hx, hc]
    simp only [cond_true]
    by_cases t0 : σ 47 n = 0
    · rw [if_pos t0, if_pos (show σ 47 n = 0 ∨ (σ 47 n = 2 ∧ c = 0) from Or.inl t0)]
    · rw [if_neg t0]
      by_cases t2 : σ 47 n = 2
      · rw [if_pos t2, if_pos t2]
        by_cases c0 : c = 0
        · rw [if_pos c0, if_pos (show σ 47 n = 0 ∨ (σ 47 n = 2 ∧ c = 0) from Or.inr ⟨t2, c0⟩)]
        · rw [if_neg c0, if_neg (show ¬ (σ 47 n = 0 ∨ (σ 47 n = 2 ∧ c = 0)) from fun z => z.elim t0 (fun z => c0 z.2))]
          by_cases c2 : c = 2
          · rw [if_pos c2, if_pos (show σ 47 n = 2 ∧ c = 2 from ⟨t2, c2⟩)]
          · rw [if_neg c2, if_neg (show ¬ (σ 47 n = 2 ∧ c = 2) from fun z => c2 z.2)]
      · rw [if_neg t2, if_neg t2, if_neg (show ¬ (σ 47 n = 0 ∨ (σ 47 n = 2 ∧ c = 0)) from fun z => z.elim t0 (fun z => t2 z.1)), if_neg (show ¬ (σ 47 n = 2 ∧ c = 2) from fun z => t2 z.1)]
  unfold g125
  rw [hx, cond_true, hc, e19, e19]
  by_cases q : σ (59 - p + 1) n = 112
  · rw [if_pos q] at he ⊢
    subst he
    rw [e87]
  · rw [if_neg q] at he ⊢
    subst he
    rw [e87]
theorem rvl_v {e t c : Int32} (he : e = 1 ∨ e = 2) : ∃ v, v < 6 ∧ rvl e t c = Int32.ofNat v ∧ (rvl e t c = 0 ∨ rvl e t c = e ∨ rvl e t c = e + 2) := by
  unfold rvl
  by_cases h1 : t = 0 ∨ (t = 2 ∧ c = 0)
  · rw [if_pos h1]; exact ⟨0, by omega, rfl, Or.inl rfl⟩
  · rw [if_neg h1]
    by_cases h2 : t = 2 ∧ c = 2
    · rw [if_pos h2]
      rcases he with rfl | rfl
      · exact ⟨1, by omega, rfl, Or.inr (Or.inl rfl)⟩
      · exact ⟨2, by omega, rfl, Or.inr (Or.inl rfl)⟩
    · rw [if_neg h2]
      rcases he with rfl | rfl
      · exact ⟨3, by omega, rfl, Or.inr (Or.inr rfl)⟩
      · exact ⟨4, by omega, rfl, Or.inr (Or.inr rfl)⟩
/-- the reference's rule, its condition known -/
theorem g199_eq {n : Nat} {s s2 : xS} (hn : n < 40) {t c : Int32} (ht : v3 t) (hc : v3 c) (e200 : g200 (Int32.ofNat n) s = some (.inl (phi c), s2)) (h87 : s2 87 n = phi t) {e : Int32} (he : e = if s2 71 n = 112 then 1 else 2) : g199 (Int32.ofNat n) s = some (.inl (rvl e t c), s2) := by
  have hx : xn (Int32.ofNat n) 40 = true := xn_of (by omega) hn
  have hx8 : xn (Int32.ofNat n) 80 = true := xn_of (by omega) (by omega)
  have hcn : (Int32.ofNat n).toNatClampNeg = n := Int32.toNatClampNeg_ofNat_of_lt (by omega)
  unfold g199 g199_31 g199_47 g199_73
  rw [e200]
  dsimp only
  rw [hx, hx8, hcn, h87]
  simp only [cond_true]
  by_cases q : s2 71 n = 112
  · rw [if_pos q] at he ⊢
    subst he
    rcases ht with rfl | rfl | rfl <;> rcases hc with rfl | rfl | rfl <;> rfl
  · rw [if_neg q] at he ⊢
    subst he
    rcases ht with rfl | rfl | rfl <;> rcases hc with rfl | rfl | rfl <;> rfl
