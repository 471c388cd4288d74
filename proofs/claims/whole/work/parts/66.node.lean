/-! judging: a node of the class -/
def tv (F : Nat → Int32) (r : xN) : Int32 := (r.2.2.2.2.1.foldl (stT (mtc F)) (2, 0, 2)).1
def hd2 : Option (List Int32) → Int32
  | some (v :: _) => v
  | _ => 2
def cv (F : Nat → Int32) (r : xN) : Int32 := hd2 (evC (mtc F) r.2.2.2.2.2.2.1 [])
def own (r : xN) (v : Int32) : Int32 := if v = 1 then r.2.2.1 else if v = 2 then r.2.2.2.1 else 0
def eff (c : Int32) : Int32 := if c = 112 then 1 else 2
def fsv (V : Nat → Int32) : Option Nat → Int32
  | some k => V k
  | none => 0
def osv (V : Nat → Int32) (z : Int32) : Option (Option Nat) → Int32
  | none => z
  | some none => 0
  | some (some k) => V k
/-- what is combined -/
def cV (c : Int32) (P T V : Nat → Int32) (n N : Nat) : Int32 := if c = 68 then ovr (sm P V n N) 2 1 else if c = 70 then fsv V (fst1 P (fun k => !decide (V k = 0)) n N) else if c = 80 then ovr (sm P V n N) 1 2 else if c = 88 then (bif sm P V n N 1 then 1 else 2) else if c = 89 then (bif sm P V n N 2 then 2 else 1) else osv V 5 (oo P T n (kl n N) none)
/-- its duties -/
def cD (c : Int32) (P T V D : Nat → Int32) (n N : Nat) : Int32 := if c = 70 then fsv D (fst1 P (fun k => !decide (V k = 0)) n N) else if c = 79 then osv D 0 (oo P T n (kl n N) none) else orD P V D n N (cV c P T V n N) 0
def nV (t w : Int32) : Int32 := if t = 0 then 0 else if (w = 1 ∨ w = 2) ∧ t = 1 then w + 2 else w
def nD (r : xN) (t w d : Int32) : Int32 := if t = 0 then 0 else if w = 1 ∨ w = 2 then (if t = 1 then 0 else d ||| own r w) else d
def neq (F : Nat → Int32) (r : xN) (P T V D : Nat → Int32) (n N : Nat) : Prop := T n = tv F r ∧ v3 (T n) ∧ v3 (cv F r) ∧ (isr r.1 = true → V n = rvl (eff r.1) (T n) (cv F r) ∧ D n = own r (V n)) ∧
  (isr r.1 = false → V n = nV (T n) (cV r.1 P T V n N) ∧ D n = nD r (T n) (cV r.1 P T V n N) (cD r.1 P T V D n N))
theorem any_c {c c' : Nat → Bool} : ∀ (l : List Nat), (∀ k ∈ l, c' k = c k) → l.any c' = l.any c
  | [], _ => rfl
  | k :: l, h => by rw [List.any_cons, List.any_cons, h k List.mem_cons_self, any_c l (fun k hk => h k (List.mem_cons_of_mem _ hk))]
theorem find_c {c c' : Nat → Bool} : ∀ (l : List Nat), (∀ k ∈ l, c' k = c k) → l.find? c' = l.find? c
  | [], _ => rfl
  | k :: l, h => by rw [List.find?_cons, List.find?_cons, h k List.mem_cons_self, find_c l (fun k hk => h k (List.mem_cons_of_mem _ hk))]
theorem fold_c {f f' : Int32 → Nat → Int32} : ∀ (l : List Nat) (y : Int32), (∀ k ∈ l, ∀ y, f' y k = f y k) → l.foldl f' y = l.foldl f y
  | [], _, _ => rfl
  | k :: l, y, h => by rw [List.foldl_cons, List.foldl_cons, h k List.mem_cons_self, fold_c l _ (fun k hk => h k (List.mem_cons_of_mem _ hk))]
theorem oo_c {P P' T T' : Nat → Int32} {n : Nat} : ∀ (l : List Nat) (o : Option Nat), (∀ k ∈ l, P' k = P k ∧ T' k = T k) → oo P' T' n l o = oo P T n l o
  | [], _, _ => rfl
  | k :: l, o, h => by
    have I := fun o => oo_c (P := P) (P' := P') (T := T) (T' := T') (n := n) l o (fun k hk => h k (List.mem_cons_of_mem _ hk))
    rw [oo, oo, (h k List.mem_cons_self).1, (h k List.mem_cons_self).2, I, I]
theorem oo_mem {P T : Nat → Int32} {n : Nat} : ∀ (l : List Nat) (o : Option Nat) (k : Nat), oo P T n l o = some (some k) → o = some k ∨ (k ∈ l ∧ P k = Int32.ofNat n ∧ T k ≠ 0 ∧ T k ≠ 1)
  | [], o, k, h => by cases h; exact Or.inl rfl
  | m :: l, o, k, h => by
    have I : ∀ o, oo P T n l o = some (some k) → o = some k ∨ (k ∈ m :: l ∧ P k = Int32.ofNat n ∧ T k ≠ 0 ∧ T k ≠ 1) := fun o h => (oo_mem l o k h).imp id (fun z => ⟨List.mem_cons_of_mem _ z.1, z.2⟩)
    rw [oo] at h
    by_cases q : P m = Int32.ofNat n
    · rw [if_pos q] at h
      by_cases t0 : T m = 0
      · rw [if_pos t0] at h; exact I _ h
      · rw [if_neg t0] at h
        by_cases t1 : T m = 1
        · rw [if_pos t1] at h; cases h
        · rw [if_neg t1] at h
          by_cases z : o.isNone = true
          · rw [if_pos z] at h
            rcases I _ h with e | e
            · cases e; exact Or.inr ⟨List.mem_cons_self, q, t0, t1⟩
            · exact Or.inr e
          · rw [if_neg z] at h; cases h
    · rw [if_neg q] at h; exact I _ h
theorem sm_c {P P' V V' : Nat → Int32} {n N : Nat} (h : ∀ k, n < k → k < N → P' k = P k ∧ V' k = V k) : sm P' V' n N = sm P V n N := funext fun x => any_c (kl n N) (fun k hk => by
  rw [(h k (kl_mem hk).1 (kl_mem hk).2).1, (h k (kl_mem hk).1 (kl_mem hk).2).2])
theorem fst1_c {P P' : Nat → Int32} {c c' : Nat → Bool} {n N : Nat} (h : ∀ k, n < k → k < N → P' k = P k ∧ c' k = c k) : fst1 P' c' n N = fst1 P c n N := find_c (kl n N) (fun k hk => by
  rw [(h k (kl_mem hk).1 (kl_mem hk).2).1, (h k (kl_mem hk).1 (kl_mem hk).2).2])
theorem fsv_c {V V' : Nat → Int32} {P : Nat → Int32} {c : Nat → Bool} {n N : Nat} (h : ∀ k, n < k → k < N → V' k = V k) : fsv V' (fst1 P c n N) = fsv V (fst1 P c n N) := by
  cases e : fst1 P c n N with
  | none => rfl
  | some k => exact h k (fst1_lt e).1 (fst1_lt e).2.1
theorem osv_c {V V' P T : Nat → Int32} {z : Int32} {n N : Nat} (h : ∀ k, n < k → k < N → V' k = V k) : osv V' z (oo P T n (kl n N) none) = osv V z (oo P T n (kl n N) none) := by
  match e : oo P T n (kl n N) none with
  | none => rfl
  | some none => rfl
  | some (some k) =>
    rcases oo_mem _ _ _ e with q | ⟨q, -⟩
    · cases q
    · exact h k (kl_mem q).1 (kl_mem q).2
theorem cV_c {c : Int32} {P P' T T' V V' : Nat → Int32} {n N : Nat} (h : ∀ k, n < k → k < N → P' k = P k ∧ T' k = T k ∧ V' k = V k) : cV c P' T' V' n N = cV c P T V n N := by
  unfold cV
  rw [sm_c (P' := P') (V' := V') (P := P) (V := V) (fun k a b => ⟨(h k a b).1, (h k a b).2.2⟩), fst1_c (P' := P') (P := P) (c' := fun k => !decide (V' k = 0)) (c := fun k => !decide (V k = 0)) (fun k a b => ⟨(h k a b).1, by rw [(h k a b).2.2]⟩), fsv_c (V' := V') (V := V) (fun k a b => (h k a b).2.2), oo_c (P' := P') (P := P) (T' := T') (T := T) (kl n N) none (fun k hk => ⟨(h k (kl_mem hk).1 (kl_mem hk).2).1, (h k (kl_mem hk).1 (kl_mem hk).2).2.1⟩), osv_c (V' := V') (V := V) (fun k a b => (h k a b).2.2)]
theorem cD_c {c : Int32} {P P' T T' V V' D D' : Nat → Int32} {n N : Nat} (h : ∀ k, n < k → k < N → P' k = P k ∧ T' k = T k ∧ V' k = V k ∧ D' k = D k) : cD c P' T' V' D' n N = cD c P T V D n N := by
  have e : ∀ w z, orD P' V' D' n N w z = orD P V D n N w z := fun w z => fold_c (kl n N) z (fun k hk y => by
    obtain ⟨a, -, b, d⟩ := h k (kl_mem hk).1 (kl_mem hk).2
    rw [a, b, d])
  unfold cD
  rw [cV_c (P' := P') (T' := T') (V' := V') (P := P) (T := T) (V := V) (fun k a b => ⟨(h k a b).1, (h k a b).2.1, (h k a b).2.2.1⟩), e, fst1_c (P' := P') (P := P) (c' := fun k => !decide (V' k = 0)) (c := fun k => !decide (V k = 0)) (fun k a b => ⟨(h k a b).1, by rw [(h k a b).2.2.1]⟩), fsv_c (V' := D') (V := D) (fun k a b => (h k a b).2.2.2), oo_c (P' := P') (P := P) (T' := T') (T := T) (kl n N) none (fun k hk => ⟨(h k (kl_mem hk).1 (kl_mem hk).2).1, (h k (kl_mem hk).1 (kl_mem hk).2).2.1⟩), osv_c (V' := D') (V := D) (fun k a b => (h k a b).2.2.2)]
theorem neq_c {F : Nat → Int32} {r : xN} {P T T' V V' D D' : Nat → Int32} {n N : Nat} (h : ∀ k, n ≤ k → T' k = T k ∧ V' k = V k ∧ D' k = D k) (hh : neq F r P T V D n N) : neq F r P T' V' D' n N := by
  obtain ⟨a1, a2, a3, a4, a5⟩ := hh
  obtain ⟨b1, b2, b3⟩ := h n (Nat.le_refl n)
  unfold neq
  rw [b1, b2, b3, cV_c (P' := P) (T' := T') (V' := V') (P := P) (T := T) (V := V) (fun k a _ => ⟨rfl, (h k (by omega)).1, (h k (by omega)).2.1⟩), cD_c (P' := P) (T' := T') (V' := V') (D' := D') (P := P) (T := T) (V := V) (D := D) (fun k a _ => ⟨rfl, (h k (by omega)).1, (h k (by omega)).2.1, (h k (by omega)).2.2⟩)]
  exact ⟨a1, a2, a3, a4, a5⟩
theorem k68_70 : ((68 : Int32) = 70) = False := by decide
theorem k68_80 : ((68 : Int32) = 80) = False := by decide
theorem k68_88 : ((68 : Int32) = 88) = False := by decide
theorem k68_89 : ((68 : Int32) = 89) = False := by decide
theorem k68_79 : ((68 : Int32) = 79) = False := by decide
theorem k80_68 : ((80 : Int32) = 68) = False := by decide
theorem k80_70 : ((80 : Int32) = 70) = False := by decide
theorem k80_88 : ((80 : Int32) = 88) = False := by decide
theorem k80_89 : ((80 : Int32) = 89) = False := by decide
theorem k80_79 : ((80 : Int32) = 79) = False := by decide
theorem k70_68 : ((70 : Int32) = 68) = False := by decide
theorem k70_80 : ((70 : Int32) = 80) = False := by decide
theorem k70_88 : ((70 : Int32) = 88) = False := by decide
theorem k70_89 : ((70 : Int32) = 89) = False := by decide
theorem k70_79 : ((70 : Int32) = 79) = False := by decide
theorem k88_68 : ((88 : Int32) = 68) = False := by decide
theorem k88_70 : ((88 : Int32) = 70) = False := by decide
theorem k88_80 : ((88 : Int32) = 80) = False := by decide
theorem k88_89 : ((88 : Int32) = 89) = False := by decide
theorem k88_79 : ((88 : Int32) = 79) = False := by decide
theorem k89_68 : ((89 : Int32) = 68) = False := by decide
theorem k89_70 : ((89 : Int32) = 70) = False := by decide
theorem k89_80 : ((89 : Int32) = 80) = False := by decide
theorem k89_88 : ((89 : Int32) = 88) = False := by decide
theorem k89_79 : ((89 : Int32) = 79) = False := by decide
theorem k79_68 : ((79 : Int32) = 68) = False := by decide
theorem k79_70 : ((79 : Int32) = 70) = False := by decide
theorem k79_80 : ((79 : Int32) = 80) = False := by decide
theorem k79_88 : ((79 : Int32) = 88) = False := by decide
theorem k79_89 : ((79 : Int32) = 89) = False := by decide
/-- only rows 48 and 49 at n change -/
def fr2 (n : Nat) (σ σ' : xS) : Prop := (∀ j, ¬ j = n → σ' 48 j = σ 48 j ∧ σ' 49 j = σ 49 j) ∧ ∀ d, ¬ d = 48 → ¬ d = 49 → σ' d = σ d
theorem fr2_refl (n : Nat) (σ : xS) : fr2 n σ σ := ⟨fun _ _ => ⟨rfl, rfl⟩, fun _ _ _ => rfl⟩
theorem fr2_t {n : Nat} {a b c : xS} (h : fr2 n a b) (k : fr2 n b c) : fr2 n a c := ⟨fun j hj => ⟨(k.1 j hj).1.trans (h.1 j hj).1, (k.1 j hj).2.trans (h.1 j hj).2⟩, fun d x y => (k.2 d x y).trans (h.2 d x y)⟩
theorem fr2_8 (n : Nat) (σ : xS) (v : Int32) : fr2 n σ (xh_ui σ 48 n v) := ⟨fun j hj => ⟨xu_n hj, by rw [xu_o (by decide)]⟩, fun d x y => xu_o x⟩
theorem fr2_9 (n : Nat) (σ : xS) (v : Int32) : fr2 n σ (xh_ui σ 49 n v) := ⟨fun j hj => ⟨by rw [xu_o (by decide)], xu_n hj⟩, fun d x y => xu_o y⟩
theorem fr2_89 (n : Nat) (σ : xS) (v w : Int32) : fr2 n σ (xh_ui (xh_ui σ 48 n v) 49 n w) := fr2_t (fr2_8 n σ v) (fr2_9 n _ w)
theorem xu_89 (σ : xS) (n : Nat) (v w : Int32) : xh_ui (xh_ui σ 48 n v) 49 n w 48 n = v ∧ xh_ui (xh_ui σ 48 n v) 49 n w 49 n = w := ⟨by rw [xu_o (by decide), xu_s], xu_s _ _ _ _⟩
theorem g128_eq {p n N : Nat} {σ : xS} (hp : p = 23 ∨ p = 36) (hn : n < N) (hN : N ≤ 40) (h7 : σ (59 - p) 7 = Int32.ofNat N) {c : Int32} (hc : comb c = true) (h1 : σ (59 - p + 1) n = c) (h48 : σ 48 n = 0) (h49 : σ 49 n = 0) (hV : ∀ k, k < N → n < k → ∃ v, v < 6 ∧ σ 48 k = Int32.ofNat v) :
    ∃ σ', g128 p (Int32.ofNat n) σ = some (.inl 0, σ') ∧ σ' 48 n = cV c (σ (59 - p + 2)) (σ 47) (σ 48) n N ∧ σ' 49 n = cD c (σ (59 - p + 2)) (σ 47) (σ 48) (σ 49) n N ∧ fr2 n σ σ' := by
  have hx : xn (Int32.ofNat n) 40 = true := xn_of (by omega) (by omega)
  have hcn : (Int32.ofNat n).toNatClampNeg = n := Int32.toNatClampNeg_ofNat_of_lt (by omega)
  have b1 := fun σ' => sw_bit (P := σ (59 - p + 2)) (V := σ 48) (n := n) (N := N) hV (x := 1) (by omega) σ'
  have b2 := fun σ' => sw_bit (P := σ (59 - p + 2)) (V := σ 48) (n := n) (N := N) hV (x := 2) (by omega) σ'
  have b3 := fun σ' => sw_bit (P := σ (59 - p + 2)) (V := σ 48) (n := n) (N := N) hV (x := 3) (by omega) σ'
  have b4 := fun σ' => sw_bit (P := σ (59 - p + 2)) (V := σ 48) (n := n) (N := N) hV (x := 4) (by omega) σ'
  have b5 := fun σ' => sw_bit (P := σ (59 - p + 2)) (V := σ 48) (n := n) (N := N) hV (x := 5) (by omega) σ'
  have e3 : (1 : Int32) + 2 = Int32.ofNat 3 := by decide
  have e4 : (2 : Int32) + 2 = Int32.ofNat 4 := by decide
  have or1 : ∀ w, orD (σ (59 - p + 2)) (σ 48) (σ 49) n N w (σ 49 n) = orD (σ (59 - p + 2)) (σ 48) (σ 49) n N w 0 := fun w => by rw [h49]
  have hc := of_decide_eq_true hc
  rcases hc with rfl | rfl | rfl | rfl | rfl | rfl
  · unfold g128 cV cD
    rw [hx, cond_true, hcn, h1]
    simp only [k68_80, k68_70, k68_88, k68_89, k68_79, if_false, if_true]
    rw [g129_eq hn hN h7]
    dsimp only
    rw [g130_eq (s := sm (σ (59 - p + 2)) (σ 48) n N) (a := 2) (b := 1) (fun x hx σ' => by
      rcases hx with rfl | rfl | rfl | rfl | rfl
      · exact b2 σ'
      · exact b1 σ'
      · rw [e4]; exact b4 σ'
      · rw [e3]; exact b3 σ'
      · exact b5 σ')]
    dsimp only
    rw [g131_eq hp hn hN h7, or1]
    refine ⟨_, rfl, (xu_89 _ _ _ _).1, ?_, fr2_89 _ _ _ _⟩
    rw [(xu_89 _ _ _ _).2]
    unfold cV
    simp only [k68_80, k68_70, k68_88, k68_89, k68_79, if_false, if_true]
  · unfold g128 cV cD
    rw [hx, cond_true, hcn, h1]
    simp only [k80_68, k80_70, k80_88, k80_89, k80_79, if_false, if_true]
    rw [g129_eq hn hN h7]
    dsimp only
    rw [g130_eq (s := sm (σ (59 - p + 2)) (σ 48) n N) (a := 1) (b := 2) (fun x hx σ' => by
      rcases hx with rfl | rfl | rfl | rfl | rfl
      · exact b1 σ'
      · exact b2 σ'
      · rw [e3]; exact b3 σ'
      · rw [e4]; exact b4 σ'
      · exact b5 σ')]
    dsimp only
    rw [g131_eq hp hn hN h7, or1]
    refine ⟨_, rfl, (xu_89 _ _ _ _).1, ?_, fr2_89 _ _ _ _⟩
    rw [(xu_89 _ _ _ _).2]
    unfold cV
    simp only [k80_68, k80_70, k80_88, k80_89, k80_79, if_false, if_true]
  · unfold g128 cV cD
    rw [hx, cond_true, hcn, h1]
    simp only [k70_68, k70_80, k70_88, k70_89, k70_79, if_false, if_true]
    rw [g132_eq hn hN h7]
    dsimp only
    cases e : fst1 (σ (59 - p + 2)) (fun k => !decide (σ 48 k = 0)) n N with
    | none => exact ⟨σ, rfl, h48, h49, fr2_refl n σ⟩
    | some k =>
      obtain ⟨k1, k2, -, -⟩ := fst1_lt e
      unfold g133
      rw [show oi (some k) = Int32.ofNat k from rfl, if_neg (x80n k (by omega)), xn_of (by omega) (by omega), cond_true, show (Int32.ofNat k).toNatClampNeg = k from Int32.toNatClampNeg_ofNat_of_lt (by omega), hx, cond_true, hcn]
      exact ⟨_, rfl, (xu_89 _ _ _ _).1, by rw [(xu_89 _ _ _ _).2, xu_o (by decide)]; rfl, fr2_89 _ _ _ _⟩
  · unfold g128 cV cD
    rw [hx, cond_true, hcn, h1]
    simp only [k88_68, k88_80, k88_70, k88_89, k88_79, if_false, if_true]
    rw [g129_eq hn hN h7]
    dsimp only
    rw [show g28 (sw (σ (59 - p + 2)) (σ 48) n N) 1 σ = _ from b1 σ]
    dsimp only
    unfold g128_115
    rw [g131_eq hp hn hN h7, g131_eq hp hn hN h7, or1, or1]
    cases hb : sm (σ (59 - p + 2)) (σ 48) n N (Int32.ofNat 1) with
    | true =>
      have hb' : sm (σ (59 - p + 2)) (σ 48) n N 1 = true := hb
      rw [show xb true = 1 from rfl, if_neg x1n]
      refine ⟨_, rfl, ?_, ?_, fr2_89 _ _ _ _⟩
      · rw [(xu_89 _ _ _ _).1]; rfl
      · rw [(xu_89 _ _ _ _).2]
        unfold cV
        simp only [k88_68, k88_80, k88_70, k88_89, k88_79, if_false, if_true, hb', cond_true]
    | false =>
      have hb' : sm (σ (59 - p + 2)) (σ 48) n N 1 = false := hb
      rw [show xb false = 0 from rfl, if_pos x0p]
      refine ⟨_, rfl, ?_, ?_, fr2_89 _ _ _ _⟩
      · rw [(xu_89 _ _ _ _).1]; rfl
      · rw [(xu_89 _ _ _ _).2]
        unfold cV
        simp only [k88_68, k88_80, k88_70, k88_89, k88_79, if_false, if_true, hb', cond_false]
  · unfold g128 cV cD
    rw [hx, cond_true, hcn, h1]
    simp only [k89_68, k89_80, k89_70, k89_88, k89_79, if_false, if_true]
    rw [g129_eq hn hN h7]
    dsimp only
    rw [show g28 (sw (σ (59 - p + 2)) (σ 48) n N) 2 σ = _ from b2 σ]
    dsimp only
    unfold g128_140
    rw [g131_eq hp hn hN h7, g131_eq hp hn hN h7, or1, or1]
    cases hb : sm (σ (59 - p + 2)) (σ 48) n N (Int32.ofNat 2) with
    | true =>
      have hb' : sm (σ (59 - p + 2)) (σ 48) n N 2 = true := hb
      rw [show xb true = 1 from rfl, if_neg x1n]
      refine ⟨_, rfl, ?_, ?_, fr2_89 _ _ _ _⟩
      · rw [(xu_89 _ _ _ _).1]; rfl
      · rw [(xu_89 _ _ _ _).2]
        unfold cV
        simp only [k89_68, k89_80, k89_70, k89_88, k89_79, if_false, if_true, hb', cond_true]
    | false =>
      have hb' : sm (σ (59 - p + 2)) (σ 48) n N 2 = false := hb
      rw [show xb false = 0 from rfl, if_pos x0p]
      refine ⟨_, rfl, ?_, ?_, fr2_89 _ _ _ _⟩
      · rw [(xu_89 _ _ _ _).1]; rfl
      · rw [(xu_89 _ _ _ _).2]
        unfold cV
        simp only [k89_68, k89_80, k89_70, k89_88, k89_79, if_false, if_true, hb', cond_false]
  · unfold g128 cV cD
    rw [hx, cond_true, hcn, h1]
    simp only [k79_68, k79_80, k79_70, k79_88, k79_89, if_false, if_true]
    rw [g134_eq hp hn hN h7]
    match e : oo (σ (59 - p + 2)) (σ 47) n (kl n N) none with
    | none => exact ⟨_, rfl, xu_s _ _ _ _, by rw [xu_o (by decide)]; exact h49, fr2_8 _ _ _⟩
    | some none => exact ⟨σ, rfl, h48, h49, fr2_refl n σ⟩
    | some (some k) => exact ⟨_, rfl, (xu_89 _ _ _ _).1, (xu_89 _ _ _ _).2, fr2_89 _ _ _ _⟩
