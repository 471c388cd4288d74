/-! judging: the duties -/
theorem kl_mem' {n N k : Nat} (h : n < k) (h2 : k < N) : k ∈ kl n N := by
  unfold kl
  rw [List.mem_range'_1]; omega
theorem wt_0 (i : Nat) : wt 0 i = false := by unfold wt; show (0#32).getLsbD i = false; rw [BitVec.getLsbD_zero]
theorem orD_bit {P V D : Nat → Int32} {a v : Int32} {i : Nat} : ∀ (l : List Nat) (z : Int32), wt (l.foldl (fun y k => if P k = a ∧ V k = v then y ||| D k else y) z) i = true ↔ wt z i = true ∨ ∃ k, k ∈ l ∧ P k = a ∧ V k = v ∧ wt (D k) i = true
  | [], z => ⟨Or.inl, fun h => h.elim id (fun ⟨_, h, _⟩ => by cases h)⟩
  | k :: l, z => by
    rw [List.foldl_cons, orD_bit l]
    by_cases q : P k = a ∧ V k = v
    · rw [if_pos q, wt_or, Bool.or_eq_true]
      constructor
      · rintro ((h | h) | ⟨k', h1, h2⟩)
        · exact Or.inl h
        · exact Or.inr ⟨k, List.mem_cons_self, q.1, q.2, h⟩
        · exact Or.inr ⟨k', List.mem_cons_of_mem _ h1, h2⟩
      · rintro (h | ⟨k', h1, h2, h3, h4⟩)
        · exact Or.inl (Or.inl h)
        · rcases List.mem_cons.mp h1 with e | e
          · rw [e] at h4; exact Or.inl (Or.inr h4)
          · exact Or.inr ⟨k', e, h2, h3, h4⟩
    · rw [if_neg q]
      constructor
      · rintro (h | ⟨k', h1, h2⟩)
        · exact Or.inl h
        · exact Or.inr ⟨k', List.mem_cons_of_mem _ h1, h2⟩
      · rintro (h | ⟨k', h1, h2, h3, h4⟩)
        · exact Or.inl h
        · rcases List.mem_cons.mp h1 with e | e
          · rw [e] at h2 h3; exact absurd ⟨h2, h3⟩ q
          · exact Or.inr ⟨k', e, h2, h3, h4⟩
/-- the nodes in n whose duties n takes -/
def tkn (c : Int32) (P T V : Nat → Int32) (n N k : Nat) : Prop := (c = 70 → fst1 P (fun k => !decide (V k = 0)) n N = some k) ∧ (c = 79 → oo P T n (kl n N) none = some (some k))
theorem cD_bit {c : Int32} {P T V D : Nat → Int32} {n N i : Nat} : wt (cD c P T V D n N) i = true ↔ ∃ k, n < k ∧ k < N ∧ P k = Int32.ofNat n ∧ V k = cV c P T V n N ∧ tkn c P T V n N k ∧ wt (D k) i = true := by
  unfold cD tkn
  by_cases h7 : c = 70
  · subst h7
    rw [if_pos rfl]
    have eV : cV 70 P T V n N = fsv V (fst1 P (fun k => !decide (V k = 0)) n N) := by
      unfold cV
      simp only [k70_68, if_false, if_true]
    rw [eV]
    cases e : fst1 P (fun k => !decide (V k = 0)) n N with
    | none =>
      show wt 0 i = true ↔ _
      rw [wt_0]
      exact ⟨fun h => (by cases h), fun ⟨k, _, _, _, _, ⟨h, _⟩, _⟩ => by cases (h rfl)⟩
    | some m =>
      obtain ⟨m1, m2, m3, -⟩ := fst1_lt e
      constructor
      · intro h
        exact ⟨m, m1, m2, m3, rfl, ⟨fun _ => rfl, fun z => absurd z (by decide)⟩, h⟩
      · rintro ⟨k, _, _, _, _, ⟨h, _⟩, h2⟩
        cases (h rfl)
        exact h2
  · rw [if_neg h7]
    by_cases h9 : c = 79
    · subst h9
      rw [if_pos rfl]
      have eV : cV 79 P T V n N = osv V 5 (oo P T n (kl n N) none) := by
        unfold cV
        simp only [k79_68, k79_70, k79_80, k79_88, k79_89, if_false]
      rw [eV]
      match e : oo P T n (kl n N) none with
      | none =>
        show wt 0 i = true ↔ _
        rw [wt_0]
        exact ⟨fun h => (by cases h), fun ⟨k, _, _, _, _, ⟨_, h⟩, _⟩ => by cases (h rfl)⟩
      | some none =>
        show wt 0 i = true ↔ _
        rw [wt_0]
        exact ⟨fun h => (by cases h), fun ⟨k, _, _, _, _, ⟨_, h⟩, _⟩ => by cases (h rfl)⟩
      | some (some m) =>
        constructor
        · intro h
          rcases oo_mem _ _ _ e with q | ⟨q, q2, -⟩
          · cases q
          · exact ⟨m, (kl_mem q).1, (kl_mem q).2, q2, rfl, ⟨fun z => absurd z (by decide), fun _ => rfl⟩, h⟩
        · rintro ⟨k, _, _, _, _, ⟨_, h⟩, h2⟩
          cases (h rfl)
          exact h2
    · rw [if_neg h9]
      unfold orD
      rw [orD_bit, wt_0]
      constructor
      · rintro (h | ⟨k, h1, h2, h3, h4⟩)
        · cases h
        · exact ⟨k, (kl_mem h1).1, (kl_mem h1).2, h2, h3, ⟨fun z => absurd z h7, fun z => absurd z h9⟩, h4⟩
      · rintro ⟨k, h1, h2, h3, h4, -, h5⟩
        exact Or.inr ⟨k, kl_mem' h1 h2, h3, h4, h5⟩
theorem own_8 {r : xN} (hg : gN r) (v : Int32) : wD8 (own r v) := by
  unfold own
  by_cases h1 : v = 1
  · rw [if_pos h1]; exact hg.2.1
  · rw [if_neg h1]
    by_cases h2 : v = 2
    · rw [if_pos h2]; exact hg.2.2.1
    · rw [if_neg h2]; exact fun i _ => wt_0 i
/-- duties are of the first eight kinds, and only of a permit or a denial -/
theorem neq_D {F : Nat → Int32} {r : xN} {P T V D : Nat → Int32} {n N : Nat} (hg : gN r) (h : neq F r P T V D n N) (hD : ∀ k, n < k → k < N → wD8 (D k) ∧ (¬ V k = 1 → ¬ V k = 2 → D k = 0)) : wD8 (D n) ∧ (¬ V n = 1 → ¬ V n = 2 → D n = 0) := by
  obtain ⟨-, -, -, a, b⟩ := h
  cases hi : isr r.1 with
  | true =>
    rw [(a hi).2]
    refine ⟨own_8 hg _, fun h1 h2 => ?_⟩
    unfold own
    rw [if_neg h1, if_neg h2]
  | false =>
    rw [(b hi).1, (b hi).2]
    unfold nV nD
    have c8 : wD8 (cD r.1 P T V D n N) := fun i hi8 => by
      cases hb : wt (cD r.1 P T V D n N) i with
      | false => rfl
      | true =>
        obtain ⟨k, k1, k2, -, -, -, k3⟩ := cD_bit.mp hb
        rw [(hD k k1 k2).1 i hi8] at k3
        exact k3.symm
    by_cases t0 : T n = 0
    · rw [if_pos t0, if_pos t0]; exact ⟨fun i _ => wt_0 i, fun _ _ => rfl⟩
    · rw [if_neg t0, if_neg t0]
      by_cases w12 : cV r.1 P T V n N = 1 ∨ cV r.1 P T V n N = 2
      · rw [if_pos w12]
        by_cases t1 : T n = 1
        · rw [if_pos t1]; exact ⟨fun i _ => wt_0 i, fun _ _ => rfl⟩
        · rw [if_neg t1, if_neg (show ¬ ((cV r.1 P T V n N = 1 ∨ cV r.1 P T V n N = 2) ∧ T n = 1) from fun z => t1 z.2)]
          refine ⟨fun i hi8 => ?_, fun h1 h2 => (w12.elim h1 h2).elim⟩
          rw [wt_or, c8 i hi8, own_8 hg _ i hi8]
          rfl
      · rw [if_neg w12, if_neg (show ¬ ((cV r.1 P T V n N = 1 ∨ cV r.1 P T V n N = 2) ∧ T n = 1) from fun z => w12 z.1)]
        refine ⟨c8, fun h1 h2 => wt_ext fun i _ => ?_⟩
        rw [wt_0]
        cases hb : wt (cD r.1 P T V D n N) i with
        | false => rfl
        | true =>
          obtain ⟨k, k1, k2, -, k4, -, k3⟩ := cD_bit.mp hb
          rw [(hD k k1 k2).2 (by rw [k4]; exact h1) (by rw [k4]; exact h2), wt_0] at k3
          exact k3.symm
theorem all_D {F : Nat → Int32} {rs : List xN} {P T V D : Nat → Int32} (hg : gLs 0 none rs) (hq : ∀ n r, rs[n]? = some r → neq F r P T V D n rs.length) : ∀ (m n : Nat), n + m = rs.length → ∀ k, n ≤ k → k < rs.length → wD8 (D k) ∧ (¬ V k = 1 → ¬ V k = 2 → D k = 0)
  | 0, n, h, k, h1, h2 => by omega
  | m + 1, n, h, k, h1, h2 => by
    have I := all_D hg hq m (n + 1) (by omega)
    by_cases e : k = n
    · subst e
      have hr := List.getElem?_eq_getElem h2
      exact neq_D (hg k _ hr).1 (hq k _ hr) (fun j j1 j2 => I j (by omega) j2)
    · exact I k (by omega) h2
theorem nV_12 {t w v : Int32} (hv : v = 1 ∨ v = 2) (h : nV t w = v) : w = v ∧ ¬ t = 0 ∧ ¬ t = 1 := by
  unfold nV at h
  by_cases t0 : t = 0
  · rw [if_pos t0] at h; subst h; exact absurd hv (by decide)
  · rw [if_neg t0] at h
    by_cases q : (w = 1 ∨ w = 2) ∧ t = 1
    · rw [if_pos q] at h
      rcases q.1 with e | e <;> (rw [e] at h; subst h; exact absurd hv (by decide))
    · rw [if_neg q] at h
      subst h
      exact ⟨rfl, t0, fun z => q ⟨hv, z⟩⟩
/-- what a node with value v owes -/
theorem neq_E {F : Nat → Int32} {rs : List xN} {P T V D : Nat → Int32} (hg : gLs 0 none rs) (hN : rs.length ≤ 40) (hP : ∀ n r, rs[n]? = some r → P n = pv r.2.1) {n : Nat} {r : xN} (hr : rs[n]? = some r) (h : neq F r P T V D n rs.length) {v : Int32} (hv : v = 1 ∨ v = 2) (hV : V n = v) (i : Nat) :
    wt (D n) i = true ↔ wt (own r v) i = true ∨ ∃ k, n < k ∧ k < rs.length ∧ P k = Int32.ofNat n ∧ V k = v ∧ tkn r.1 P T V n rs.length k ∧ wt (D k) i = true := by
  obtain ⟨-, -, -, a, b⟩ := h
  cases hi : isr r.1 with
  | true =>
    rw [(a hi).2, hV]
    refine ⟨Or.inl, fun h => h.elim id (fun ⟨k, k1, k2, k3, _⟩ => ?_)⟩
    have hk := List.getElem?_eq_getElem k2
    obtain ⟨m, r', m1, m2, m3, m4, m5⟩ := (hg k _ hk).2.2 (by omega)
    rw [hP k _ hk, m1] at k3
    have : 0 + m = n := x_inj (by omega) (by omega) k3
    rw [Nat.zero_add] at this
    subst this
    rw [hr] at m3
    cases m3
    rw [hi] at m5
    cases m5
  | false =>
    obtain ⟨e1, e2, e3⟩ := nV_12 hv ((b hi).1.symm.trans hV)
    rw [(b hi).2]
    unfold nD
    rw [if_neg e2, e1, if_pos hv, if_neg e3, wt_or, Bool.or_eq_true, cD_bit, e1]
    exact Or.comm
theorem neq_own {F : Nat → Int32} {r : xN} {P T V D : Nat → Int32} {n N : Nat} (hg : gN r) (h : neq F r P T V D n N) : (V n = 1 → ¬ r.1 = 100) ∧ (V n = 2 → ¬ r.1 = 112) := by
  obtain ⟨-, -, -, a, b⟩ := h
  cases hi : isr r.1 with
  | true =>
    obtain ⟨-, -, -, h⟩ := rvl_v (t := T n) (c := cv F r) (eff_12 r.1)
    rw [← (a hi).1] at h
    refine ⟨fun h1 z => ?_, fun h2 z => ?_⟩
    · rw [h1, z, show eff 100 = 2 by decide] at h
      exact absurd h (by decide)
    · rw [h2, z, show eff 112 = 1 by decide] at h
      exact absurd h (by decide)
  | false =>
    have hi' := of_decide_eq_false hi
    exact ⟨fun _ z => hi' (Or.inr z), fun _ z => hi' (Or.inl z)⟩
