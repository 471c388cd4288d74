/-! judging: the reference counts the duties from above -/
def pend (rs : List xN) (P T V C : Nat → Int32) (v : Int32) (m k : Nat) : Prop := V k = v ∧ (k = 0 ∨ ∃ n r, n < m ∧ rs[n]? = some r ∧ P k = Int32.ofNat n ∧ C n = 1 ∧ tkn r.1 P T V n rs.length k)
section Count
variable {rs : List xN} {s0 : xS} {F P T V D : Nat → Int32} {v : Int32}
theorem oi_eq {G : Option Nat} {k N : Nat} (hG : ∀ m, G = some m → m < N) (hN : N ≤ 40) (hk : k < N) : oi G = Int32.ofNat k ↔ G = some k := by
  cases G with
  | none => exact ⟨fun h => absurd h.symm (x80n k (by omega)), fun h => by cases h⟩
  | some m =>
    have := hG m rfl
    exact ⟨fun h => by rw [show m = k from x_inj (by omega) (by omega) h], fun h => by cases h; rfl⟩
theorem g205_sel (hN : rs.length ≤ 40) {m k : Nat} {r : xN} (hm : rs[m]? = some r) (hk : k < rs.length) {s : xS} (h70 : s 70 0 = Int32.ofNat rs.length) (h71 : s 71 m = r.1) (h72 : ∀ k, k < rs.length → s 72 k = P k) (h87 : ∀ k, k < rs.length → s 87 k = phi (T k) ∧ v3 (T k) ∧ s 88 k = V k) (hq : neq F r P T V D m rs.length) (hv : v = 1 ∨ v = 2) (hc : r.1 = 70 ∨ r.1 = 79) :
    ∃ x, g205 (Int32.ofNat m) s = some (.inl x, s) ∧ (V m = v → (x = Int32.ofNat k ↔ tkn r.1 P T V m rs.length k)) := by
  have hm' := (List.getElem?_eq_some_iff.mp hm).1
  refine ⟨_, g205_eq hm' hN h70, fun hV => ?_⟩
  rw [oi_eq (N := rs.length) (fun m h => (fst1_lt h).2.1) hN hk, h71]
  unfold tkn
  rcases hc with hc | hc
  · rw [hc]
    simp only [if_true]
    rw [fst1_c (P := P) (c := fun k => !decide (V k = 0)) (fun k a b => ⟨h72 k b, by rw [(h87 k b).2.2]⟩)]
    exact ⟨fun h => ⟨fun _ => h, fun z => absurd z (by decide)⟩, fun h => h.1 trivial⟩
  · obtain ⟨-, -, -, -, b⟩ := hq
    have hi : isr r.1 = false := by rw [hc]; decide
    obtain ⟨e1, -, -⟩ := nV_12 hv ((b hi).1.symm.trans hV)
    rw [hc] at e1
    have eV : cV 79 P T V m rs.length = osv V 5 (oo P T m (kl m rs.length) none) := by
      unfold cV
      simp only [k79_68, k79_70, k79_80, k79_88, k79_89, if_false]
    rw [eV] at e1
    obtain ⟨⟨a1, a2, a3⟩, -⟩ := oo_oc (P := P) (T := T) (U := s 87) (n := m) (kl m rs.length) (fun k hk => ⟨(h87 k (kl_mem hk).2).1, (h87 k (kl_mem hk).2).2.1⟩)
    rw [hc]
    simp only [k79_70, if_false]
    rw [fst1_c (P := P) (c := fun k => decide (s 87 k = 1)) (fun k a b => ⟨h72 k b, rfl⟩)]
    match e : oo P T m (kl m rs.length) none with
    | none => rw [e, show osv V 5 none = 5 from rfl] at e1; subst e1; exact absurd hv (by decide)
    | some none => rw [e, show osv V 5 (some none) = 0 from rfl] at e1; subst e1; exact absurd hv (by decide)
    | some (some k0) =>
      have : fst1 P (fun k => decide (s 87 k = 1)) m rs.length = some k0 := (a3 k0 e).2
      rw [this]
      exact ⟨fun h => ⟨fun z => z.elim, fun _ => by rw [h]⟩, fun h => by have := h.2 trivial; cases this; rfl⟩
theorem g206_step (hN : rs.length ≤ 40) (hg : gLs 0 none rs) (hq : ∀ n r, rs[n]? = some r → neq F r P T V D n rs.length) (hP : ∀ n r, rs[n]? = some r → P n = pv r.2.1) (hv : v = 1 ∨ v = 2) (hV0 : V 0 = v) {s : xS} (h70 : s 70 0 = Int32.ofNat rs.length) (h71 : ∀ n r, rs[n]? = some r → s 71 n = r.1 ∧ s 72 n = pv r.2.1 ∧ s 77 n = (if r.1 = 100 then 0 else r.2.2.1) ∧ s 78 n = (if r.1 = 112 then 0 else r.2.2.2.1)) (h87 : ∀ k, k < rs.length → s 87 k = phi (T k) ∧ v3 (T k) ∧ s 88 k = V k) {n : Nat} {r : xN} (hr : rs[n]? = some r) (h89 : ∀ k, k < n → (s 89 k = 0 ∨ (s 89 k = 1 ∧ V k = v))) (acc : Int32) :
    ∃ b : Bool, (b = true ↔ pend rs P T V (s 89) v n n) ∧ g206_4b acc (Int32.ofNat n) s = some (.inl (bif b then acc ||| own r v else acc, Int32.ofNat (n + 1), xh_ui s 89 n (xb b))) := by
  have hn := (List.getElem?_eq_some_iff.mp hr).1
  have hx : xn (Int32.ofNat n) 40 = true := xn_of (by omega) (by omega)
  have hx8 : xn (Int32.ofNat n) 80 = true := xn_of (by omega) (by omega)
  have hcn : (Int32.ofNat n).toNatClampNeg = n := Int32.toNatClampNeg_ofNat_of_lt (by omega)
  have v0 : s 88 0 = v := by rw [(h87 0 (by omega)).2.2]; exact hV0
  obtain ⟨r71, r72, r77, r78⟩ := h71 n r hr
  obtain ⟨o1, o2⟩ := neq_own (hg n r hr).1 (hq n r hr)
  have e108 : ∀ b : Bool, (b = true → V n = v) → g206_108 acc (Int32.ofNat n) (Int32.ofNat n) (xb b) s = some (.inl (bif b then acc ||| own r v else acc, Int32.ofNat (n + 1), xh_ui s 89 n (xb b))) := by
    intro b hb
    have hnar : vp_nar .boolean (xb b) = xb b := by
      cases b
      · exact vpn0
      · exact vpn1
    unfold g206_108 g206_158 g206_160
    rw [hx, cond_true, cond_true, hx8, cond_true, cond_true, hcn, hnar, xu_s, x_succ, xu_o (show ¬ 88 = 89 by decide), xu_o (show ¬ 77 = 89 by decide), xu_o (show ¬ 78 = 89 by decide), v0, r77, r78]
    cases b with
    | false => rfl
    | true =>
      have hVn := hb rfl
      rw [show xb true = 1 from rfl, if_neg x1n, cond_true]
      unfold own
      rcases hv with e | e
      · rw [if_pos e, if_pos e, if_neg (o1 (hVn.trans e))]
      · rw [if_neg (show ¬ v = 1 by rw [e]; decide), if_neg (show ¬ v = 1 by rw [e]; decide), if_pos e, if_pos e, if_neg (o2 (hVn.trans e))]
  unfold g206_4b
  rw [h70, if_neg (by rw [x_le1000 (by omega) (by omega)]; omega), hx8, cond_true, hcn, r72]
  by_cases n0 : n = 0
  · subst n0
    have hp : r.2.1 = none := (hg 0 r hr).2.1 rfl
    refine ⟨true, ⟨fun _ => ⟨hV0, Or.inl rfl⟩, fun _ => rfl⟩, ?_⟩
    rw [hp, show pv none = -1 from rfl, if_pos rfl]
    unfold g206_61 g206_62 g206_103
    rw [hx, cond_true, hcn, if_pos rfl, if_pos rfl]
    exact e108 true (fun _ => hV0)
  · obtain ⟨m, r', m1, m2, m3, m4, m5⟩ := (hg n r hr).2.2 (by omega)
    rw [Nat.zero_add] at m1
    obtain ⟨q71, -, -, -⟩ := h71 m r' m3
    have hPn : P n = Int32.ofNat m := by rw [hP n r hr, m1]; rfl
    have hxm : xn (Int32.ofNat m) 40 = true := xn_of (by omega) (by omega)
    have hcm : (Int32.ofNat m).toNatClampNeg = m := Int32.toNatClampNeg_ofNat_of_lt (by omega)
    have hpend : pend rs P T V (s 89) v n n ↔ V n = v ∧ s 89 m = 1 ∧ tkn r'.1 P T V m rs.length n := by
      refine ⟨fun ⟨a, b⟩ => ?_, fun ⟨a, b, c⟩ => ⟨a, Or.inr ⟨m, r', m2, m3, hPn, b, c⟩⟩⟩
      rcases b with b | ⟨m', r'', b1, b2, b3, b4, b5⟩
      · exact absurd b n0
      · rw [hPn] at b3
        have : m = m' := x_inj (by omega) (by omega) b3
        subst this
        rw [m3] at b2
        cases b2
        exact ⟨a, b4, b5⟩
    have e62 : ∀ k0 : Int32, (V m = v → (k0 = 0 ↔ tkn r'.1 P T V m rs.length n)) → ∃ b : Bool, (b = true ↔ pend rs P T V (s 89) v n n) ∧ g206_62 acc (Int32.ofNat n) (Int32.ofNat m) k0 s = some (.inl (bif b then acc ||| own r v else acc, Int32.ofNat (n + 1), xh_ui s 89 n (xb b))) := by
      intro k0 hk0
      unfold g206_62 g206_103 g206_107
      rw [hx, cond_true, hcn, v0, (h87 n hn).2.2, if_neg (x80n m (by omega)), hxm, cond_true, hcm]
      by_cases q : V n = v
      · rw [if_pos q]
        rcases h89 m m2 with z | ⟨z, z2⟩
        · rw [if_pos z]
          exact ⟨false, ⟨fun h => (by cases h), fun h => by have := (hpend.mp h).2.1; rw [z] at this; exact absurd this (by decide)⟩, e108 false (fun h => by cases h)⟩
        · rw [if_neg (show ¬ s 89 m = 0 by rw [z]; decide)]
          by_cases y : k0 = 0
          · rw [if_pos y]
            exact ⟨true, ⟨fun _ => hpend.mpr ⟨q, z, (hk0 z2).mp y⟩, fun _ => rfl⟩, e108 true (fun _ => q)⟩
          · rw [if_neg y]
            exact ⟨false, ⟨fun h => (by cases h), fun h => absurd ((hk0 z2).mpr (hpend.mp h).2.2) y⟩, e108 false (fun h => by cases h)⟩
      · rw [if_neg q]
        exact ⟨false, ⟨fun h => (by cases h), fun h => absurd (hpend.mp h).1 q⟩, e108 false (fun h => by cases h)⟩
    rw [m1, show pv (some m) = Int32.ofNat m from rfl, if_neg (x80n m (by omega)), xn_of (by omega) (by omega), cond_true, hcm, q71]
    have e48 : (r'.1 = 70 ∨ r'.1 = 79) → ∃ b : Bool, (b = true ↔ pend rs P T V (s 89) v n n) ∧ g206_48 acc (Int32.ofNat n) (Int32.ofNat m) s = some (.inl (bif b then acc ||| own r v else acc, Int32.ofNat (n + 1), xh_ui s 89 n (xb b))) := by
      intro hc
      obtain ⟨x, x1, x2⟩ := g205_sel (F := F) (P := P) (T := T) (V := V) (D := D) (v := v) hN m3 hn h70 q71 (fun k hk => by
        have hk' := List.getElem?_eq_getElem hk
        rw [(h71 k _ hk').2.1, hP k _ hk']) h87 (hq m r' m3) hv hc
      unfold g206_48 g206_61
      rw [x1]
      dsimp only
      by_cases y : x = Int32.ofNat n
      · rw [if_pos y]
        exact e62 0 (fun z => ⟨fun _ => (x2 z).mp y, fun _ => rfl⟩)
      · rw [if_neg y]
        exact e62 1 (fun z => ⟨fun w => absurd w (by decide), fun w => absurd ((x2 z).mpr w) y⟩)
    by_cases c7 : r'.1 = 70
    · rw [if_pos c7]; exact e48 (Or.inl c7)
    · rw [if_neg c7]
      by_cases c9 : r'.1 = 79
      · rw [if_pos c9]; exact e48 (Or.inr c9)
      · rw [if_neg c9]
        exact e62 0 (fun _ => ⟨fun _ => ⟨fun z => absurd z c7, fun z => absurd z c9⟩, fun _ => rfl⟩)
theorem g206_eq (hN : rs.length ≤ 40) (hl : 0 < rs.length) (hg : gLs 0 none rs) (hq : ∀ n r, rs[n]? = some r → neq F r P T V D n rs.length) (hP : ∀ n r, rs[n]? = some r → P n = pv r.2.1) (hv : v = 1 ∨ v = 2) (hV0 : V 0 = v) (h70 : s0 70 0 = Int32.ofNat rs.length) (h71 : ∀ n r, rs[n]? = some r → s0 71 n = r.1 ∧ s0 72 n = pv r.2.1 ∧ s0 77 n = (if r.1 = 100 then 0 else r.2.2.1) ∧ s0 78 n = (if r.1 = 112 then 0 else r.2.2.2.1)) (h87 : ∀ k, k < rs.length → s0 87 k = phi (T k) ∧ v3 (T k) ∧ s0 88 k = V k) :
    ∃ s', g206 s0 = some (.inl (D 0), s') ∧ ∀ c, ¬ c = 89 → s' c = s0 c := by
  have lp : ∀ (k n f : Nat) (acc : Int32) (s : xS), n + k = rs.length → k < f → (∀ c, ¬ c = 89 → s c = s0 c) → (∀ k, k < n → (s 89 k = 0 ∨ (s 89 k = 1 ∧ V k = v))) → (∀ i, wt (D 0) i = true ↔ wt acc i = true ∨ ∃ k, n ≤ k ∧ k < rs.length ∧ pend rs P T V (s 89) v n k ∧ wt (D k) i = true) →
      ∃ s', xlo (fun a : Int32 × Int32 × xS => g206_4b a.1 a.2.1 a.2.2) f (acc, Int32.ofNat n, s) = some (.inl (D 0), s') ∧ ∀ c, ¬ c = 89 → s' c = s0 c := by
    intro k
    induction k with
    | zero =>
      intro n f acc s hn hf hfr h89 hI
      obtain ⟨f, rfl⟩ : ∃ f', f = f' + 1 := ⟨f - 1, by omega⟩
      have hn : n = rs.length := hn
      refine ⟨s, xlo_end ?_, hfr⟩
      dsimp only
      unfold g206_4b
      have : D 0 = acc := wt_ext fun i _ => by
        have h := hI i
        cases h1 : wt acc i with
        | true => exact h.mpr (Or.inl h1)
        | false =>
          cases h2 : wt (D 0) i with
          | false => rfl
          | true =>
            rcases h.mp h2 with z | ⟨k, z1, z2, -⟩
            · rw [h1] at z; cases z
            · omega
      rw [hfr 70 (by decide), h70, hn, if_pos (Int32.le_refl _), this]
    | succ k ih =>
      intro n f acc s hn hf hfr h89 hI
      obtain ⟨f, rfl⟩ : ∃ f', f = f' + 1 := ⟨f - 1, by omega⟩
      have hr := List.getElem?_eq_getElem (l := rs) (i := n) (by omega)
      generalize rs[n] = r at hr
      obtain ⟨b, b1, b2⟩ := g206_step (F := F) (P := P) (T := T) (V := V) (D := D) (v := v) (s := s) hN hg hq hP hv hV0 (by rw [hfr 70 (by decide)]; exact h70) (by rw [hfr 71 (by decide), hfr 72 (by decide), hfr 77 (by decide), hfr 78 (by decide)]; exact h71) (by rw [hfr 87 (by decide), hfr 88 (by decide)]; exact h87) hr h89 acc
      rw [xlo_step (a := (acc, Int32.ofNat n, s)) b2]
      refine ih (n + 1) f _ _ (by omega) (by omega) (fun c hc => by rw [xu_o hc, hfr c hc]) (fun j hj => ?_) (fun i => ?_)
      · by_cases hjn : j = n
        · subst hjn
          rw [xu_s]
          cases b with
          | false => exact Or.inl rfl
          | true => exact Or.inr ⟨rfl, (b1.mp rfl).1⟩
        · rw [xu_n hjn]; exact h89 j (by omega)
      · have hE := fun hV => neq_E hg hN hP hr (hq n r hr) hv hV i
        have pk : ∀ k, n < k → (pend rs P T V (xh_ui s 89 n (xb b) 89) v (n + 1) k ↔ pend rs P T V (s 89) v n k ∨ (b = true ∧ V k = v ∧ P k = Int32.ofNat n ∧ tkn r.1 P T V n rs.length k)) := by
          intro k hk
          constructor
          · rintro ⟨p1, p2⟩
            rcases p2 with p2 | ⟨m, r', p3, p4, p5, p6, p7⟩
            · omega
            · by_cases hmn : m = n
              · subst hmn
                rw [xu_s] at p6
                rw [hr] at p4
                cases p4
                cases b with
                | false => exact absurd p6 (by decide)
                | true => exact Or.inr ⟨rfl, p1, p5, p7⟩
              · rw [xu_n hmn] at p6
                exact Or.inl ⟨p1, Or.inr ⟨m, r', by omega, p4, p5, p6, p7⟩⟩
          · rintro (⟨p1, p2⟩ | ⟨p1, p2, p3, p4⟩)
            · rcases p2 with p2 | ⟨m, r', p3, p4, p5, p6, p7⟩
              · omega
              · exact ⟨p1, Or.inr ⟨m, r', by omega, p4, p5, by rw [xu_n (by omega)]; exact p6, p7⟩⟩
            · exact ⟨p2, Or.inr ⟨n, r, by omega, hr, p3, by rw [xu_s, p1]; rfl, p4⟩⟩
        rw [hI i]
        constructor
        · rintro (h | ⟨k, h1, h2, h3, h4⟩)
          · left
            cases b with
            | false => exact h
            | true => rw [cond_true, wt_or, h]; rfl
          · by_cases hkn : k = n
            · subst hkn
              have hb := b1.mpr h3
              subst hb
              rcases (hE h3.1).mp h4 with z | ⟨k', z1, z2, z3, z4, z5, z6⟩
              · left
                rw [cond_true, wt_or, z, Bool.or_true]
              · right
                exact ⟨k', by omega, z2, (pk k' z1).mpr (Or.inr ⟨rfl, z4, z3, z5⟩), z6⟩
            · right
              exact ⟨k, by omega, h2, (pk k (by omega)).mpr (Or.inl h3), h4⟩
        · rintro (h | ⟨k, h1, h2, h3, h4⟩)
          · cases b with
            | false => exact Or.inl h
            | true =>
              rw [cond_true, wt_or, Bool.or_eq_true] at h
              rcases h with h | h
              · exact Or.inl h
              · right
                have h3 := b1.mp rfl
                exact ⟨n, Nat.le_refl n, by omega, h3, (hE h3.1).mpr (Or.inl h)⟩
          · rcases (pk k (by omega)).mp h3 with z | ⟨z1, z2, z3, z4⟩
            · exact Or.inr ⟨k, by omega, h2, z, h4⟩
            · right
              have h3 := b1.mp z1
              exact ⟨n, Nat.le_refl n, by omega, h3, (hE h3.1).mpr (Or.inr ⟨k, by omega, h2, z3, z2, z4, h4⟩)⟩
  unfold g206 g206_4
  refine lp rs.length 0 1000 0 s0 (by omega) (by omega) (fun _ _ => rfl) (fun k hk => by omega) (fun i => ?_)
  rw [wt_0]
  constructor
  · intro h
    exact Or.inr ⟨0, Nat.le_refl 0, hl, ⟨hV0, Or.inl rfl⟩, h⟩
  · rintro (h | ⟨k, h1, h2, ⟨_, h3⟩, h4⟩)
    · cases h
    · rcases h3 with h3 | ⟨n, r, h3, _⟩
      · rw [h3] at h4; exact h4
      · omega
end Count
