/-! the class reads policies, and any node -/
theorem c_po {p : Nat} (hp : 22 < p) {B : Nat → Int32} {L N S i : Nat} {par : Option Nat} {w : Int32} {σ : xS} {kids : Nat → xP} {rc : Int32 → Int32 → xS → xO} (h : cR B L i σ) (hi : i < L) (h7 : σ p 7 = Int32.ofNat N) (h11 : σ p 11 = Int32.ofNat S) (hN : N < 40) (hS : S ≤ i)
    (hkq : ∀ j, j ≤ L → pQ L (N + 1) j (kids j)) (hk : ∀ S' j σ', cPre p B L (N + 1) S' (some N) (decide (nx B L i = 79)) j σ' → cPq p B L (N + 1) S' σ' (kids j) (g108 p rc (Int32.ofNat N) w σ')) (hci : isr (nx B L i) = false) : cPq p B L N S σ (ppo B L (nx B L i) par i kids) (g107 p rc (pv par) w σ) := by
  have hL := h.2.2.2.2
  obtain ⟨σ3, e1, e2, e3, a1, a2, a3⟩ := c_hd hp h hi h7 h11 hN hS (pv par)
  obtain ⟨t0, t1, t2⟩ := ptG_T (B := B) (L := L) (i := i + 1) hi
  unfold g107
  rw [e1]
  dsimp only
  rw [e2]
  dsimp only
  rw [e3]
  dsimp only
  unfold ppo
  cases g : (pT B L (i + 1)).1 with
  | false =>
    rw [xb_f, if_pos x0p, cond_false]
    exact ⟨σ3, rfl, a1, a2, fun z => by cases z⟩
  | true =>
    obtain ⟨b0, b7, b11, b1, b2, b5, b6, b8⟩ := a3 g
    obtain ⟨t3, t4⟩ := t2 g
    rw [xb_t, if_neg x1n, cond_true, g102_eq a1 (by omega)]
    generalize pT B L (i + 1) = t at *
    by_cases q : nx B L t.2.1 = 123
    · have hlt := nx_lt (B := B) (L := L) (i := t.2.1) (by rw [q]; decide)
      rw [if_pos q, if_pos q]
      dsimp only
      rw [if_neg x1n]
      have hpre : cPre p B L (N + 1) (S + t.2.2.1.length) (some N) (decide (nx B L i = 79)) (t.2.1 + 1) (mv σ3 (t.2.1 + 1) (nx B L (t.2.1 + 1))) :=
        ⟨cR_mv a1 _, hlt, by rw [mv_o (by omega)]; exact b7, by rw [mv_o (by omega)]; exact b11, by omega, hN, Nat.lt_succ_self N, by rw [mv_o (by omega), b1]⟩
      obtain ⟨σ5, c1, c2, c3, c4⟩ := hk (S + t.2.2.1.length) (t.2.1 + 1) _ hpre
      obtain ⟨k0, k1, k2⟩ := hkq (t.2.1 + 1) hlt
      rw [c1]
      dsimp only
      generalize kids (t.2.1 + 1) = k at *
      unfold pp2
      cases g2 : k.1 with
      | false =>
        rw [xb_f, if_pos x0p, cond_false]
        exact ⟨σ5, rfl, c2, cF_trans (cF_trans a2 (cF_mv p σ3 _ _)) c3, fun z => by cases z⟩
      | true =>
        obtain ⟨d0, d7, d11, dN⟩ := c4 g2
        obtain ⟨k3, k4, k5, k6, k7, k8⟩ := k2 g2
        have f5 : cFn p (N + 1) (S + t.2.2.1.length) σ3 σ5 := cFn_trans (cFn_mv hp σ3 _ _) d0 (Nat.le_refl _) (Nat.le_refl _)
        have f05 : cFn p N S σ σ5 := cFn_trans b0 f5 (by omega) (by omega)
        obtain ⟨σ6, u1, u2, u3, u4⟩ := g105_eq (g := 43) (by decide) c2 k1
        obtain ⟨v0, v1, v2⟩ := pd_le (B := B) (L := L) (g := 43) (by decide) (i := k.2.1) k1
        rw [xb_t, if_neg x1n, cond_true, u1]
        dsimp only
        unfold pp3
        generalize pd B L 43 k.2.1 = d1 at *
        have f06 := cFn_trans f05 (cFn_20 hp u3) (Nat.le_refl _) (Nat.le_refl _)
        by_cases z : d1.1 = 1
        · rw [if_pos z, if_pos z, if_neg x1n, xn_of (by omega) hN, cond_true, Int32.toNatClampNeg_ofNat_of_lt (by omega)]
          let σ7 : xS := xh_ui σ6 (p + 3) N (σ6 20 4)
          have h7' : cR B L d1.2.1 σ7 := cR_20 u2 (by omega) rfl
          have f07 := cFn_trans f06 (cFn_ui (p := p) (c := p + 3) (S := S) (by omega) (by omega) σ6 (Nat.le_refl N) (σ6 20 4)) (Nat.le_refl _) (Nat.le_refl _)
          obtain ⟨σ8, w1, w2, w3, w4⟩ := g105_eq (g := 45) (by decide) h7' v1
          rw [show g105 45 (xh_ui σ6 (p + 3) N (σ6 20 4)) = _ from w1]
          dsimp only
          unfold pp4
          generalize pd B L 45 d1.2.1 = d2 at *
          have f08 := cFn_trans f07 (cFn_20 hp w3) (Nat.le_refl _) (Nat.le_refl _)
          by_cases y : d2.1 = 1
          · rw [if_pos y, if_pos y, if_neg x1n]
            have f89 := cFn_ui (p := p) (N := N) (S := S) (c := p + 4) (by omega) (by omega) σ8 (Nat.le_refl N) (σ8 20 4)
            have f09 := cFn_trans f08 f89 (Nat.le_refl _) (Nat.le_refl _)
            have kk : ∀ c, ¬ c = p + 3 → ¬ c = p + 4 → ¬ c = 20 → xh_ui σ8 (p + 4) N (σ8 20 4) c = σ5 c := fun c x y z => by
              rw [xu_o y, w3 c z]
              show xh_ui σ6 (p + 3) N (σ6 20 4) c = _
              rw [xu_o x, u3 c z]
            have kN : ∀ c, p < c → c ≤ p + 7 → σ5 c N = σ3 c N := fun c x y => f5.2.1 c x y N (by omega)
            have fk : cNs p (N + 1) (S + t.2.2.1.length) k.2.2 (xh_ui σ8 (p + 4) N (σ8 20 4)) := by
              have g1 : ∀ c, p < c → c ≤ p + 7 → ∀ j, N + 1 ≤ j → xh_ui σ8 (p + 4) N (σ8 20 4) c j = σ5 c j := fun c x y j hj => by
                by_cases c3 : c = p + 3
                · subst c3
                  rw [xu_o (by omega), w3 _ (by omega)]
                  show xh_ui σ6 (p + 3) N (σ6 20 4) (p + 3) j = _
                  rw [xu_n (by omega), u3 _ (by omega)]
                · by_cases c4 : c = p + 4
                  · subst c4
                    rw [xu_n (by omega), w3 _ (by omega)]
                    show xh_ui σ6 (p + 3) N (σ6 20 4) (p + 4) j = _
                    rw [xu_o (by omega), u3 _ (by omega)]
                  · rw [kk c c3 c4 (by omega)]
              have g2 : ∀ c, p + 8 ≤ c → c ≤ p + 10 → xh_ui σ8 (p + 4) N (σ8 20 4) c = σ5 c := fun c x y => kk c (by omega) (by omega) (by omega)
              have go : ∀ (rs : List xN) (N' S' : Nat), N + 1 ≤ N' → cNs p N' S' rs σ5 → cNs p N' S' rs (xh_ui σ8 (p + 4) N (σ8 20 4)) := by
                intro rs
                induction rs with
                | nil => intro N' S' _ _; trivial
                | cons r rs ih =>
                  intro N' S' hN' hc
                  obtain ⟨⟨x1, x2, x3, x4, x5, x6, x7, x8⟩, x9⟩ := hc
                  refine ⟨⟨by rw [g1 _ (by omega) (by omega) N' hN']; exact x1, by rw [g1 _ (by omega) (by omega) N' hN']; exact x2, by rw [g1 _ (by omega) (by omega) N' hN']; exact x3, by rw [g1 _ (by omega) (by omega) N' hN']; exact x4, by rw [g1 _ (by omega) (by omega) N' hN']; exact x5, by rw [g1 _ (by omega) (by omega) N' hN']; exact x6, fun z => by rw [g1 _ (by omega) (by omega) N' hN']; exact x7 z, fun q t hq => ?_⟩, ih (N' + 1) (S' + stp r) (by omega) x9⟩
                  rw [g2 _ (by omega) (by omega), g2 _ (by omega) (by omega), g2 _ (by omega) (by omega)]
                  exact x8 q t hq
              exact go _ _ _ (Nat.le_refl _) dN
            refine ⟨_, rfl, cR_20 w2 (by omega) rfl, f09.1, fun _ => ⟨f09, ?_, ?_, ⟨⟨?_, ?_, ?_, ?_, ?_, ?_, fun z => ?_, fun q u hq => ?_⟩, ?_⟩⟩⟩
            · rw [kk p (by omega) (by omega) (by omega), d7]
              show _ = Int32.ofNat (N + (k.2.2.length + 1))
              rw [show N + 1 + k.2.2.length = N + (k.2.2.length + 1) by omega]
            · rw [kk p (by omega) (by omega) (by omega), d11]
              show _ = Int32.ofNat (S + (t.2.2.1.length + 0 + tS k.2.2))
              rw [show S + t.2.2.1.length + tS k.2.2 = S + (t.2.2.1.length + 0 + tS k.2.2) by omega]
            · rw [kk _ (by omega) (by omega) (by omega), kN _ (by omega) (by omega)]; exact b1
            · rw [kk _ (by omega) (by omega) (by omega), kN _ (by omega) (by omega)]; exact b2
            · rw [xu_o (by omega), w3 _ (by omega)]
              show xh_ui σ6 (p + 3) N (σ6 20 4) (p + 3) N = _
              rw [xu_s]; exact u4
            · rw [xu_s]; exact w4
            · rw [kk _ (by omega) (by omega) (by omega), kN _ (by omega) (by omega)]; exact b5
            · rw [kk _ (by omega) (by omega) (by omega), kN _ (by omega) (by omega)]; exact b6
            · exact absurd (hci.symm.trans z) (by decide)
            · rw [kk _ (by omega) (by omega) (by omega), kk _ (by omega) (by omega) (by omega), kk _ (by omega) (by omega) (by omega)]
              have hq' : t.2.2.1[q]? = some u := by
                have hq : (t.2.2.1 ++ [])[q]? = some u := hq
                rw [List.append_nil] at hq
                exact hq
              have hlt2 : q < t.2.2.1.length := (List.getElem?_eq_some_iff.mp hq').1
              rw [f5.2.2 _ (by omega) (by omega) _ (by omega), f5.2.2 _ (by omega) (by omega) _ (by omega), f5.2.2 _ (by omega) (by omega) _ (by omega)]
              exact b8 q u hq'
            · exact fk
          · rw [if_neg y, if_neg y, if_pos x0p]
            exact ⟨σ8, rfl, w2, f08.1, fun z => by cases z⟩
        · rw [if_neg z, if_neg z, if_pos x0p]
          exact ⟨σ6, rfl, u2, f06.1, fun z => by cases z⟩
    · rw [if_neg q, if_neg q]
      dsimp only
      rw [if_pos x0p]
      exact ⟨σ3, rfl, a1, a2, fun z => by cases z⟩
theorem g106_eq (x : Int32) (σ : xS) : g106 x σ = some (.inl (xb (comb x)), σ) := by
  by_cases h : (x = 68 ∨ x = 80 ∨ x = 70 ∨ x = 88 ∨ x = 89 ∨ x = 79)
  · have e : comb x = true := decide_eq_true h
    rw [e]
    rcases h with rfl | rfl | rfl | rfl | rfl | rfl <;> rfl
  · have e : comb x = false := decide_eq_false h
    rw [e]
    simp only [not_or] at h
    obtain ⟨h1, h2, h3, h4, h5, h6⟩ := h
    unfold g106
    simp only [h1, h2, h3, h4, h5, h6, if_false]
    rfl
theorem x40n : ∀ m, m < 40 → ¬ Int32.ofNat m = -1 := by decide
/-- the class reads a node -/
theorem c_nd {p : Nat} (hp : 22 < p) {B : Nat → Int32} {L : Nat} : ∀ (f N : Nat) (par : Option Nat) (o : Bool) (w i S : Nat) (σ : xS), 8 ≤ f + w → w ≤ 5 → cPre p B L N S par o i σ → cPq p B L N S σ (pnd B L f N par o w i) (g91 p f (pv par) (Int32.ofNat w) σ)
  | 0, N, par, o, w, i, S, σ, h1, h2, _ => absurd h1 (by omega)
  | f + 1, N, par, o, w, i, S, σ, hf, hw, h => by
    obtain ⟨hr, hi, h7, h11, hS, hN, hpar⟩ := h
    have hL := hr.2.2.2.2
    show cPq p B L N S σ (pnd B L (f + 1) N par o w i) (g91e p (g91 p f) (pv par) (Int32.ofNat w) σ)
    rw [pnd]
    have z40 : (40 : Int32).toInt = 40 := by decide
    by_cases hN4 : 40 ≤ N
    · have n40 : ¬ σ p 7 < 40 := by rw [h7, Int32.lt_iff_toInt_lt, z40, Int32.toInt_ofNat_of_lt (by omega)]; omega
      rw [if_pos hN4]
      refine ⟨σ, ?_, hr, fun _ _ _ => rfl, fun z => by cases z⟩
      simp only [g91e, g92, if_neg n40, x10, if_false]
      rfl
    · have n40 : σ p 7 < 40 := by rw [h7, Int32.lt_iff_toInt_lt, z40, Int32.toInt_ofNat_of_lt (by omega)]; omega
      rw [if_neg hN4]
      cases g : isr (nx B L i) with
      | true =>
        have e30 : g91e p (g91 p f) (pv par) (Int32.ofNat w) σ = g91_30 p (g91 p f) (pv par) σ := by
          have g' := of_decide_eq_true g
          by_cases q : nx B L i = 112
          · simp only [g91e, g92, if_pos n40, if_true, hr.2.1, if_pos q]
          · simp only [g91e, g92, if_pos n40, if_true, hr.2.1, if_neg q, if_pos (g'.resolve_left q)]
        rw [e30, cond_true]
        cases o with
        | true =>
          cases par with
          | none => cases hpar
          | some m =>
            obtain ⟨m1, m2⟩ := hpar
            have hk : σ (p + 1) m = 79 := of_decide_eq_true m2.symm
            refine ⟨σ, ?_, hr, fun _ _ _ => rfl, fun z => by cases z⟩
            show g91_30 p (g91 p f) (Int32.ofNat m) σ = _
            simp only [g91_30, if_neg (x40n m (by omega)), xn_of (by omega : m < 2 ^ 31) (by omega : m < 40), cond_true, Int32.toNatClampNeg_ofNat_of_lt (by omega : m < 2 ^ 31), if_pos hk, g91_54, if_true]
            rfl
        | false =>
          have e49 : g91_30 p (g91 p f) (pv par) σ = g91_54 p (g91 p f) (pv par) 1 σ := by
            cases par with
            | none =>
              show g91_30 p (g91 p f) (-1) σ = _
              simp only [g91_30, if_true, g91_49]
              rfl
            | some m =>
              obtain ⟨m1, m2⟩ := hpar
              have hk : ¬ σ (p + 1) m = 79 := of_decide_eq_false m2.symm
              show g91_30 p (g91 p f) (Int32.ofNat m) σ = _
              simp only [g91_30, if_neg (x40n m (by omega)), xn_of (by omega : m < 2 ^ 31) (by omega : m < 40), cond_true, Int32.toNatClampNeg_ofNat_of_lt (by omega : m < 2 ^ 31), if_neg hk, g91_49]
              rfl
          rw [e49, cond_false]
          obtain ⟨σ', a1, a2, a3, a4⟩ := c_ru (par := par) hp hr (nx_lt (isr_m1 g)) h7 h11 (by omega) hS
          refine ⟨σ', ?_, a2, a3, a4⟩
          unfold g91_54
          rw [if_neg x1n, a1]
          dsimp only
          cases (pru B L (nx B L i) par i).1 <;> rfl
      | false =>
        rw [cond_false]
        have q1 : ¬ nx B L i = 112 := fun q => by rw [q] at g; revert g; decide
        have q2 : ¬ nx B L i = 100 := fun q => by rw [q] at g; revert g; decide
        cases g2 : comb (nx B L i) with
        | false =>
          refine ⟨σ, ?_, hr, fun _ _ _ => rfl, fun z => by cases z⟩
          simp only [g91e, g92, if_pos n40, if_true, hr.2.1, if_neg q1, if_neg q2, g106_eq, g2, xb_f]
          rfl
        | true =>
          rw [cond_true]
          have z5 : (5 : Int32).toInt = 5 := by decide
          by_cases hw5 : w < 5
          · have n5 : ¬ 5 ≤ Int32.ofNat w := by rw [Int32.le_iff_toInt_le, z5, Int32.toInt_ofNat_of_lt (by omega)]; omega
            rw [if_pos hw5]
            have hq : ∀ N' j, j ≤ L → pQ L N' j (pnd B L f N' (some N) (decide (nx B L i = 79)) (w + 1) j) := fun N' j hj => pQ_nd f N' (some N) _ (w + 1) j hj
            obtain ⟨σ', a1, a2, a3, a4⟩ := c_po (par := par) (w := Int32.ofNat (w + 1)) (rc := g91 p f) (kids := pkd B L (fun N' j => pnd B L f N' (some N) (decide (nx B L i = 79)) (w + 1) j) 40 (N + 1)) hp hr (nx_lt (comb_m1 g2)) h7 h11 (by omega) hS (fun j hj => pQ_kd hq 40 (N + 1) j hj)
              (fun S' j σ' hpre => c_kd (x1 := Int32.ofNat N) (x2 := Int32.ofNat (w + 1)) (rc := g91 p f) hp hq (fun N2 S2 j2 σ2 h2 => c_nd hp f N2 (some N) (decide (nx B L i = 79)) (w + 1) j2 S2 σ2 (by omega) (by omega) h2) 40 0 (N + 1) S' j 1000 σ' rfl (by decide) hpre) g
            refine ⟨σ', ?_, a2, a3, a4⟩
            simp only [g91e, g92, if_pos n40, if_true, hr.2.1, if_neg q1, if_neg q2, g106_eq, g2, xb_t, x10, if_false, if_neg n5, x_succ, a1]
            cases (ppo B L (nx B L i) par i (pkd B L (fun N' j => pnd B L f N' (some N) (decide (nx B L i = 79)) (w + 1) j) 40 (N + 1))).1 <;> rfl
          · have n5 : 5 ≤ Int32.ofNat w := by rw [Int32.le_iff_toInt_le, z5, Int32.toInt_ofNat_of_lt (by omega)]; omega
            rw [if_neg hw5]
            refine ⟨σ, ?_, hr, fun _ _ _ => rfl, fun z => by cases z⟩
            simp only [g91e, g92, if_pos n40, if_true, hr.2.1, if_neg q1, if_neg q2, g106_eq, g2, xb_t, x10, if_false, if_pos n5]
            rfl
