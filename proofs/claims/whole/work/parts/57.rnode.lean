/-! the reference reads any node -/
theorem cC_step {s s2 : xS} (h : g186_0b s = some (.inl s2)) (F m : Nat) : cC F (m + 1) s = cC F m s2 := by
  unfold cC
  rw [xlo_step (f := cL) (a := s) h]
/-- what closing a policy leaves -/
def rCl (N w : Nat) (s s2 : xS) : Prop := (∀ c, ¬ c = 53 → ¬ c = 77 → ¬ c = 78 → s2 c = s c) ∧ (∀ j, ¬ j = 19 → ¬ j = 20 → ¬ j = 40 → s2 53 j = s 53 j) ∧ (∀ c j, c = 77 ∨ c = 78 → ¬ j = 40 + N → s2 c j = s c j) ∧ s2 53 40 = Int32.ofNat w
theorem rCl_fr {N w M D w' : Nat} {s s2 : xS} (h : rCl N w s s2) : rFn N M D w' s s2 := by
  obtain ⟨a1, a2, a3, a4⟩ := h
  refine ⟨fun c x y => a1 c x (by omega) (by omega), fun j x y _ _ z => a2 j x y z, by rw [a1 70 (by decide) (by decide) (by decide)], fun c x y j z => ?_, fun c x y j _ => by rw [a1 c (by omega) (by omega) (by omega)], fun j _ => by rw [a1 84 (by decide) (by decide) (by decide)], fun j _ => by rw [a1 85 (by decide) (by decide) (by decide)]⟩
  by_cases q : c = 77 ∨ c = 78
  · exact a3 c j q (by omega)
  · rw [a1 c (by omega) (by omega) (by omega)]
theorem rCl_Ns {N w : Nat} {s s2 : xS} (h : rCl N w s s2) : ∀ (rs : List xN) (N' M D : Nat), N < N' → rNs N' M D rs s → rNs N' M D rs s2
  | [], _, _, _, _, _ => trivial
  | r :: rs, N', M, D, hN, hn => by
    obtain ⟨a1, a2, a3, a4⟩ := id h
    obtain ⟨⟨h1, h2, h3, h4, h5, h6, h7, h8, h9, h10⟩, hs⟩ := hn
    refine ⟨⟨by rw [a1 71 (by decide) (by decide) (by decide)]; exact h1, by rw [a1 72 (by decide) (by decide) (by decide)]; exact h2, by rw [a1 73 (by decide) (by decide) (by decide)]; exact h3, by rw [a1 74 (by decide) (by decide) (by decide)]; exact h4, fun z => by rw [a1 75 (by decide) (by decide) (by decide), a1 76 (by decide) (by decide) (by decide)]; exact h5 z, by rw [a3 77 _ (Or.inl rfl) (by omega)]; exact h6, by rw [a3 78 _ (Or.inr rfl) (by omega)]; exact h7, fun q t hq => ?_, fun q t hq => ?_, fun q d hq => ?_⟩, rCl_Ns h rs (N' + 1) _ _ (by omega) hs⟩
    · rw [a1 79 (by decide) (by decide) (by decide), a1 80 (by decide) (by decide) (by decide), a1 81 (by decide) (by decide) (by decide), a1 82 (by decide) (by decide) (by decide), a1 83 (by decide) (by decide) (by decide)]; exact h8 q t hq
    · rw [a1 79 (by decide) (by decide) (by decide), a1 80 (by decide) (by decide) (by decide), a1 81 (by decide) (by decide) (by decide)]; exact h9 q t hq
    · rw [a1 84 (by decide) (by decide) (by decide)]; exact h10 q d hq
/-- a policy closes -/
theorem r_cl {B : Nat → Int32} {L e w N : Nat} {s : xS} (hr : rR B L e s) (q : nx B L e = 125) (hw : s 53 20 = -1) (h40 : s 53 40 = Int32.ofNat (w + 1)) (hw5 : w < 5) (h85 : s 85 w = Int32.ofNat (40 + N)) (hN : N < 40) :
    ∃ s2, g186_0b s = some (.inl s2) ∧ rCl N w s s2 ∧
      ((pd B L 43 (e + 1)).1 = 1 → (pd B L 45 (pd B L 43 (e + 1)).2.1).1 = 1 → rR B L (pd B L 45 (pd B L 43 (e + 1)).2.1).2.1 s2 ∧ s2 53 20 = -1 ∧ s2 77 (40 + N) = (pd B L 43 (e + 1)).2.2 ∧ s2 78 (40 + N) = (pd B L 45 (pd B L 43 (e + 1)).2.1).2.2) ∧
      ((pd B L 43 (e + 1)).1 = 1 → ¬ (pd B L 45 (pd B L 43 (e + 1)).2.1).1 = 1 → s2 53 20 = Int32.ofNat (pd B L 45 (pd B L 43 (e + 1)).2.1).2.1 ∨ (rR B L (pd B L 45 (pd B L 43 (e + 1)).2.1).2.1 s2 ∧ s2 53 20 = -1 ∧ od (nx B L (pd B L 45 (pd B L 43 (e + 1)).2.1).2.1) = true)) ∧
      (¬ (pd B L 43 (e + 1)).1 = 1 → s2 53 20 = Int32.ofNat (pd B L 43 (e + 1)).2.1 ∨ (rR B L (pd B L 43 (e + 1)).2.1 s2 ∧ s2 53 20 = -1 ∧ od (nx B L (pd B L 43 (e + 1)).2.1) = true)) := by
  have hL := hr.2.2.2
  have hlt := nx_lt (B := B) (L := L) (i := e) (by rw [q]; decide)
  have n0 : ¬ s 53 40 ≤ 0 := by rw [h40]; exact x_pos (by omega)
  let s1 : xS := xh_ui (ra s (e + 1)) 53 40 (Int32.ofNat w)
  have hr1 : rR B L (e + 1) s1 := ⟨rfl, hr.2.1, hr.2.2.1, hL⟩
  have hw1 : s1 53 20 = -1 := hw
  obtain ⟨p0, p1, p2⟩ := pd_le (B := B) (L := L) (g := 43) (by decide) (i := e + 1) hlt
  have p012 := pd_012 (B := B) (L := L) (g := 43) (i := e + 1)
  have e1 := g185_eq (g := 43) (by decide) hr1 hlt hw1
  have e2 : ∀ z : Int32, ∀ s13 : xS, g185 43 s1 = some (.inl z, s13) → s13 53 40 = Int32.ofNat w → s13 85 = s 85 → ∀ z2 s18, g185 45 (xh_ui s13 77 (40 + N) z) = some (.inl z2, s18) → g186_0b s = some (.inl (xh_ui s18 78 (40 + N) z2)) := by
    intro z s13 h1 h2 h3 z2 s18 h4
    have hx : xn (Int32.ofNat (40 + N)) 80 = true := xn_of (by omega) (by omega)
    have hc : (Int32.ofNat (40 + N)).toNatClampNeg = 40 + N := Int32.toNatClampNeg_ofNat_of_lt (by omega)
    have h40' : ra s (e + 1) 53 40 = Int32.ofNat (w + 1) := h40
    have k1 : s1 53 40 = Int32.ofNat w := rfl
    have k2 : s1 85 w = Int32.ofNat (40 + N) := h85
    have k3 : xh_ui s13 77 (40 + N) z 53 40 = Int32.ofNat w := by rw [xu_o (by decide)]; exact h2
    have k4 : xh_ui s13 77 (40 + N) z 85 w = Int32.ofNat (40 + N) := by rw [xu_o (by decide), h3]; exact h85
    unfold g186_0b
    rw [g171_1 hw]
    dsimp only
    rw [if_neg x1n, if_neg n0, g173_eq hr (by omega)]
    dsimp only
    rw [if_pos q, ra_s hr, h40', x_pred, show xh_ui (ra s (e + 1)) 53 40 (Int32.ofNat w) = s1 from rfl, k1, xn_of (by omega) (by omega), cond_true, Int32.toNatClampNeg_ofNat_of_lt (by omega), h1]
    dsimp only
    rw [k2, hx, cond_true, hc, k3, xn_of (by omega) (by omega), cond_true, h4]
    dsimp only
    rw [Int32.toNatClampNeg_ofNat_of_lt (by omega), k4, hx, cond_true, hc]
  generalize pd B L 43 (e + 1) = d1 at *
  -- what the two readings of duties leave
  have cl : ∀ (s13 s18 : xS) (z z2 : Int32), (∀ c, ¬ c = 53 → s13 c = s c) → (∀ j, ¬ j = 19 → ¬ j = 20 → ¬ j = 40 → s13 53 j = s 53 j) → (∀ c, ¬ c = 53 → s18 c = xh_ui s13 77 (40 + N) z c) → (∀ j, ¬ j = 19 → ¬ j = 20 → s18 53 j = s13 53 j) → s13 53 40 = Int32.ofNat w → rCl N w s (xh_ui s18 78 (40 + N) z2) := by
    intro s13 s18 z z2 a1 a2 a3 a4 a5
    refine ⟨fun c x y u => by rw [xu_o u, a3 c x, xu_o y, a1 c x], fun j x y u => by rw [xu_o (by decide), a4 j x y, a2 j x y u], fun c j x y => ?_, by rw [xu_o (by decide), a4 40 (by decide) (by decide)]; exact a5⟩
    rcases x with rfl | rfl
    · rw [xu_o (by decide), a3 77 (by decide), xu_n y, a1 77 (by decide)]
    · rw [xu_n y, a3 78 (by decide), xu_o (by decide), a1 78 (by decide)]
  have f1 : ∀ c, ¬ c = 53 → s1 c = s c := fun c x => by show xh_ui (ra s (e + 1)) 53 40 _ c = _; unfold ra; rw [xu_o x, xu_o x]
  have f1j : ∀ j, ¬ j = 19 → ¬ j = 40 → s1 53 j = s 53 j := fun j x y => by show xh_ui (ra s (e + 1)) 53 40 _ 53 j = _; unfold ra; rw [xu_n y, xu_n x]
  by_cases q0 : d1.1 = 0
  · rw [if_pos q0] at e1
    have he : xh_ui (xh_ui (ra s1 d1.2.1) 53 20 (Int32.ofNat d1.2.1)) 77 (40 + N) d1.2.2 53 20 = Int32.ofNat d1.2.1 := by rw [xu_o (by decide), xu_s]
    have e3 := g185_no (g := 45) he (by omega)
    refine ⟨_, e2 _ _ e1 rfl ?_ _ _ e3, cl _ _ d1.2.2 0 (fun c x => by unfold ra; rw [xu_o x, xu_o x]; exact f1 c x) (fun j x y u => by unfold ra; rw [xu_n y, xu_n x]; exact f1j j x u) (fun c x => rfl) (fun j x y => by rw [xu_o (by decide)]) rfl, fun z => absurd z (by omega), fun z => absurd z (by omega), fun _ => Or.inl ?_⟩
    · show (xh_ui (ra s1 d1.2.1) 53 20 (Int32.ofNat d1.2.1)) 85 = _
      unfold ra
      rw [xu_o (by decide), xu_o (by decide)]; exact f1 85 (by decide)
    · rw [xu_o (by decide)]; exact he
  · rw [if_neg q0] at e1
    let s14 : xS := xh_ui (ra s1 d1.2.1) 77 (40 + N) d1.2.2
    have hr14 : rR B L d1.2.1 s14 := ⟨rfl, hr1.2.1, hr1.2.2.1, hL⟩
    have hw14 : s14 53 20 = -1 := hw
    have e3 := g185_eq (g := 45) (by decide) hr14 p1 hw14
    have g13 : ∀ c, ¬ c = 53 → ra s1 d1.2.1 c = s c := fun c x => by unfold ra; rw [xu_o x]; exact f1 c x
    have g13j : ∀ j, ¬ j = 19 → ¬ j = 20 → ¬ j = 40 → ra s1 d1.2.1 53 j = s 53 j := fun j x _ u => by unfold ra; rw [xu_n x]; exact f1j j x u
    have g85 : ra s1 d1.2.1 85 = s 85 := g13 85 (by decide)
    obtain ⟨v0, v1, v2⟩ := pd_le (B := B) (L := L) (g := 45) (by decide) (i := d1.2.1) p1
    have v012 := pd_012 (B := B) (L := L) (g := 45) (i := d1.2.1)
    have hdup : d1.1 = 2 → pd B L 45 d1.2.1 = (1, d1.2.1, 0) := fun z => by
      unfold pd
      rw [if_neg (od_no (p2 z)).2.2.2]
    generalize pd B L 45 d1.2.1 = d2 at *
    by_cases y0 : d2.1 = 0
    · rw [if_pos y0] at e3
      refine ⟨_, e2 _ _ e1 rfl g85 _ _ e3, cl _ _ d1.2.2 _ g13 g13j (fun c x => by unfold ra; rw [xu_o x, xu_o x]; rfl) (fun j x y => by unfold ra; rw [xu_n y, xu_n x]; show xh_ui _ 77 _ _ 53 j = _; rw [xu_o (by decide)]; rfl) rfl, fun _ z => absurd z (by omega), fun _ _ => Or.inl ?_, fun z => ?_⟩
      · rw [xu_o (by decide), xu_s]
      · have z2 : d1.1 = 2 := by omega
        have := hdup z2
        rw [this] at y0
        cases y0
    · rw [if_neg y0] at e3
      have hr18 : rR B L d2.2.1 (xh_ui (ra s14 d2.2.1) 78 (40 + N) d2.2.2) := ⟨rfl, hr14.2.1, hr14.2.2.1, hL⟩
      refine ⟨_, e2 _ _ e1 rfl g85 _ _ e3, cl _ _ d1.2.2 _ g13 g13j (fun c x => by unfold ra; rw [xu_o x]; rfl) (fun j x y => by unfold ra; rw [xu_n x]; show xh_ui _ 77 _ _ 53 j = _; rw [xu_o (by decide)]; rfl) rfl, fun z1 z2 => ⟨hr18, hw, ?_, ?_⟩, fun z1 z2 => Or.inr ⟨hr18, hw, v2 (by omega)⟩, fun z => Or.inr ?_⟩
      · rw [xu_o (by decide)]
        unfold ra
        rw [xu_o (by decide)]
        exact xu_s _ 77 (40 + N) _
      · exact xu_s _ 78 (40 + N) _
      · have z2 : d1.1 = 2 := by omega
        have hd := hdup z2
        rw [hd] at hr18 ⊢
        exact ⟨hr18, hw, p2 z2⟩
/-- the reference reads a node -/
theorem r_nd {B : Nat → Int32} {L : Nat} : ∀ (f N M D : Nat) (par : Option Nat) (o : Bool) (w i : Nat) (s : xS), 8 ≤ f + w → rPre B L N M D par o w i s → rSim B L N M D w s (pnd B L f N par o w i)
  | 0, N, M, D, par, o, w, i, s, h1, h => absurd h.2.2.2.2.2.2.2.2.2.2.1 (by omega)
  | f + 1, N, M, D, par, o, w, i, s, hf, h => by
    obtain ⟨hr, hi, hw, h70, hM, hD, h3, hDi, hN', h40, hw5', hpar⟩ := id h
    have hL := hr.2.2.2
    have l := Nat.le_refl
    have fail : ∀ r : xP, r = (false, i, []) → (40 ≤ N ∨ (isr (nx B L i) = true ∧ o = true) ∨ (isr (nx B L i) = false ∧ comb (nx B L i) = false) ∨ (isr (nx B L i) = false ∧ w = 5)) → rSim B L N M D w s r := by
      intro r e hc
      subst e
      exact ⟨fun z => (by cases z), fun _ => ⟨2, xh_ui s 53 20 (Int32.ofNat i), by omega, oL_no (e := i) hw (r_no h hc) (xu_s _ _ _ _) (by omega), xu_s _ _ _ _, rFn_53 (Or.inr (Or.inl rfl)) s _⟩⟩
    rw [pnd]
    by_cases hN4 : 40 ≤ N
    · rw [if_pos hN4]; exact fail _ rfl (Or.inl hN4)
    · rw [if_neg hN4]
      cases g : isr (nx B L i) with
      | true =>
        rw [cond_true]
        cases o with
        | true => exact fail _ rfl (Or.inr (Or.inl ⟨g, rfl⟩))
        | false =>
          obtain ⟨s', a1, a2, a3, a4⟩ := r_ru h (by omega) g
          obtain ⟨q0, q1, q2⟩ := pQ_ru (B := B) (L := L) (N := N) (i := i) (c := nx B L i) (par := par) (nx_lt (isr_m1 g)) (by omega)
          rw [cond_false]
          refine ⟨fun z => ⟨1, 1000, s', (q2 z).2.1, by omega, fun F => oL_0 hw a1 F, a3 z⟩, fun z => ?_⟩
          obtain ⟨b1, b2⟩ := a4 z
          exact ⟨2, s', by omega, oL_no hw a1 b1 (by omega), b1, b2⟩
      | false =>
        rw [cond_false]
        cases g2 : comb (nx B L i) with
        | false => exact fail _ rfl (Or.inr (Or.inr (Or.inl ⟨g, g2⟩)))
        | true =>
          rw [cond_true]
          by_cases hw5 : w < 5
          · rw [if_pos hw5]
            have hlt := nx_lt (comb_m1 g2)
            obtain ⟨s1, a1, a2, a3⟩ := r_op h (by omega) hw5 g g2
            obtain ⟨t0, t1, t2⟩ := ptG_T (B := B) (L := L) (i := i + 1) hlt
            have hq : ∀ N' j, j ≤ L → pQ L N' j (pnd B L f N' (some N) (decide (nx B L i = 79)) (w + 1) j) := fun N' j hj => pQ_nd f N' (some N) _ (w + 1) j hj
            have hkd := pQ_kd (B := B) (L := L) hq 40 (N + 1)
            have hr1 := r_kd (B := B) (L := L) (o := decide (nx B L i = 79)) (N0 := N) hw5 hq (fun N' M' D' j s' h' => r_nd f N' M' D' (some N) (decide (nx B L i = 79)) (w + 1) j s' (by omega) h') 40 (N + 1)
            unfold ppo
            generalize pkd B L (fun N' j => pnd B L f N' (some N) (decide (nx B L i = 79)) (w + 1) j) 40 (N + 1) = kids at *
            by_cases ok : (pT B L (i + 1)).1 = true ∧ nx B L (pT B L (i + 1)).2.1 = 123
            · obtain ⟨ok1, ok2⟩ := ok
              obtain ⟨b1, b2, b3, b4, b5, b6, b7⟩ := a2 ⟨ok1, ok2⟩
              obtain ⟨t3, t4⟩ := t2 ok1
              rw [ok1, cond_true, if_pos ok2]
              obtain ⟨k0, k1, k2⟩ := hkd ((pT B L (i + 1)).2.1 + 1) b1.2.1
              obtain ⟨c1, c2⟩ := hr1 (M + (pT B L (i + 1)).2.2.2.length) D ((pT B L (i + 1)).2.1 + 1) s1 (by omega) b1
              generalize pT B L (i + 1) = t at *
              generalize kids (t.2.1 + 1) = k at *
              unfold pp2
              cases gk : k.1 with
              | false =>
                obtain ⟨n, s', d1, d2, d3, d4⟩ := c2 gk
                exact ⟨fun z => (by cases z), fun _ => ⟨1 + n, s', by omega, fun F => by rw [Nat.add_assoc, oL_1 hw a1, d2], d3, rFn_trans (rFn_mono b2 (Nat.zero_le _) (Nat.zero_le _) (Nat.zero_le _) (Nat.zero_le _)) d4 (l _) (l _) (l _) (l _)⟩⟩
              | true =>
                obtain ⟨n, mm, s2, e, d1, d2, d3, d4, d5, d6⟩ := c1 gk
                obtain ⟨k3, k4, k5, k6, k7, k8⟩ := k2 gk
                have k8 := k8 (M + t.2.2.2.length)
                obtain ⟨e1, e2, e3, e4, e5, e6, e7, e8⟩ := d6
                have h85 : s2 85 w = Int32.ofNat (40 + N) := by rw [e7.2.2.2.2.2.2 w (by omega)]; exact b1.2.2.2.2.2.2.2.2.2.2.2.2.2.1
                obtain ⟨s3, u1, u2, u3, u4, u5⟩ := r_cl e1 d2 e2 e6 hw5 h85 (by omega)
                rw [cond_true, d1]
                obtain ⟨mm', rfl⟩ : ∃ mm', mm = mm' + 2 := ⟨mm - 2, by omega⟩
                have run : ∀ F, xlo oL (1 + n + F) (1, s) = cC F (mm' + 1) s3 := fun F => by rw [Nat.add_assoc, oL_1 hw a1, d5, cC_step u1]
                have f02 : rFn N M D w s s2 := rFn_trans b2 e7 (by omega) (by omega) (l _) (by omega)
                have f03 : rFn N M D w s s3 := rFn_trans f02 (rCl_fr u2) (l _) (l _) (l _) (l _)
                have hlte := nx_lt (B := B) (L := L) (i := e) (by rw [d2]; decide)
                obtain ⟨p0, p1, p2⟩ := pd_le (B := B) (L := L) (g := 43) (by decide) (i := e + 1) hlte
                have e70 : s3 70 1 = Int32.ofNat (N + (k.2.2.length + 1)) := by
                  rw [u2.1 70 (by decide) (by decide) (by decide), e3, show N + 1 + k.2.2.length = N + (k.2.2.length + 1) by omega]
                have e31 : s3 53 31 = Int32.ofNat (M + (t.2.2.2.length + 0 + tM k.2.2)) := by
                  rw [u2.2.1 31 (by decide) (by decide) (by decide), e4, show M + t.2.2.2.length + tM k.2.2 = M + (t.2.2.2.length + 0 + tM k.2.2) by omega]
                have e32 : s3 53 32 = Int32.ofNat (D + (0 + tDn (M + (t.2.2.2.length + 0)) k.2.2)) := by
                  rw [u2.2.1 32 (by decide) (by decide) (by decide), e5, Nat.zero_add]; rfl
                have pre3 : ∀ x, e + 1 ≤ x → x ≤ L → rR B L x s3 → s3 53 20 = -1 → rPre B L (N + (k.2.2.length + 1)) (M + (t.2.2.2.length + 0 + tM k.2.2)) (D + (0 + tDn (M + (t.2.2.2.length + 0)) k.2.2)) par o w x s3 := by
                  intro x hx hxL hrx hwx
                  refine ⟨hrx, hxL, hwx, e70, e31, e32, by omega, ?_, by omega, u2.2.2.2, hw5', ?_⟩
                  · have : tDn (M + (t.2.2.2.length + 0)) k.2.2 = tDn (M + t.2.2.2.length) k.2.2 := rfl
                    omega
                  · cases par with
                    | none => exact hpar
                    | some m =>
                      obtain ⟨x1, x2, x3, x4⟩ := hpar
                      exact ⟨x1, by omega, by rw [f03.2.2.2.2.2.2 _ (by omega)]; exact x3, by rw [f03.2.2.2.1 71 (by decide) (by decide) _ (by omega)]; exact x4⟩
                have bad : ∀ x, e + 1 ≤ x → x ≤ L → (s3 53 20 = Int32.ofNat x ∨ (rR B L x s3 ∧ s3 53 20 = -1 ∧ od (nx B L x) = true)) → rSim B L N M D w s (false, x, []) := by
                  intro x hx hxL hor
                  refine ⟨fun z => (by cases z), fun _ => ?_⟩
                  rcases hor with hor | ⟨o1, o2, o3⟩
                  · exact ⟨1 + n + 1, s3, by omega, fun F => by rw [Nat.add_assoc, run, Nat.add_comm 1 F]; exact cC_F hor (by omega) F mm', hor, rFn_mono f03 (Nat.zero_le _) (Nat.zero_le _) (Nat.zero_le _) (Nat.zero_le _)⟩
                  · exact ⟨1 + n + 2, xh_ui s3 53 20 (Int32.ofNat x), by omega, fun F => by rw [Nat.add_assoc, run, Nat.add_comm 2 F]; exact cC_D (pre3 x hx hxL o1 o2) o3 F mm', xu_s _ _ _ _, rFn_mono (rFn_trans f03 (rFn_53 (Or.inr (Or.inl rfl)) s3 _) (l _) (l _) (l _) (l _)) (Nat.zero_le _) (Nat.zero_le _) (Nat.zero_le _) (Nat.zero_le _)⟩
                unfold pp3
                by_cases z1 : (pd B L 43 (e + 1)).1 = 1
                · rw [if_pos z1]
                  obtain ⟨v0, v1, v2⟩ := pd_le (B := B) (L := L) (g := 45) (by decide) (i := (pd B L 43 (e + 1)).2.1) p1
                  unfold pp4
                  by_cases z2 : (pd B L 45 (pd B L 43 (e + 1)).2.1).1 = 1
                  · rw [if_pos z2]
                    obtain ⟨x1, x2, x3, x4⟩ := u3 z1 z2
                    refine ⟨fun _ => ⟨1 + n, mm' + 1, s3, ?_, by omega, run, ⟨x1, x2, e70, e31, e32, u2.2.2.2, f03, ⟨⟨?_, ?_, ?_, ?_, fun z => ?_, ?_, ?_, fun q u hq => ?_, fun q u hq => (by cases hq), fun q u hq => (by cases hq)⟩, ?_⟩⟩⟩, fun z => by cases z⟩
                    · show 1 + n ≤ k.2.2.length + 1; omega
                    · rw [u2.1 71 (by decide) (by decide) (by decide), e7.2.2.2.1 71 (by decide) (by decide) _ (by omega)]; exact b3
                    · rw [u2.1 72 (by decide) (by decide) (by decide), e7.2.2.2.1 72 (by decide) (by decide) _ (by omega)]; exact b4
                    · rw [u2.1 73 (by decide) (by decide) (by decide), e7.2.2.2.1 73 (by decide) (by decide) _ (by omega)]; exact b5
                    · rw [u2.1 74 (by decide) (by decide) (by decide), e7.2.2.2.1 74 (by decide) (by decide) _ (by omega)]; exact b6
                    · exact absurd (g.symm.trans z) (by decide)
                    · show s3 77 (40 + N) = if nx B L i = 100 then 0 else _
                      rw [if_neg (fun z => by rw [z] at g; revert g; decide)]; exact x3
                    · show s3 78 (40 + N) = if nx B L i = 112 then 0 else _
                      rw [if_neg (fun z => by rw [z] at g; revert g; decide)]; exact x4
                    · have hq : t.2.2.2[q]? = some u := hq
                      have hl := (List.getElem?_eq_some_iff.mp hq).1
                      have ff := e7.2.2.2.2.1
                      rw [u2.1 79 (by decide) (by decide) (by decide), u2.1 80 (by decide) (by decide) (by decide), u2.1 81 (by decide) (by decide) (by decide), u2.1 82 (by decide) (by decide) (by decide), u2.1 83 (by decide) (by decide) (by decide), ff 79 (by decide) (by decide) _ (by omega), ff 80 (by decide) (by decide) _ (by omega), ff 81 (by decide) (by decide) _ (by omega), ff 82 (by decide) (by decide) _ (by omega), ff 83 (by decide) (by decide) _ (by omega)]
                      exact b7 q u hq
                    · exact rCl_Ns u2 k.2.2 (N + 1) (M + t.2.2.2.length) D (by omega) e8
                  · rw [if_neg z2]
                    exact bad _ (by omega) v1 (u4 z1 z2)
                · rw [if_neg z1]
                  exact bad _ p0 p1 (u5 z1)
            · obtain ⟨x1, x2⟩ := a3 ok
              have er : (bif (pT B L (i + 1)).1 then (if nx B L (pT B L (i + 1)).2.1 = 123 then pp2 B L (nx B L i) par (pT B L (i + 1)) (kids ((pT B L (i + 1)).2.1 + 1)) else (false, (pT B L (i + 1)).2.1, [])) else (false, (pT B L (i + 1)).2.1, [])) = (false, (pT B L (i + 1)).2.1, []) := by
                cases gg : (pT B L (i + 1)).1 with
                | false => rfl
                | true => rw [cond_true, if_neg (fun z => ok ⟨gg, z⟩)]
              rw [er]
              exact ⟨fun z => (by cases z), fun _ => ⟨2, s1, by omega, oL_no hw a1 x1 (by omega), x1, x2⟩⟩
          · rw [if_neg hw5]; exact fail _ rfl (Or.inr (Or.inr (Or.inr ⟨g, by omega⟩)))
