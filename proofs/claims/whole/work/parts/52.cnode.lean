/-! the class reads nodes -/
def aN (p N S : Nat) (k v : Int32) (σ : xS) : xS := xh_ui (xh_ui (xh_ui (xh_ui σ (p + 1) N k) (p + 2) N v) (p + 5) N (Int32.ofNat S)) p 7 (Int32.ofNat (N + 1))
theorem g94_eq {p N S : Nat} {σ : xS} (h7 : σ p 7 = Int32.ofNat N) (h11 : σ p 11 = Int32.ofNat S) (hN : N < 40) (k v : Int32) : g94 p k v σ = some (.inl (Int32.ofNat N), aN p N S k v σ) := by
  have e1 : xh_ui (xh_ui σ (p + 1) N k) (p + 2) N v p 11 = Int32.ofNat S := by rw [xu_o (by omega), xu_o (by omega)]; exact h11
  have e2 : xh_ui (xh_ui (xh_ui σ (p + 1) N k) (p + 2) N v) (p + 5) N (Int32.ofNat S) p 7 = Int32.ofNat N := by rw [xu_o (by omega), xu_o (by omega), xu_o (by omega)]; exact h7
  unfold g94 aN
  rw [h7, xn_of (by omega) hN, cond_true, Int32.toNatClampNeg_ofNat_of_lt (by omega), e1, e2, x_succ]
theorem c_hd {p : Nat} (hp : 22 < p) {B : Nat → Int32} {L i N S : Nat} {σ : xS} (h : cR B L i σ) (hi : i < L) (h7 : σ p 7 = Int32.ofNat N) (h11 : σ p 11 = Int32.ofNat S) (hN : N < 40) (hS : S ≤ i) (v : Int32) :
    ∃ σ3, g94 p (σ 20 3) v σ = some (.inl (Int32.ofNat N), aN p N S (nx B L i) v σ) ∧ g90 (aN p N S (nx B L i) v σ 20 2 + 1) (aN p N S (nx B L i) v σ) = some (.inl 0, mv (aN p N S (nx B L i) v σ) (i + 1) (nx B L (i + 1))) ∧
      g95 p (Int32.ofNat N) (mv (aN p N S (nx B L i) v σ) (i + 1) (nx B L (i + 1))) = some (.inl (xb (pT B L (i + 1)).1), σ3) ∧ cR B L (pT B L (i + 1)).2.1 σ3 ∧ cF p σ σ3 ∧
      ((pT B L (i + 1)).1 = true → cFn p N S σ σ3 ∧ σ3 p 7 = Int32.ofNat (N + 1) ∧ σ3 p 11 = Int32.ofNat (S + (pT B L (i + 1)).2.2.1.length) ∧ σ3 (p + 1) N = nx B L i ∧ σ3 (p + 2) N = v ∧ σ3 (p + 5) N = Int32.ofNat S ∧ σ3 (p + 6) N = Int32.ofNat (S + (pT B L (i + 1)).2.2.1.length) ∧
        ∀ q t, (pT B L (i + 1)).2.2.1[q]? = some t → σ3 (p + 8) (S + q) = t.1 ∧ σ3 (p + 9) (S + q) = t.2.1 ∧ σ3 (p + 10) (S + q) = t.2.2) := by
  have hL := h.2.2.2.2
  have ea : ∀ c, c < p ∨ p + 5 < c → aN p N S (nx B L i) v σ c = σ c := fun c hc => by unfold aN; rw [xu_o (by omega), xu_o (by omega), xu_o (by omega), xu_o (by omega)]
  have e20 := ea 20 (by omega)
  have h1 : cR B L i (aN p N S (nx B L i) v σ) := ⟨by rw [e20]; exact h.1, by rw [e20]; exact h.2.1, by rw [ea 21 (by omega)]; exact h.2.2.1, by rw [ea 22 (by omega)]; exact h.2.2.2.1, hL⟩
  have h11a : mv (aN p N S (nx B L i) v σ) (i + 1) (nx B L (i + 1)) p 11 = Int32.ofNat S := by
    rw [mv_o (by omega)]
    unfold aN
    rw [xu_n (by decide), xu_o (by omega), xu_o (by omega), xu_o (by omega)]; exact h11
  obtain ⟨σ2, a1, a2, a3, a4⟩ := g95_eq (x1 := Int32.ofNat N) hp (cR_mv h1 (i + 1)) hi h11a (by omega)
  have fa : cF p σ (mv (aN p N S (nx B L i) v σ) (i + 1) (nx B L (i + 1))) := fun c x y => by rw [mv_o x, ea c (by omega)]
  have e94 := g94_eq h7 h11 hN (nx B L i) v
  rw [← h.2.1] at e94
  cases g : (pT B L (i + 1)).1 with
  | false =>
    rw [g, cond_false] at a1
    refine ⟨σ2, by rw [h.2.1] at e94 ⊢; exact e94, g90_s h1 (by omega), a1, a2, cF_trans fa a3, fun z => by cases z⟩
  | true =>
    rw [g, cond_true] at a1
    have ht := a4 g
    have e91 : g95_91 p (Int32.ofNat N) σ2 = some (.inl 1, xh_ui σ2 (p + 6) N (σ2 p 11)) := by
      unfold g95_91
      rw [xn_of (by omega) hN, cond_true, Int32.toNatClampNeg_ofNat_of_lt (by omega)]
    rw [e91] at a1
    have fr : ∀ c, p < c → c ≤ p + 7 → ¬ c = p + 6 → xh_ui σ2 (p + 6) N (σ2 p 11) c = aN p N S (nx B L i) v σ c := fun c x y z => by
      rw [xu_o z, ht.1 c (by omega) (by omega) (by omega) (by omega) (by omega), mv_o (by omega)]
    have n1 : aN p N S (nx B L i) v σ (p + 1) = upd (σ (p + 1)) N (nx B L i) := by unfold aN; rw [xu_o (by omega), xu_o (by omega), xu_o (by omega), xu_a]
    have n2 : aN p N S (nx B L i) v σ (p + 2) = upd (σ (p + 2)) N v := by unfold aN; rw [xu_o (by omega), xu_o (by omega), xu_a, xu_o (by omega)]
    have n5 : aN p N S (nx B L i) v σ (p + 5) = upd (σ (p + 5)) N (Int32.ofNat S) := by unfold aN; rw [xu_o (by omega), xu_a, xu_o (by omega), xu_o (by omega)]
    have n34 : ∀ c, c = p + 3 ∨ c = p + 4 ∨ c = p + 6 ∨ c = p + 7 → aN p N S (nx B L i) v σ c = σ c := fun c hc => by unfold aN; rw [xu_o (by omega), xu_o (by omega), xu_o (by omega), xu_o (by omega)]
    refine ⟨xh_ui σ2 (p + 6) N (σ2 p 11), by rw [h.2.1] at e94 ⊢; exact e94, g90_s h1 (by omega), a1, ?_, ?_, fun _ => ⟨⟨?_, ?_, ?_⟩, ?_, ?_, ?_, ?_, ?_, ?_, ?_⟩⟩
    · have e : xh_ui σ2 (p + 6) N (σ2 p 11) 20 = σ2 20 := xu_o (by omega)
      exact ⟨by rw [e]; exact a2.1, by rw [e]; exact a2.2.1, by rw [xu_o (by omega)]; exact a2.2.2.1, by rw [xu_o (by omega)]; exact a2.2.2.2.1, hL⟩
    · exact fun c x y => by rw [xu_o (by omega)]; exact (cF_trans fa a3) c x y
    · exact fun c x y => by rw [xu_o (by omega)]; exact (cF_trans fa a3) c x y
    · intro c x y j z
      have hc : c = p + 1 ∨ c = p + 2 ∨ c = p + 5 ∨ c = p + 6 ∨ c = p + 3 ∨ c = p + 4 ∨ c = p + 7 := by omega
      rcases hc with rfl | rfl | rfl | rfl | hc
      · rw [fr _ (by omega) (by omega) (by omega), n1, upd_n (by omega)]
      · rw [fr _ (by omega) (by omega) (by omega), n2, upd_n (by omega)]
      · rw [fr _ (by omega) (by omega) (by omega), n5, upd_n (by omega)]
      · rw [xu_n (by omega), ht.1 _ (by omega) (by omega) (by omega) (by omega) (by omega), mv_o (by omega), n34 _ (by omega)]
      · rw [fr c (by omega) (by omega) (by omega), n34 c (by omega)]
    · intro c x y j z
      obtain ⟨x1, x2, x3⟩ := ht.2.2.2.1 j z
      have hc : c = p + 8 ∨ c = p + 9 ∨ c = p + 10 := by omega
      rcases hc with rfl | rfl | rfl
      · rw [xu_o (by omega), x1, mv_o (by omega), ea _ (by omega)]
      · rw [xu_o (by omega), x2, mv_o (by omega), ea _ (by omega)]
      · rw [xu_o (by omega), x3, mv_o (by omega), ea _ (by omega)]
    · rw [xu_o (by omega), ht.2.1 7 (by decide), mv_o (by omega)]
      unfold aN
      rw [xu_s]
    · rw [xu_o (by omega)]; exact ht.2.2.1
    · rw [fr _ (by omega) (by omega) (by omega), n1, upd_s]
    · rw [fr _ (by omega) (by omega) (by omega), n2, upd_s]
    · rw [fr _ (by omega) (by omega) (by omega), n5, upd_s]
    · rw [xu_s]; exact ht.2.2.1
    · intro q t hq
      rw [xu_o (by omega), xu_o (by omega), xu_o (by omega)]
      exact ht.2.2.2.2 q t hq
/-- a reading method has read nodes -/
def cPq (p : Nat) (B : Nat → Int32) (L N S : Nat) (σ : xS) (r : xP) (q : xO) : Prop := ∃ σ', q = some (.inl (xb r.1), σ') ∧ cR B L r.2.1 σ' ∧ cF p σ σ' ∧ (r.1 = true → cFn p N S σ σ' ∧ σ' p 7 = Int32.ofNat (N + r.2.2.length) ∧ σ' p 11 = Int32.ofNat (S + tS r.2.2) ∧ cNs p N S r.2.2 σ')
theorem cR_20 {B : Nat → Int32} {L i : Nat} {σ σ' : xS} (h : cR B L i σ) {c j : Nat} {v : Int32} (hc : 22 < c) (e : σ' = xh_ui σ c j v) : cR B L i σ' := by
  subst e
  exact ⟨by rw [xu_o (by omega)]; exact h.1, by rw [xu_o (by omega)]; exact h.2.1, by rw [xu_o (by omega)]; exact h.2.2.1, by rw [xu_o (by omega)]; exact h.2.2.2.1, h.2.2.2.2⟩
/-- the end of a rule -/
theorem c_r3 {p : Nat} (hp : 22 < p) {B : Nat → Int32} {L N S : Nat} {c : Int32} {par : Option Nat} {t : Bool × Nat × List xE × List xG} {e : xR} {σ σ5 : xS} (hN : N < 40) (h : cR B L e.2.1 σ5) (hle : e.2.1 ≤ L)
    (hf : cFn p N S σ σ5) (h7 : σ5 p 7 = Int32.ofNat (N + 1)) (h11 : σ5 p 11 = Int32.ofNat (S + t.2.2.1.length + e.2.2.1.length)) (r1 : σ5 (p + 1) N = c) (r2 : σ5 (p + 2) N = pv par) (r5 : σ5 (p + 5) N = Int32.ofNat S) (r6 : σ5 (p + 6) N = Int32.ofNat (S + t.2.2.1.length))
    (r8 : ∀ q u, (t.2.2.1 ++ e.2.2.1)[q]? = some u → σ5 (p + 8) (S + q) = u.1 ∧ σ5 (p + 9) (S + q) = u.2.1 ∧ σ5 (p + 10) (S + q) = u.2.2) : cPq p B L N S σ (pr3 B L c par t e (pd B L 43 e.2.1)) (g93_52 p (Int32.ofNat N) σ5) := by
  have hL := h.2.2.2.2
  let σ6 : xS := xh_ui σ5 (p + 7) N (σ5 p 11)
  have h6 : cR B L e.2.1 σ6 := cR_20 h (by omega) rfl
  obtain ⟨σ7, a1, a2, a3, a4⟩ := g105_eq (g := 43) (by decide) h6 hle
  obtain ⟨d0, d1, d2⟩ := pd_le (B := B) (L := L) (g := 43) (by decide) (i := e.2.1) hle
  have f67 : cFn p N S σ σ7 := cFn_trans (cFn_trans hf (cFn_ui (S := S) (by omega) (by omega) σ5 (Nat.le_refl N) (σ5 p 11)) (Nat.le_refl _) (Nat.le_refl _)) (cFn_20 hp a3) (Nat.le_refl _) (Nat.le_refl _)
  unfold g93_52
  rw [xn_of (by omega) hN, cond_true, Int32.toNatClampNeg_ofNat_of_lt (by omega), show g105 43 (xh_ui σ5 (p + 7) N (σ5 p 11)) = _ from a1]
  dsimp only
  unfold pr3
  generalize pd B L 43 e.2.1 = d at *
  by_cases z : d.1 = 1
  · rw [if_pos z, if_pos z, if_neg x1n]
    let σ8 : xS := xh_ui (xh_ui σ7 (p + 3) N (σ7 20 4)) (p + 4) N (xh_ui σ7 (p + 3) N (σ7 20 4) 20 4)
    have h8 : cR B L d.2.1 σ8 := cR_20 (cR_20 a2 (by omega) rfl) (by omega) rfl
    have f8 : cFn p N S σ σ8 := cFn_trans (cFn_trans f67 (cFn_ui (S := S) (by omega) (by omega) σ7 (Nat.le_refl N) _) (Nat.le_refl _) (Nat.le_refl _)) (cFn_ui (S := S) (by omega) (by omega) _ (Nat.le_refl N) _) (Nat.le_refl _) (Nat.le_refl _)
    rw [show g102 59 (xh_ui (xh_ui σ7 (p + 3) N (σ7 20 4)) (p + 4) N (xh_ui σ7 (p + 3) N (σ7 20 4) 20 4)) = _ from g102_eq h8 (by omega) 59]
    by_cases y : nx B L d.2.1 = 59
    · rw [if_pos y, if_pos y]
      dsimp only
      rw [decide_eq_true (Or.inr rfl), cond_true]
      have k8 : ∀ c, ¬ c = 20 → mv σ8 (d.2.1 + 1) (nx B L (d.2.1 + 1)) c = σ8 c := fun c h => mv_o h
      have k7 : ∀ c, ¬ c = p + 3 → ¬ c = p + 4 → ¬ c = p + 7 → ¬ c = 20 → σ8 c = σ5 c := fun c x y z w => by
        show xh_ui (xh_ui σ7 (p + 3) N (σ7 20 4)) (p + 4) N (xh_ui σ7 (p + 3) N (σ7 20 4) 20 4) c = _
        rw [xu_o y, xu_o x, a3 c w]
        show xh_ui σ5 (p + 7) N (σ5 p 11) c = _
        rw [xu_o z]
      refine ⟨_, rfl, cR_mv h8 _, (cFn_trans f8 (cFn_mv hp σ8 _ _) (Nat.le_refl _) (Nat.le_refl _)).1, fun _ => ⟨cFn_trans f8 (cFn_mv hp σ8 _ _) (Nat.le_refl _) (Nat.le_refl _), ?_, ?_, ⟨⟨?_, ?_, ?_, ?_, ?_, ?_, fun _ => ?_, fun q u hq => ?_⟩, trivial⟩⟩⟩
      · rw [k8 p (by omega), k7 p (by omega) (by omega) (by omega) (by omega)]; exact h7
      · rw [k8 p (by omega), k7 p (by omega) (by omega) (by omega) (by omega), h11]
        show _ = Int32.ofNat (S + (t.2.2.1.length + e.2.2.1.length + 0))
        rw [Nat.add_zero, Nat.add_assoc]
      · rw [k8 _ (by omega), k7 _ (by omega) (by omega) (by omega) (by omega)]; exact r1
      · rw [k8 _ (by omega), k7 _ (by omega) (by omega) (by omega) (by omega)]; exact r2
      · rw [k8 _ (by omega)]
        show xh_ui (xh_ui σ7 (p + 3) N (σ7 20 4)) (p + 4) N (xh_ui σ7 (p + 3) N (σ7 20 4) 20 4) (p + 3) N = _
        rw [xu_o (by omega), xu_s]; exact a4
      · rw [k8 _ (by omega)]
        show xh_ui (xh_ui σ7 (p + 3) N (σ7 20 4)) (p + 4) N (xh_ui σ7 (p + 3) N (σ7 20 4) 20 4) (p + 4) N = _
        rw [xu_s, xu_o (by omega)]; exact a4
      · rw [k8 _ (by omega), k7 _ (by omega) (by omega) (by omega) (by omega)]; exact r5
      · rw [k8 _ (by omega), k7 _ (by omega) (by omega) (by omega) (by omega)]; exact r6
      · rw [k8 _ (by omega)]
        show xh_ui (xh_ui σ7 (p + 3) N (σ7 20 4)) (p + 4) N (xh_ui σ7 (p + 3) N (σ7 20 4) 20 4) (p + 7) N = Int32.ofNat (S + (t.2.2.1.length + e.2.2.1.length))
        rw [xu_o (by omega), xu_o (by omega), a3 _ (by omega)]
        show xh_ui σ5 (p + 7) N (σ5 p 11) (p + 7) N = _
        rw [xu_s, h11, Nat.add_assoc]
      · rw [k8 _ (by omega), k8 _ (by omega), k8 _ (by omega), k7 _ (by omega) (by omega) (by omega) (by omega), k7 _ (by omega) (by omega) (by omega) (by omega), k7 _ (by omega) (by omega) (by omega) (by omega)]
        exact r8 q u hq
    · rw [if_neg y, if_neg y]
      dsimp only
      rw [decide_eq_true (Or.inl rfl), cond_true]
      exact ⟨_, rfl, h8, f8.1, fun z => by cases z⟩
  · rw [if_neg z, if_neg z, if_pos x0p]
    exact ⟨σ7, rfl, a2, f67.1, fun z => by cases z⟩
/-- the class reads a rule -/
theorem c_ru {p : Nat} (hp : 22 < p) {B : Nat → Int32} {L N S i : Nat} {par : Option Nat} {σ : xS} (h : cR B L i σ) (hi : i < L) (h7 : σ p 7 = Int32.ofNat N) (h11 : σ p 11 = Int32.ofNat S) (hN : N < 40) (hS : S ≤ i) : cPq p B L N S σ (pru B L (nx B L i) par i) (g93 p (pv par) σ) := by
  have hL := h.2.2.2.2
  obtain ⟨σ3, e1, e2, e3, a1, a2, a3⟩ := c_hd hp h hi h7 h11 hN hS (pv par)
  obtain ⟨t0, t1, t2⟩ := ptG_T (B := B) (L := L) (i := i + 1) hi
  unfold g93
  rw [e1]
  dsimp only
  rw [e2]
  dsimp only
  rw [e3]
  dsimp only
  unfold pru
  cases g : (pT B L (i + 1)).1 with
  | false =>
    rw [xb_f, if_pos x0p, cond_false]
    exact ⟨σ3, rfl, a1, a2, fun z => by cases z⟩
  | true =>
    obtain ⟨b0, b7, b11, b1, b2, b5, b6, b8⟩ := a3 g
    obtain ⟨t3, t4⟩ := t2 g
    rw [xb_t, if_neg x1n, cond_true, g102_eq a1 (by omega)]
    generalize pT B L (i + 1) = t at *
    unfold pr2 pcn
    by_cases q : nx B L t.2.1 = 63
    · have hlt := nx_lt (B := B) (L := L) (i := t.2.1) (by rw [q]; decide)
      rw [if_pos q, if_pos q]
      dsimp only
      rw [if_neg x1n]
      have m11 : mv σ3 (t.2.1 + 1) (nx B L (t.2.1 + 1)) p 11 = Int32.ofNat (S + t.2.2.1.length) := by rw [mv_o (by omega)]; exact b11
      obtain ⟨σ5, c1, c2, c3, c4⟩ := cQ_x hp 8 0 (t.2.1 + 1) (S + t.2.2.1.length) (mv σ3 (t.2.1 + 1) (nx B L (t.2.1 + 1))) (by omega) (by omega) (cR_mv a1 _) hlt (by omega) m11 (by omega)
      have hg := pG_x (B := B) 8 0 (t.2.1 + 1) hlt
      rw [show g103 p 8 0 (mv σ3 (t.2.1 + 1) (nx B L (t.2.1 + 1))) = _ from c1]
      dsimp only
      generalize px B L 8 0 (t.2.1 + 1) = e at *
      cases g2 : e.1 with
      | false =>
        rw [xb_f, if_pos x0p, cond_false]
        exact ⟨σ5, rfl, c2, cF_trans (cF_trans a2 (cF_mv p σ3 _ _)) c3, fun z => by cases z⟩
      | true =>
        have ht := cT_l hp b11 (c4 g2)
        have f5 : cFn p (N + 1) (S + t.2.2.1.length) σ3 σ5 := cFn_T hp ht
        rw [xb_t, if_neg x1n, cond_true]
        have k : ∀ c, p < c → c ≤ p + 7 → σ5 c N = σ3 c N := fun c x y => f5.2.1 c x y N (by omega)
        refine c_r3 hp hN c2 hg.2.1 (cFn_trans b0 f5 (by omega) (by omega)) (by rw [ht.2.1 7 (by decide)]; exact b7) (by rw [ht.2.2.1]) (by rw [k _ (by omega) (by omega)]; exact b1) (by rw [k _ (by omega) (by omega)]; exact b2) (by rw [k _ (by omega) (by omega)]; exact b5) (by rw [k _ (by omega) (by omega)]; exact b6) (fun z u hz => ?_)
        by_cases y : z < t.2.2.1.length
        · rw [List.getElem?_append_left y] at hz
          rw [f5.2.2 _ (by omega) (by omega) _ (by omega), f5.2.2 _ (by omega) (by omega) _ (by omega), f5.2.2 _ (by omega) (by omega) _ (by omega)]
          exact b8 z u hz
        · rw [List.getElem?_append_right (by omega)] at hz
          have := ht.2.2.2.2 _ u hz
          rw [show S + t.2.2.1.length + (z - t.2.2.1.length) = S + z by omega] at this
          exact this
    · rw [if_neg q, if_neg q]
      dsimp only
      rw [if_pos x0p, cond_true]
      exact c_r3 (t := t) (e := (true, t.2.1, [], [], fun _ => [])) hp hN a1 t1 b0 b7 b11 b1 b2 b5 b6 (fun z u hz => by rw [List.append_nil] at hz; exact b8 z u hz)
/-- where a node may begin -/
def cPre (p : Nat) (B : Nat → Int32) (L N S : Nat) (par : Option Nat) (o : Bool) (i : Nat) (σ : xS) : Prop := cR B L i σ ∧ i ≤ L ∧ σ p 7 = Int32.ofNat N ∧ σ p 11 = Int32.ofNat S ∧ S ≤ i ∧ N ≤ 40 ∧ (match par with | none => o = false | some m => m < N ∧ o = decide (σ (p + 1) m = 79))
/-- the class reads a policy's nodes -/
theorem c_kd {p : Nat} (hp : 22 < p) {B : Nat → Int32} {L : Nat} {rec : Nat → Nat → xP} {x1 x2 : Int32} {m0 : Nat} {o : Bool} {rc : Int32 → Int32 → xS → xO} (hq : ∀ N j, j ≤ L → pQ L N j (rec N j)) (hrc : ∀ N S j σ, cPre p B L N S (some m0) o j σ → cPq p B L N S σ (rec N j) (rc x1 x2 σ)) :
    ∀ (m k N S j f : Nat) (σ : xS), k + m = 40 → m < f → cPre p B L N S (some m0) o j σ → cPq p B L N S σ (pkd B L rec m N j) (xlo (fun a : Int32 × Int32 × Int32 × xS => g108_2b p rc a.1 a.2.1 a.2.2.1 a.2.2.2) f (x1, x2, Int32.ofNat k, σ))
  | _, _, _, _, _, 0, _, _, h, _ => absurd h (Nat.not_lt_zero _)
  | 0, k, N, S, j, f + 1, σ, hk, hf, h => by
    have hk4 : k = 40 := by omega
    subst hk4
    refine ⟨σ, xlo_end ?_, h.1, fun _ _ _ => rfl, fun z => by cases z⟩
    simp only [g108_2b, if_pos (by decide : (40 : Int32) ≤ Int32.ofNat 40)]
    rfl
  | m + 1, k, N, S, j, f + 1, σ, hk, hf, h => by
    have hL := h.1.2.2.2.2
    have n40 : ¬ 40 ≤ Int32.ofNat k := by
      have z : (40 : Int32).toInt = 40 := by decide
      rw [Int32.le_iff_toInt_le, z, Int32.toInt_ofNat_of_lt (by omega)]; omega
    obtain ⟨σ1, e1, a1, a2, a3⟩ := hrc N S j σ h
    obtain ⟨q0, q1, q2⟩ := hq N j h.2.1
    rw [pkd]
    generalize rec N j = r at *
    cases g : r.1 with
    | false =>
      rw [g] at e1
      refine ⟨σ1, xlo_end ?_, a1, a2, fun z => by cases z⟩
      simp only [g108_2b, if_neg n40, e1, xb_f, if_true]
      rfl
    | true =>
      rw [g] at e1
      obtain ⟨b0, b7, b11, bN⟩ := a3 g
      obtain ⟨q3, q4, q5, q6, q7, q8⟩ := q2 g
      rw [cond_true]
      by_cases z : nx B L r.2.1 = 125
      · rw [if_pos z]
        refine ⟨mv σ1 (r.2.1 + 1) (nx B L (r.2.1 + 1)), xlo_end ?_, cR_mv a1 _, cF_trans a2 (cF_mv p σ1 _ _), fun _ => ⟨cFn_trans b0 (cFn_mv hp σ1 _ _) (Nat.le_refl _) (Nat.le_refl _), by rw [mv_o (by omega)]; exact b7, by rw [mv_o (by omega)]; exact b11, cNs_fr (N' := 41) (S' := S + tS r.2.2) (cFn_mv hp σ1 _ _) _ _ _ bN (by show N + r.2.2.length ≤ 41; omega) (Nat.le_refl _)⟩⟩
        simp only [g108_2b, if_neg n40, e1, xb_t, x10, if_false, g102_eq a1 (by omega), if_pos z]
      · rw [if_neg z]
        have hpre : cPre p B L (N + r.2.2.length) (S + tS r.2.2) (some m0) o r.2.1 σ1 := by
          refine ⟨a1, q1, b7, b11, by have := h.2.2.2.2.1; omega, q5, ?_⟩
          obtain ⟨y1, y2⟩ := h.2.2.2.2.2.2
          exact ⟨by omega, by rw [b0.2.1 _ (by omega) (by omega) m0 y1]; exact y2⟩
        obtain ⟨σ2, d1, d2, d3, d4⟩ := c_kd hp hq hrc m (k + 1) (N + r.2.2.length) (S + tS r.2.2) r.2.1 f σ1 (by omega) (by omega) hpre
        have eb : g108_2b p rc x1 x2 (Int32.ofNat k) σ = some (.inl (x1, x2, Int32.ofNat (k + 1), σ1)) := by
          simp only [g108_2b, if_neg n40, e1, xb_t, x10, if_false, g102_eq a1 (by omega), if_neg z, if_true, x_succ]
        refine ⟨σ2, by rw [xlo_step (a := (x1, x2, Int32.ofNat k, σ)) eb, d1], d2, cF_trans a2 d3, fun y => ?_⟩
        obtain ⟨y0, y7, y11, yN⟩ := d4 y
        refine ⟨cFn_trans b0 y0 (by omega) (by omega), ?_, ?_, cNs_app _ _ _ _ (cNs_fr y0 _ _ _ bN (Nat.le_refl _) (Nat.le_refl _)) yN⟩
        · rw [y7]
          show _ = Int32.ofNat (N + (r.2.2 ++ _).length)
          rw [List.length_append, Nat.add_assoc]
        · rw [y11]
          show _ = Int32.ofNat (S + tS (r.2.2 ++ _))
          rw [tS_app, Nat.add_assoc]
