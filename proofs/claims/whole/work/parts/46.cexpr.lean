/-! the class reads an expression -/
theorem xlo_map {α ρ : Type} {f : α → Option (α ⊕ ρ)} {n : Nat} {a : α} {X : Option ρ} (h : f a = Option.map Sum.inr X) : xlo f (n + 1) a = X := by
  rw [xlo, h]
  cases X <;> rfl
theorem cT_l {p S : Nat} (hp : 22 < p) {T : List xE} {σ σ' : xS} (hS : σ p 11 = Int32.ofNat S) {j : Nat} {v : Int32} (h : cT p S T (mv σ j v) σ') : cT p S T σ σ' := cT_trans (cT_mv hp hS j v) h
theorem cT_r {p S : Nat} (hp : 22 < p) {T : List xE} {σ σ' : xS} (h : cT p S T σ σ') (j : Nat) (v : Int32) : cT p S T σ (mv σ' j v) := by
  have := cT_trans h (cT_mv hp h.2.2.1 j v)
  rw [List.append_nil] at this
  exact this
theorem cF_l {p : Nat} {σ σ' : xS} {j : Nat} {v : Int32} (h : cF p (mv σ j v) σ') : cF p σ σ' := cF_trans (cF_mv p σ j v) h
theorem x_par (k : Nat) : decide ((k + 1) % 2 = 1) = !decide (k % 2 = 1) := by
  by_cases h : k % 2 = 1
  · rw [decide_eq_true h, decide_eq_false (by omega)]; rfl
  · rw [decide_eq_false h, decide_eq_true (by omega)]; rfl
theorem x300 {c : Nat} (h : c < 300) : ¬ 300 ≤ Int32.ofNat c := by
  have z : (300 : Int32).toInt = 300 := by decide
  rw [Int32.le_iff_toInt_le, z, Int32.toInt_ofNat_of_lt (by omega)]; omega
theorem g103_nt {p : Nat} {B : Nat → Int32} {L : Nat} (rc : Int32 → xS → xO) (x1 : Int32) : ∀ (m i c f : Nat) (d : Bool) (σ : xS), L ≤ i + m → cR B L i σ → i ≤ L → c + nt B L m i < 300 → nt B L m i < f →
    xlo (fun a : Int32 × Int32 × Int32 × xS => g103_4b p rc a.1 a.2.1 a.2.2.1 a.2.2.2) f (x1, xb d, Int32.ofNat c, σ) = g103_36 p rc x1 (xb (d ^^ decide (nt B L m i % 2 = 1))) (mv σ (i + nt B L m i) (nx B L (i + nt B L m i)))
  | _, _, _, 0, _, _, _, _, _, _, h => absurd h (Nat.not_lt_zero _)
  | m, i, c, f + 1, d, σ, hm, h, hi, hc, hf => by
    have hL := h.2.2.2.2
    by_cases q : nx B L i = 33
    · have hlt := nx_lt (B := B) (L := L) (i := i) (by rw [q]; decide)
      match m, hm, hc, hf with
      | 0, hm, _, _ => exact absurd hlt (by omega)
      | m + 1, hm, hc, hf =>
        rw [nt, if_pos q] at hc hf ⊢
        have e : g103_4b p rc x1 (xb d) (Int32.ofNat c) σ = some (.inl (x1, xb (!d), Int32.ofNat (c + 1), mv σ (i + 1) (nx B L (i + 1)))) := by
          cases d
          · simp only [g103_4b, if_neg (x300 (by omega : c < 300)), g102_eq h (by omega), if_pos q, x10, if_false, xb_f, if_true, g103_29, x_succ]
            rfl
          · simp only [g103_4b, if_neg (x300 (by omega : c < 300)), g102_eq h (by omega), if_pos q, x10, if_false, xb_t, g103_29, x_succ]
            rfl
        rw [xlo_step (a := (x1, xb d, Int32.ofNat c, σ)) e, g103_nt rc x1 m (i + 1) (c + 1) f (!d) _ (by omega) (cR_mv h (i + 1)) hlt (by omega) (by omega), mv_mv, x_par, show i + 1 + nt B L m (i + 1) = i + (nt B L m (i + 1) + 1) by omega]
        congr 2
        cases d <;> cases decide (nt B L m (i + 1) % 2 = 1) <;> rfl
    · have e0 : nt B L m i = 0 := by
        cases m with
        | zero => rfl
        | succ m => rw [nt, if_neg q]
      rw [e0] at hc hf ⊢
      show _ = g103_36 p rc x1 _ (mv σ i (nx B L i))
      rw [mv_id h]
      refine xlo_map ?_
      dsimp only
      have ed : (d ^^ decide (0 % 2 = 1)) = d := by cases d <;> rfl
      rw [ed]
      simp only [g103_4b, if_neg (x300 (by omega : c < 300)), g102_eq h (by omega), if_neg q, if_true]
theorem g103_59_eq {p S : Nat} {σ : xS} (rc : Int32 → xS → xO) (hS : σ p 11 = Int32.ofNat S) (h3 : S < 300) (d ok : Bool) : g103_59 p rc (xb d) (xb ok) σ = some (.inl (xb ok), bif ok && d then aS p S 33 0 0 σ else σ) := by
  cases ok
  · cases d <;> rfl
  · cases d
    · rfl
    · simp only [g103_59, xb_t, x10, if_false, g100_eq hS h3, or_true, decide_true, cond_true, Bool.and_true]
theorem g103_59_no {p : Nat} {σ : xS} (rc : Int32 → xS → xO) (x : Int32) : g103_59 p rc x 0 σ = some (.inl 0, σ) := by
  simp only [g103_59, if_true, true_or, decide_true, cond_true]
/-- the denials around what was read -/
theorem cQ_not {p : Nat} (hp : 22 < p) {B : Nat → Int32} {L S i k : Nat} {σ : xS} {r : xR} {q : xO} (hL : L ≤ 300) (hS : S ≤ i) (hg : pG L (i + k) r) (hS1 : σ p 11 = Int32.ofNat S) (hk : 1 ≤ i + k) (h : cQ p B L S (mv σ (i + k) (nx B L (i + k))) r q) (rc : Int32 → xS → xO) {X : xO} (hX : ∀ v s, q = some (.inl v, s) → X = g103_59 p rc (xb (decide (k % 2 = 1))) v s) :
    cQ p B L S σ (pnot k r) X := by
  obtain ⟨σ', e, h1, h2, h3⟩ := h
  rw [hX _ _ e]
  unfold pnot
  cases g : r.1 with
  | false =>
    rw [xb_f, g103_59_no, cond_false]
    exact ⟨σ', by rw [g]; rfl, h1, cF_l h2, fun z => by rw [g] at z; cases z⟩
  | true =>
    have ht := cT_l hp hS1 (h3 g)
    obtain ⟨a, b, c, d⟩ := hg.2.2 g
    rw [cond_true]
    by_cases z : k % 2 = 1
    · rw [decide_eq_true z, g103_59_eq rc ht.2.2.1 (by have := hg.2.1; omega)]
      have ha := cT_trans ht (cT_aS 33 0 0)
      exact ⟨_, rfl, cR_aS hp h1 _ _ _, cF_T ha, fun _ => ha⟩
    · rw [decide_eq_false z]
      exact ⟨σ', by rfl, h1, cF_T ht, fun _ => ht⟩
/-- the bracket's second part -/
theorem cQ_b2 {p : Nat} (hp : 22 < p) {B : Nat → Int32} {L S b : Nat} {σ σ1 : xS} {r1 r2 : xR} (rc : Int32 → xS → xO) (hL : L ≤ 300) {op : Int32} (hg2 : pG L (r1.2.1 + 1) r2) (hSS : S + r1.2.2.1.length ≤ r1.2.1)
    (ht : cT p S r1.2.2.1 σ σ1) (h : cQ p B L (S + r1.2.2.1.length) σ1 r2 (rc (Int32.ofNat b) σ1)) : cQ p B L S σ (pb2 B L op r1 r2) (g104_53 p rc (Int32.ofNat b) op σ1) := by
  obtain ⟨σ', e, h1, h2, h3⟩ := h
  unfold g104_53
  rw [e]
  dsimp only
  unfold pb2
  cases g : r2.1 with
  | false =>
    rw [xb_f, if_pos x0p, cond_false]
    exact ⟨σ', rfl, h1, cF_trans (cF_T ht) h2, fun z => by cases z⟩
  | true =>
    have ht2 := cT_trans ht (h3 g)
    obtain ⟨a2, b2, c2, d2⟩ := hg2.2.2 g
    have hle := hg2.2.1
    rw [xb_t, if_neg x1n, cond_true, g102_eq h1 (by omega)]
    by_cases z : nx B L r2.2.1 = 41
    · rw [if_pos z, if_pos z]
      dsimp only
      have hlt := nx_lt (B := B) (L := L) (i := r2.2.1) (by rw [z]; decide)
      have hr := cT_r hp ht2 (r2.2.1 + 1) (nx B L (r2.2.1 + 1))
      have ha := cT_trans hr (cT_aS op 0 0)
      rw [if_neg x1n, g100_eq hr.2.2.1 (by rw [List.length_append]; omega)]
      exact ⟨_, rfl, cR_aS hp (cR_mv h1 _) _ _ _, cF_T ha, fun _ => ha⟩
    · rw [if_neg z, if_neg z]
      dsimp only
      rw [if_pos x0p]
      exact ⟨σ', rfl, h1, cF_T ht2, fun z => by cases z⟩
/-- the class reads an expression -/
theorem cQ_x {p : Nat} (hp : 22 < p) {B : Nat → Int32} {L : Nat} : ∀ (f b i S : Nat) (σ : xS), 8 ≤ f + b → b ≤ 6 → cR B L i σ → i ≤ L → 1 ≤ i → σ p 11 = Int32.ofNat S → S ≤ i → cQ p B L S σ (px B L f b i) (g103 p f (Int32.ofNat b) σ)
  | 0, b, i, S, σ, h1, h2, _, _, _, _, _ => absurd h1 (by omega)
  | f + 1, b, i, S, σ, hf, hb, h, hi, hi1, hS, hSi => by
    have hL := h.2.2.2.2
    have hk := nt_le (B := B) 300 i hi
    have hr := cR_mv h (i + nt B L 300 i)
    have hS1 : mv σ (i + nt B L 300 i) (nx B L (i + nt B L 300 i)) p 11 = Int32.ofNat S := by rw [mv_o (by omega)]; exact hS
    have e0 : g103 p (f + 1) (Int32.ofNat b) σ = g103_36 p (g103 p f) (Int32.ofNat b) (xb (decide (nt B L 300 i % 2 = 1))) (mv σ (i + nt B L 300 i) (nx B L (i + nt B L 300 i))) := by
      have := g103_nt (p := p) (B := B) (L := L) (g103 p f) (Int32.ofNat b) 300 i 0 1000 false σ (by omega) h hi (by omega) (by omega)
      rw [Bool.false_xor] at this
      exact this
    rw [e0, px]
    unfold g103_36
    rw [hr.2.1]
    generalize hj : i + nt B L 300 i = j at *
    by_cases q : nx B L j = 40
    · rw [if_pos q, if_pos q]
      have hlt := nx_lt (B := B) (L := L) (i := j) (by rw [q]; decide)
      by_cases z : b < 6
      · rw [if_pos z]
        have hg1 := pG_x (B := B) f (b + 1) (j + 1) hlt
        have hrec : ∀ i, i ≤ L → pG L i (px B L f (b + 1) i) := fun i hi => pG_x f (b + 1) i hi
        have key : cQ p B L S (mv σ j (nx B L j)) (pb1 B L (px B L f (b + 1)) (px B L f (b + 1) (j + 1))) (g104 p (g103 p f) (Int32.ofNat b + 1) (mv σ j (nx B L j))) := by
          have hle6 : Int32.ofNat (b + 1) ≤ 6 := by
            have z6 : (6 : Int32).toInt = 6 := by decide
            rw [Int32.le_iff_toInt_le, z6, Int32.toInt_ofNat_of_lt (by omega)]; omega
          have hr1 := cR_mv hr (j + 1)
          rw [mv_mv] at hr1
          have hS2 : mv σ (j + 1) (nx B L (j + 1)) p 11 = Int32.ofNat S := by rw [mv_o (by omega)]; exact hS
          obtain ⟨σ1, e1, a1, a2, a3⟩ := cQ_x hp f (b + 1) (j + 1) S (mv σ (j + 1) (nx B L (j + 1))) (by omega) (by omega) hr1 (by omega) (by omega) hS2 (by omega)
          unfold g104
          rw [x_succ, if_pos hle6, g90_s hr (by omega), mv_mv]
          dsimp only
          rw [e1]
          dsimp only
          unfold pb1
          cases g : (px B L f (b + 1) (j + 1)).1 with
          | false =>
            rw [xb_f, if_pos x0p, cond_false]
            refine ⟨σ1, rfl, a1, ?_, fun z => by cases z⟩
            have := cF_l (σ := mv σ j (nx B L j)) (j := j + 1) (v := nx B L (j + 1)) (p := p) (σ' := σ1) (by rw [mv_mv]; exact a2)
            exact this
          | true =>
            have ht : cT p S (px B L f (b + 1) (j + 1)).2.2.1 (mv σ j (nx B L j)) σ1 := cT_l hp hS1 (j := j + 1) (v := nx B L (j + 1)) (by rw [mv_mv]; exact a3 g)
            obtain ⟨b1, b2, b3, b4⟩ := hg1.2.2 g
            have hle1 := hg1.2.1
            rw [xb_t, if_neg x1n, cond_true, g102_eq a1 (by omega)]
            generalize hr1' : px B L f (b + 1) (j + 1) = r1 at *
            by_cases o1 : nx B L r1.2.1 = 38
            · rw [if_pos o1, if_pos (Or.inl o1)]
              dsimp only
              have hlt1 := nx_lt (B := B) (L := L) (i := r1.2.1) (by rw [o1]; decide)
              rw [if_neg x1n, a1.2.1]
              exact cQ_b2 hp (g103 p f) hL (hrec _ hlt1) (by omega) (cT_r hp ht _ _) (cQ_x hp f (b + 1) (r1.2.1 + 1) _ _ (by omega) (by omega) (cR_mv a1 _) hlt1 (by omega) (cT_r hp ht _ _).2.2.1 (by omega))
            · rw [if_neg o1]
              dsimp only
              rw [if_pos x0p, g102_eq a1 (by omega)]
              by_cases o2 : nx B L r1.2.1 = 124
              · rw [if_pos o2, if_pos (Or.inr o2)]
                dsimp only
                have hlt1 := nx_lt (B := B) (L := L) (i := r1.2.1) (by rw [o2]; decide)
                rw [if_neg x1n, a1.2.1]
                exact cQ_b2 hp (g103 p f) hL (hrec _ hlt1) (by omega) (cT_r hp ht _ _) (cQ_x hp f (b + 1) (r1.2.1 + 1) _ _ (by omega) (by omega) (cR_mv a1 _) hlt1 (by omega) (cT_r hp ht _ _).2.2.1 (by omega))
              · rw [if_neg o2, if_neg (fun z => z.elim o1 o2)]
                dsimp only
                rw [if_pos x0p]
                exact ⟨σ1, rfl, a1, cF_T ht, fun z => by cases z⟩
        have hg : pG L (i + nt B L 300 i) (pb1 B L (px B L f (b + 1)) (px B L f (b + 1) (j + 1))) := by rw [hj]; exact pG_b1 hrec hg1
        have key' : cQ p B L S (mv σ (i + nt B L 300 i) (nx B L (i + nt B L 300 i))) (pb1 B L (px B L f (b + 1)) (px B L f (b + 1) (j + 1))) (g104 p (g103 p f) (Int32.ofNat b + 1) (mv σ j (nx B L j))) := by rw [hj]; exact key
        exact cQ_not hp hL hSi hg hS (by omega) key' (g103 p f) (fun v s e => by rw [e])
      · rw [if_neg z]
        have hle6 : ¬ Int32.ofNat (b + 1) ≤ 6 := by
          have z6 : (6 : Int32).toInt = 6 := by decide
          rw [Int32.le_iff_toInt_le, z6, Int32.toInt_ofNat_of_lt (by omega)]; omega
        have key : cQ p B L S (mv σ j (nx B L j)) (pno j) (g104 p (g103 p f) (Int32.ofNat b + 1) (mv σ j (nx B L j))) := by
          unfold g104
          rw [x_succ, if_neg hle6]
          exact ⟨_, rfl, hr, fun c _ _ => rfl, fun z => by cases z⟩
        have hg : pG L (i + nt B L 300 i) (pno j) := by rw [hj]; exact pG_no (Nat.le_refl _) hk
        have key' : cQ p B L S (mv σ (i + nt B L 300 i) (nx B L (i + nt B L 300 i))) (pno j) (g104 p (g103 p f) (Int32.ofNat b + 1) (mv σ j (nx B L j))) := by rw [hj]; exact key
        exact cQ_not hp hL hSi hg hS (by omega) key' (g103 p f) (fun v s e => by rw [e])
    · rw [if_neg q, if_neg q]
      have key := cQ_m hp hr hk hS1 (by omega : S ≤ j)
      have hg : pG L (i + nt B L 300 i) (pmt B L j) := by rw [hj]; exact pG_mt hk
      have key' : cQ p B L S (mv σ (i + nt B L 300 i) (nx B L (i + nt B L 300 i))) (pmt B L j) (g96 p (mv σ j (nx B L j))) := by rw [hj]; exact key
      exact cQ_not hp hL hSi hg hS (by omega) key' (g103 p f) (fun v s e => by rw [e])
