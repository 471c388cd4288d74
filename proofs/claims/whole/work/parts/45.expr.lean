/-! an expression: what is read, as lists; the class reads it -/
abbrev xE : Type := Int32 × Int32 × Int32
/-- is it right; where reading stands; the class's steps; the matches; the reference's doings, the first match being its number -/
abbrev xR : Type := Bool × Nat × List xE × List xE × (Nat → List Int32)
def pno (i : Nat) : xR := (false, i, [], [], fun _ => [])
def nt (B : Nat → Int32) (L : Nat) : Nat → Nat → Nat
  | 0, _ => 0
  | m + 1, i => if nx B L i = 33 then nt B L m (i + 1) + 1 else 0
def pmt (B : Nat → Int32) (L j : Nat) : xR := bif (pm B L j).1 then (true, (pm B L j).2.1, [(pm B L j).2.2], [(pm B L j).2.2], fun M => [Int32.ofNat (100 + M)]) else pno (pm B L j).2.1
def pnot (k : Nat) (r : xR) : xR := bif r.1 then (true, r.2.1, (bif decide (k % 2 = 1) then r.2.2.1 ++ [(33, 0, 0)] else r.2.2.1), r.2.2.2.1, fun M => r.2.2.2.2 M ++ List.replicate k 1000) else r
def pb2 (B : Nat → Int32) (L : Nat) (op : Int32) (r1 r2 : xR) : xR := bif r2.1 then (if nx B L r2.2.1 = 41 then (true, r2.2.1 + 1, r1.2.2.1 ++ r2.2.2.1 ++ [(op, 0, 0)], r1.2.2.2.1 ++ r2.2.2.2.1, fun M => r1.2.2.2.2 M ++ r2.2.2.2.2 (M + r1.2.2.2.1.length) ++ [if op = 38 then 1001 else 1002]) else pno r2.2.1) else pno r2.2.1
def pb1 (B : Nat → Int32) (L : Nat) (rec : Nat → xR) (r1 : xR) : xR := bif r1.1 then (if nx B L r1.2.1 = 38 ∨ nx B L r1.2.1 = 124 then pb2 B L (nx B L r1.2.1) r1 (rec (r1.2.1 + 1)) else pno r1.2.1) else pno r1.2.1
def px (B : Nat → Int32) (L : Nat) : Nat → Nat → Nat → xR
  | 0, _, i => pno i
  | f + 1, b, i => pnot (nt B L 300 i) (if nx B L (i + nt B L 300 i) = 40 then (if b < 6 then pb1 B L (px B L f (b + 1)) (px B L f (b + 1) (i + nt B L 300 i + 1)) else pno (i + nt B L 300 i)) else pmt B L (i + nt B L 300 i))
theorem pn_le {B : Nat → Int32} {L i : Nat} (hd : isd (nx B L i) = true) : i + 1 ≤ (pn B L i).1 ∧ (pn B L i).1 ≤ L := by
  have h0 := nx_lt (isd_m1 hd)
  unfold pn
  by_cases q : nx B L i = 48
  · rw [if_pos q]; exact ⟨Nat.le_refl _, h0⟩
  · rw [if_neg q]
    cases d1 : isd (nx B L (i + 1)) with
    | false => exact ⟨Nat.le_refl _, h0⟩
    | true =>
      have h1 := nx_lt (isd_m1 d1)
      cases d2 : isd (nx B L (i + 2)) with
      | false => exact ⟨Nat.le_succ _, h1⟩
      | true =>
        have h2 := nx_lt (isd_m1 d2)
        exact ⟨by show i + 1 ≤ i + 3; omega, h2⟩
theorem pm_le {B : Nat → Int32} {L i : Nat} (hi : i ≤ L) : i ≤ (pm B L i).2.1 ∧ (pm B L i).2.1 ≤ L ∧ ((pm B L i).1 = true → i + 3 ≤ (pm B L i).2.1) := by
  unfold pm
  cases a : att (nx B L i) with
  | false => exact ⟨Nat.le_refl _, hi, fun q => by cases q⟩
  | true =>
    have h0 := nx_lt (att_m1 a)
    cases s : sgn (nx B L i) (nx B L (i + 1)) with
    | false => exact ⟨Nat.le_succ _, h0, fun q => by cases q⟩
    | true =>
      have h1 := nx_lt (sgn_m1 s)
      cases d : isd (nx B L (i + 2)) with
      | false => exact ⟨Nat.le_add_right _ _, h1, fun q => by cases q⟩
      | true =>
        have h2 := pn_le d
        exact ⟨by show i ≤ (pn B L (i + 2)).1; omega, h2.2, fun _ => h2.1⟩
theorem nt_le {B : Nat → Int32} {L : Nat} : ∀ (m i : Nat), i ≤ L → i + nt B L m i ≤ L
  | 0, i, h => h
  | m + 1, i, h => by
    rw [nt]
    by_cases q : nx B L i = 33
    · rw [if_pos q]
      have := nt_le (B := B) m (i + 1) (nx_lt (by rw [q]; decide))
      omega
    · rw [if_neg q]; exact h
theorem nt_end {B : Nat → Int32} {L : Nat} : ∀ (m i : Nat), L ≤ i + m → ¬ nx B L (i + nt B L m i) = 33
  | 0, i, h => by
    show ¬ nx B L i = 33
    unfold nx
    rw [if_pos (by omega)]; decide
  | m + 1, i, h => by
    rw [nt]
    by_cases q : nx B L i = 33
    · rw [if_pos q]
      have := nt_end (B := B) (L := L) m (i + 1) (by omega)
      rw [show i + (nt B L m (i + 1) + 1) = i + 1 + nt B L m (i + 1) by omega]
      exact this
    · rw [if_neg q]; exact q
/-- what is read is no longer than its text -/
def pG (L i : Nat) (r : xR) : Prop := i ≤ r.2.1 ∧ r.2.1 ≤ L ∧ (r.1 = true → i < r.2.1 ∧ i + r.2.2.1.length ≤ r.2.1 ∧ i + 3 * r.2.2.2.1.length ≤ r.2.1 ∧ ∀ M, i + (r.2.2.2.2 M).length ≤ r.2.1)
theorem pG_no {L i j : Nat} (h0 : i ≤ j) (h : j ≤ L) : pG L i (pno j) := ⟨h0, h, fun q => by cases q⟩
theorem pG_mt {B : Nat → Int32} {L j : Nat} (hj : j ≤ L) : pG L j (pmt B L j) := by
  obtain ⟨h0, h1, h2⟩ := pm_le (B := B) hj
  unfold pmt
  cases q : (pm B L j).1 with
  | false => exact pG_no h0 h1
  | true =>
    have h2 := h2 q
    exact ⟨h0, h1, fun _ => ⟨by show j < (pm B L j).2.1; omega, by show j + 1 ≤ (pm B L j).2.1; omega, by show j + 3 * 1 ≤ (pm B L j).2.1; omega, fun M => by show j + 1 ≤ (pm B L j).2.1; omega⟩⟩
theorem pG_not {L i k : Nat} {r : xR} (h : pG L (i + k) r) : pG L i (pnot k r) := by
  obtain ⟨h0, h1, h2⟩ := h
  unfold pnot
  cases q : r.1 with
  | false => exact ⟨by show i ≤ r.2.1; omega, h1, fun z => by rw [cond_false, q] at z; cases z⟩
  | true =>
    obtain ⟨a, b, c, d⟩ := h2 q
    refine ⟨by show i ≤ r.2.1; omega, h1, fun _ => ⟨by show i < r.2.1; omega, ?_, by show i + 3 * r.2.2.2.1.length ≤ r.2.1; omega, fun M => ?_⟩⟩
    · show i + (bif decide (k % 2 = 1) then r.2.2.1 ++ [(33, 0, 0)] else r.2.2.1).length ≤ r.2.1
      by_cases z : k % 2 = 1
      · rw [decide_eq_true z, cond_true, List.length_append]
        show i + (r.2.2.1.length + 1) ≤ r.2.1
        omega
      · rw [decide_eq_false z, cond_false]; omega
    · show i + (r.2.2.2.2 M ++ List.replicate k 1000).length ≤ r.2.1
      rw [List.length_append, List.length_replicate]
      have := d M
      omega
theorem pG_b2 {B : Nat → Int32} {L j : Nat} {op : Int32} {r1 r2 : xR} (h1 : pG L (j + 1) r1) (g1 : r1.1 = true) (h2 : pG L (r1.2.1 + 1) r2) : pG L j (pb2 B L op r1 r2) := by
  obtain ⟨a1, b1, c1, d1⟩ := h1.2.2 g1
  have z1 := h1.1
  have z2 := h2.1
  unfold pb2
  cases q : r2.1 with
  | false => exact pG_no (by omega) h2.2.1
  | true =>
    obtain ⟨a2, b2, c2, d2⟩ := h2.2.2 q
    rw [cond_true]
    by_cases z : nx B L r2.2.1 = 41
    · rw [if_pos z]
      have hL := nx_lt (B := B) (L := L) (i := r2.2.1) (by rw [z]; decide)
      refine ⟨by show j ≤ r2.2.1 + 1; omega, hL, fun _ => ⟨by show j < r2.2.1 + 1; omega, ?_, ?_, fun M => ?_⟩⟩
      · show j + (r1.2.2.1 ++ r2.2.2.1 ++ [(op, 0, 0)]).length ≤ r2.2.1 + 1
        rw [List.length_append, List.length_append]
        show j + (r1.2.2.1.length + r2.2.2.1.length + 1) ≤ r2.2.1 + 1
        omega
      · show j + 3 * (r1.2.2.2.1 ++ r2.2.2.2.1).length ≤ r2.2.1 + 1
        rw [List.length_append]; omega
      · show j + (r1.2.2.2.2 M ++ r2.2.2.2.2 (M + r1.2.2.2.1.length) ++ [if op = 38 then 1001 else 1002]).length ≤ r2.2.1 + 1
        rw [List.length_append, List.length_append]
        have e1 := d1 M
        have e2 := d2 (M + r1.2.2.2.1.length)
        show j + ((r1.2.2.2.2 M).length + (r2.2.2.2.2 (M + r1.2.2.2.1.length)).length + 1) ≤ r2.2.1 + 1
        omega
    · rw [if_neg z]; exact pG_no (by omega) h2.2.1
theorem pG_b1 {B : Nat → Int32} {L j : Nat} {rec : Nat → xR} (hr : ∀ i, i ≤ L → pG L i (rec i)) {r1 : xR} (h1 : pG L (j + 1) r1) : pG L j (pb1 B L rec r1) := by
  have z1 := h1.1
  unfold pb1
  cases q : r1.1 with
  | false => exact pG_no (by omega) h1.2.1
  | true =>
    rw [cond_true]
    by_cases z : nx B L r1.2.1 = 38 ∨ nx B L r1.2.1 = 124
    · rw [if_pos z]
      have hL := nx_lt (B := B) (L := L) (i := r1.2.1) (by rcases z with z | z <;> rw [z] <;> decide)
      exact pG_b2 h1 q (hr _ hL)
    · rw [if_neg z]; exact pG_no (by omega) h1.2.1
theorem pG_x {B : Nat → Int32} {L : Nat} : ∀ (f b i : Nat), i ≤ L → pG L i (px B L f b i)
  | 0, _, i, h => pG_no (Nat.le_refl _) h
  | f + 1, b, i, h => by
    have hk := nt_le (B := B) 300 i h
    rw [px]
    refine pG_not ?_
    by_cases q : nx B L (i + nt B L 300 i) = 40
    · rw [if_pos q]
      by_cases z : b < 6
      · rw [if_pos z]
        have hL := nx_lt (B := B) (L := L) (i := i + nt B L 300 i) (by rw [q]; decide)
        exact pG_b1 (fun i hi => pG_x f (b + 1) i hi) (pG_x f (b + 1) _ hL)
      · rw [if_neg z]; exact pG_no (Nat.le_refl _) hk
    · rw [if_neg q]; exact pG_mt hk
/-- steps more, from S on -/
def cT (p S : Nat) (Ts : List xE) (σ σ' : xS) : Prop :=
  (∀ c, ¬ c = 20 → ¬ c = p → ¬ c = p + 8 → ¬ c = p + 9 → ¬ c = p + 10 → σ' c = σ c) ∧ (∀ j, ¬ j = 11 → σ' p j = σ p j) ∧ σ' p 11 = Int32.ofNat (S + Ts.length) ∧
  (∀ j, j < S → σ' (p + 8) j = σ (p + 8) j ∧ σ' (p + 9) j = σ (p + 9) j ∧ σ' (p + 10) j = σ (p + 10) j) ∧
  ∀ q t, Ts[q]? = some t → σ' (p + 8) (S + q) = t.1 ∧ σ' (p + 9) (S + q) = t.2.1 ∧ σ' (p + 10) (S + q) = t.2.2
theorem cT_trans {p S : Nat} {T1 T2 : List xE} {σ σ1 σ2 : xS} (h1 : cT p S T1 σ σ1) (h2 : cT p (S + T1.length) T2 σ1 σ2) : cT p S (T1 ++ T2) σ σ2 := by
  obtain ⟨a1, b1, c1, d1, e1⟩ := h1
  obtain ⟨a2, b2, c2, d2, e2⟩ := h2
  refine ⟨fun c x1 x2 x3 x4 x5 => (a2 c x1 x2 x3 x4 x5).trans (a1 c x1 x2 x3 x4 x5), fun j hj => (b2 j hj).trans (b1 j hj), ?_, fun j hj => ?_, fun q t hq => ?_⟩
  · rw [c2, List.length_append, Nat.add_assoc]
  · have x := d2 j (by omega)
    have y := d1 j hj
    exact ⟨x.1.trans y.1, x.2.1.trans y.2.1, x.2.2.trans y.2.2⟩
  · by_cases z : q < T1.length
    · rw [List.getElem?_append_left z] at hq
      have x := d2 (S + q) (by omega)
      have y := e1 q t hq
      exact ⟨x.1.trans y.1, x.2.1.trans y.2.1, x.2.2.trans y.2.2⟩
    · rw [List.getElem?_append_right (by omega)] at hq
      have y := e2 _ t hq
      rw [show S + T1.length + (q - T1.length) = S + q by omega] at y
      exact y
theorem cT_mv {p S : Nat} (hp : 22 < p) {σ : xS} (hS : σ p 11 = Int32.ofNat S) (j : Nat) (v : Int32) : cT p S [] σ (mv σ j v) :=
  ⟨fun c h _ _ _ _ => mv_o h, fun j _ => by rw [mv_o (by omega)], by rw [mv_o (by omega)]; exact hS, fun j _ => by rw [mv_o (by omega), mv_o (by omega), mv_o (by omega)]; exact ⟨rfl, rfl, rfl⟩, fun q t h => by cases h⟩
theorem cT_aS {p S : Nat} {σ : xS} (l s n : Int32) : cT p S [(l, s, n)] σ (aS p S l s n σ) := by
  have e8 : aS p S l s n σ (p + 8) = upd (σ (p + 8)) S l := by unfold aS; rw [xu_o (by omega), xu_o (by omega), xu_o (by omega), xu_a]
  have e9 : aS p S l s n σ (p + 9) = upd (σ (p + 9)) S s := by unfold aS; rw [xu_o (by omega), xu_o (by omega), xu_a, xu_o (by omega)]
  have e10 : aS p S l s n σ (p + 10) = upd (σ (p + 10)) S n := by unfold aS; rw [xu_o (by omega), xu_a, xu_o (by omega), xu_o (by omega)]
  have ep : aS p S l s n σ p = upd (σ p) 11 (Int32.ofNat (S + 1)) := by unfold aS; rw [xu_a, xu_o (by omega), xu_o (by omega), xu_o (by omega)]
  refine ⟨fun c _ h1 h2 h3 h4 => by unfold aS; rw [xu_o h1, xu_o h4, xu_o h3, xu_o h2], fun j hj => by rw [ep, upd_n hj], by rw [ep, upd_s]; rfl, fun j hj => ?_, fun q t h => ?_⟩
  · rw [e8, e9, e10, upd_n (by omega), upd_n (by omega), upd_n (by omega)]; exact ⟨rfl, rfl, rfl⟩
  · cases q with
    | zero => cases h; rw [e8, e9, e10]; exact ⟨upd_s _ _ _, upd_s _ _ _, upd_s _ _ _⟩
    | succ q => cases h
theorem cR_T {p S : Nat} (hp : 22 < p) {T : List xE} {σ σ' : xS} {B : Nat → Int32} {L i j : Nat} (h : cR B L i σ) (ht : cT p S T σ σ') (h1 : σ' 20 2 = Int32.ofNat j) (h2 : σ' 20 3 = nx B L j) : cR B L j σ' :=
  ⟨h1, h2, by rw [ht.1 21 (by decide) (by omega) (by omega) (by omega) (by omega)]; exact h.2.2.1, by rw [ht.1 22 (by decide) (by omega) (by omega) (by omega) (by omega)]; exact h.2.2.2.1, h.2.2.2.2⟩
theorem cR_aS {p S : Nat} (hp : 22 < p) {σ : xS} {B : Nat → Int32} {L i : Nat} (h : cR B L i σ) (l s n : Int32) : cR B L i (aS p S l s n σ) := by
  have e : aS p S l s n σ 20 = σ 20 := by unfold aS; rw [xu_o (by omega), xu_o (by omega), xu_o (by omega), xu_o (by omega)]
  exact cR_T hp h (cT_aS l s n) (by rw [e]; exact h.1) (by rw [e]; exact h.2.1)
/-- what is not the reader's stands -/
def cF (p : Nat) (σ σ' : xS) : Prop := ∀ c, ¬ c = 20 → c < p ∨ p + 10 < c → σ' c = σ c
theorem cF_T {p S : Nat} {T : List xE} {σ σ' : xS} (h : cT p S T σ σ') : cF p σ σ' := fun c h1 h2 => h.1 c h1 (by omega) (by omega) (by omega) (by omega)
theorem cF_trans {p : Nat} {σ σ1 σ2 : xS} (h : cF p σ σ1) (h' : cF p σ1 σ2) : cF p σ σ2 := fun c h1 h2 => (h' c h1 h2).trans (h c h1 h2)
theorem cF_mv (p : Nat) (σ : xS) (j : Nat) (v : Int32) : cF p σ (mv σ j v) := fun _ h _ => mv_o h
/-- a reading method has read r -/
def cQ (p : Nat) (B : Nat → Int32) (L S : Nat) (σ : xS) (r : xR) (q : xO) : Prop := ∃ σ', q = some (.inl (xb r.1), σ') ∧ cR B L r.2.1 σ' ∧ cF p σ σ' ∧ (r.1 = true → cT p S r.2.2.1 σ σ')
theorem cQ_m {p : Nat} (hp : 22 < p) {B : Nat → Int32} {L i S : Nat} {σ : xS} (h : cR B L i σ) (hi : i ≤ L) (hS : σ p 11 = Int32.ofNat S) (h3 : S ≤ i) : cQ p B L S σ (pmt B L i) (g96 p σ) := by
  have hL := h.2.2.2.2
  rw [g96_eq hp h (by omega) hS h3]
  unfold pmt
  cases q : (pm B L i).1 with
  | false => exact ⟨_, rfl, cR_mv h _, cF_mv p σ _ _, fun z => by cases z⟩
  | true =>
    have hm := cT_mv (S := S) hp hS (pm B L i).2.1 (nx B L (pm B L i).2.1)
    have ha := cT_aS (p := p) (S := S) (σ := mv σ (pm B L i).2.1 (nx B L (pm B L i).2.1)) (pm B L i).2.2.1 (pm B L i).2.2.2.1 (pm B L i).2.2.2.2
    have ht := cT_trans hm ha
    exact ⟨_, rfl, cR_aS hp (cR_mv h _) _ _ _, cF_T ht, fun _ => ht⟩
theorem x1n : ¬ (1 : Int32) = 0 := by decide
theorem x0p : (0 : Int32) = 0 := rfl
