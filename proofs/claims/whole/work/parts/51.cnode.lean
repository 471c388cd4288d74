/-! nodes: what is read; the class reads it -/
/-- a node: kind; the policy that it is in; duties on a permit, on a deny; the target's steps and matches; the condition's steps, matches, doings -/
abbrev xN : Type := Int32 × Option Nat × Int32 × Int32 × List xE × List xG × List xE × List xE × (Nat → List Int32)
abbrev xP : Type := Bool × Nat × List xN
def comb (c : Int32) : Bool := decide (c = 68 ∨ c = 80 ∨ c = 70 ∨ c = 88 ∨ c = 89 ∨ c = 79)
def isr (c : Int32) : Bool := decide (c = 112 ∨ c = 100)
def pcn (B : Nat → Int32) (L j : Nat) : xR := if nx B L j = 63 then px B L 8 0 (j + 1) else (true, j, [], [], fun _ => [])
def pr3 (B : Nat → Int32) (L : Nat) (c : Int32) (par : Option Nat) (t : Bool × Nat × List xE × List xG) (e : xR) (d : Nat × Nat × Int32) : xP :=
  if d.1 = 1 then (if nx B L d.2.1 = 59 then (true, d.2.1 + 1, [(c, par, d.2.2, d.2.2, t.2.2.1, t.2.2.2, e.2.2.1, e.2.2.2.1, e.2.2.2.2)]) else (false, d.2.1, [])) else (false, d.2.1, [])
def pr2 (B : Nat → Int32) (L : Nat) (c : Int32) (par : Option Nat) (t : Bool × Nat × List xE × List xG) (e : xR) : xP :=
  bif e.1 then pr3 B L c par t e (pd B L 43 e.2.1) else (false, e.2.1, [])
def pru (B : Nat → Int32) (L : Nat) (c : Int32) (par : Option Nat) (i : Nat) : xP :=
  bif (pT B L (i + 1)).1 then pr2 B L c par (pT B L (i + 1)) (pcn B L (pT B L (i + 1)).2.1) else (false, (pT B L (i + 1)).2.1, [])
def pp4 (c : Int32) (par : Option Nat) (t : Bool × Nat × List xE × List xG) (k : xP) (d1 d2 : Nat × Nat × Int32) : xP :=
  if d2.1 = 1 then (true, d2.2.1, (c, par, d1.2.2, d2.2.2, t.2.2.1, t.2.2.2, [], [], fun _ => []) :: k.2.2) else (false, d2.2.1, [])
def pp3 (B : Nat → Int32) (L : Nat) (c : Int32) (par : Option Nat) (t : Bool × Nat × List xE × List xG) (k : xP) (d1 : Nat × Nat × Int32) : xP :=
  if d1.1 = 1 then pp4 c par t k d1 (pd B L 45 d1.2.1) else (false, d1.2.1, [])
def pp2 (B : Nat → Int32) (L : Nat) (c : Int32) (par : Option Nat) (t : Bool × Nat × List xE × List xG) (k : xP) : xP :=
  bif k.1 then pp3 B L c par t k (pd B L 43 k.2.1) else (false, k.2.1, [])
def ppo (B : Nat → Int32) (L : Nat) (c : Int32) (par : Option Nat) (i : Nat) (kids : Nat → xP) : xP :=
  bif (pT B L (i + 1)).1 then (if nx B L (pT B L (i + 1)).2.1 = 123 then pp2 B L c par (pT B L (i + 1)) (kids ((pT B L (i + 1)).2.1 + 1)) else (false, (pT B L (i + 1)).2.1, [])) else (false, (pT B L (i + 1)).2.1, [])
def pkd (B : Nat → Int32) (L : Nat) (rec : Nat → Nat → xP) : Nat → Nat → Nat → xP
  | 0, _, j => (false, j, [])
  | m + 1, N, j => bif (rec N j).1 then (if nx B L (rec N j).2.1 = 125 then (true, (rec N j).2.1 + 1, (rec N j).2.2) else ((pkd B L rec m (N + (rec N j).2.2.length) (rec N j).2.1).1, (pkd B L rec m (N + (rec N j).2.2.length) (rec N j).2.1).2.1, (rec N j).2.2 ++ (pkd B L rec m (N + (rec N j).2.2.length) (rec N j).2.1).2.2)) else (false, (rec N j).2.1, [])
def pnd (B : Nat → Int32) (L : Nat) : Nat → Nat → Option Nat → Bool → Nat → Nat → xP
  | 0, _, _, _, _, i => (false, i, [])
  | f + 1, N, par, o, w, i => if 40 ≤ N then (false, i, []) else bif isr (nx B L i) then (bif o then (false, i, []) else pru B L (nx B L i) par i) else (bif comb (nx B L i) then (if w < 5 then ppo B L (nx B L i) par i (pkd B L (fun N' j => pnd B L f N' (some N) (decide (nx B L i = 79)) (w + 1) j) 40 (N + 1)) else (false, i, [])) else (false, i, []))
def stp (r : xN) : Nat := r.2.2.2.2.1.length + r.2.2.2.2.2.2.1.length
def tS : List xN → Nat
  | [] => 0
  | r :: rs => stp r + tS rs
def mtp (r : xN) : Nat := r.2.2.2.2.2.1.length + r.2.2.2.2.2.2.2.1.length
def tM : List xN → Nat
  | [] => 0
  | r :: rs => mtp r + tM rs
def dtp (M : Nat) (r : xN) : Nat := (r.2.2.2.2.2.2.2.2 (M + r.2.2.2.2.2.1.length)).length
def tDn : Nat → List xN → Nat
  | _, [] => 0
  | M, r :: rs => dtp M r + tDn (M + mtp r) rs
theorem tS_app : ∀ (a b : List xN), tS (a ++ b) = tS a + tS b
  | [], b => by rw [List.nil_append, tS, Nat.zero_add]
  | r :: a, b => by rw [List.cons_append, tS, tS, tS_app a b, Nat.add_assoc]
theorem tM_app : ∀ (a b : List xN), tM (a ++ b) = tM a + tM b
  | [], b => by rw [List.nil_append, tM, Nat.zero_add]
  | r :: a, b => by rw [List.cons_append, tM, tM, tM_app a b, Nat.add_assoc]
theorem tDn_app : ∀ (a b : List xN) (M : Nat), tDn M (a ++ b) = tDn M a + tDn (M + tM a) b
  | [], b, M => by rw [List.nil_append, tDn, tM, Nat.zero_add, Nat.add_zero]
  | r :: a, b, M => by rw [List.cons_append, tDn, tDn, tM, tDn_app a b, Nat.add_assoc, Nat.add_assoc]
def pQ (L N i : Nat) (r : xP) : Prop := i ≤ r.2.1 ∧ r.2.1 ≤ L ∧ (r.1 = true → i < r.2.1 ∧ 1 ≤ r.2.2.length ∧ N + r.2.2.length ≤ 40 ∧ i + tS r.2.2 ≤ r.2.1 ∧ i + 3 * tM r.2.2 ≤ r.2.1 ∧ ∀ M, i + tDn M r.2.2 ≤ r.2.1)
theorem pQ_no {L N i j : Nat} (h0 : i ≤ j) (h : j ≤ L) : pQ L N i (false, j, []) := ⟨h0, h, fun q => by cases q⟩
theorem pG_cn {B : Nat → Int32} {L j : Nat} (h : j ≤ L) : j ≤ (pcn B L j).2.1 ∧ (pcn B L j).2.1 ≤ L ∧ ((pcn B L j).1 = true → j + (pcn B L j).2.2.1.length ≤ (pcn B L j).2.1 ∧ j + 3 * (pcn B L j).2.2.2.1.length ≤ (pcn B L j).2.1 ∧ ∀ M, j + ((pcn B L j).2.2.2.2 M).length ≤ (pcn B L j).2.1) := by
  unfold pcn
  by_cases q : nx B L j = 63
  · rw [if_pos q]
    obtain ⟨a, b, c⟩ := pG_x (B := B) 8 0 (j + 1) (nx_lt (by rw [q]; decide))
    refine ⟨by omega, b, fun z => ?_⟩
    obtain ⟨x, y, u, v⟩ := c z
    exact ⟨by omega, by omega, fun M => by have := v M; omega⟩
  · rw [if_neg q]; exact ⟨Nat.le_refl _, h, fun _ => ⟨Nat.le_refl _, Nat.le_refl _, fun _ => Nat.le_refl _⟩⟩
theorem pQ_ru {B : Nat → Int32} {L N i : Nat} {c : Int32} {par : Option Nat} (hi : i < L) (hN : N < 40) : pQ L N i (pru B L c par i) := by
  obtain ⟨a0, a1, a2⟩ := ptG_T (B := B) (L := L) (i := i + 1) hi
  unfold pru
  cases g : (pT B L (i + 1)).1 with
  | false => exact pQ_no (by omega) a1
  | true =>
    obtain ⟨a3, a4⟩ := a2 g
    obtain ⟨b0, b1, b2⟩ := pG_cn (B := B) (L := L) (j := (pT B L (i + 1)).2.1) a1
    rw [cond_true]
    unfold pr2
    cases g2 : (pcn B L (pT B L (i + 1)).2.1).1 with
    | false => exact pQ_no (by omega) b1
    | true =>
      obtain ⟨b3, b4, b5⟩ := b2 g2
      obtain ⟨d0, d1, d2⟩ := pd_le (B := B) (L := L) (g := 43) (by decide) (i := (pcn B L (pT B L (i + 1)).2.1).2.1) b1
      rw [cond_true]
      unfold pr3
      by_cases z : (pd B L 43 (pcn B L (pT B L (i + 1)).2.1).2.1).1 = 1
      · rw [if_pos z]
        by_cases y : nx B L (pd B L 43 (pcn B L (pT B L (i + 1)).2.1).2.1).2.1 = 59
        · rw [if_pos y]
          have hlt := nx_lt (B := B) (L := L) (i := (pd B L 43 (pcn B L (pT B L (i + 1)).2.1).2.1).2.1) (by rw [y]; decide)
          refine ⟨by show i ≤ _ + 1; omega, hlt, fun _ => ⟨by show i < _ + 1; omega, Nat.le_refl 1, by show N + 1 ≤ 40; omega, ?_, ?_, fun M => ?_⟩⟩
          · show i + ((pT B L (i + 1)).2.2.1.length + (pcn B L (pT B L (i + 1)).2.1).2.2.1.length + 0) ≤ (pd B L 43 (pcn B L (pT B L (i + 1)).2.1).2.1).2.1 + 1
            omega
          · show i + 3 * ((pT B L (i + 1)).2.2.2.length + (pcn B L (pT B L (i + 1)).2.1).2.2.2.1.length + 0) ≤ (pd B L 43 (pcn B L (pT B L (i + 1)).2.1).2.1).2.1 + 1
            omega
          · show i + (((pcn B L (pT B L (i + 1)).2.1).2.2.2.2 (M + (pT B L (i + 1)).2.2.2.length)).length + 0) ≤ (pd B L 43 (pcn B L (pT B L (i + 1)).2.1).2.1).2.1 + 1
            have := b5 (M + (pT B L (i + 1)).2.2.2.length)
            omega
        · rw [if_neg y]; exact pQ_no (by omega) d1
      · rw [if_neg z]; exact pQ_no (by omega) d1
theorem pQ_po {B : Nat → Int32} {L N i : Nat} {c : Int32} {par : Option Nat} {kids : Nat → xP} (hi : i < L) (hN : N < 40) (hk : ∀ j, j ≤ L → pQ L (N + 1) j (kids j)) : pQ L N i (ppo B L c par i kids) := by
  obtain ⟨a0, a1, a2⟩ := ptG_T (B := B) (L := L) (i := i + 1) hi
  unfold ppo
  cases g : (pT B L (i + 1)).1 with
  | false => exact pQ_no (by omega) a1
  | true =>
    obtain ⟨a3, a4⟩ := a2 g
    rw [cond_true]
    by_cases q : nx B L (pT B L (i + 1)).2.1 = 123
    · rw [if_pos q]
      obtain ⟨b0, b1, b2⟩ := hk ((pT B L (i + 1)).2.1 + 1) (nx_lt (by rw [q]; decide))
      generalize kids ((pT B L (i + 1)).2.1 + 1) = k at *
      unfold pp2
      cases g2 : k.1 with
      | false => exact pQ_no (by omega) b1
      | true =>
        obtain ⟨b3, b4, b5, b6, b7, b8⟩ := b2 g2
        obtain ⟨d0, d1, d2⟩ := pd_le (B := B) (L := L) (g := 43) (by decide) (i := k.2.1) b1
        rw [cond_true]
        unfold pp3
        by_cases z : (pd B L 43 k.2.1).1 = 1
        · rw [if_pos z]
          obtain ⟨e0, e1, e2⟩ := pd_le (B := B) (L := L) (g := 45) (by decide) (i := (pd B L 43 k.2.1).2.1) d1
          unfold pp4
          by_cases y : (pd B L 45 (pd B L 43 k.2.1).2.1).1 = 1
          · rw [if_pos y]
            refine ⟨by show i ≤ (pd B L 45 (pd B L 43 k.2.1).2.1).2.1; omega, e1, fun _ => ⟨by show i < (pd B L 45 (pd B L 43 k.2.1).2.1).2.1; omega, ?_, ?_, ?_, ?_, fun M => ?_⟩⟩
            · show 1 ≤ k.2.2.length + 1; omega
            · show N + (k.2.2.length + 1) ≤ 40; omega
            · show i + ((pT B L (i + 1)).2.2.1.length + 0 + tS k.2.2) ≤ (pd B L 45 (pd B L 43 k.2.1).2.1).2.1
              omega
            · show i + 3 * ((pT B L (i + 1)).2.2.2.length + 0 + tM k.2.2) ≤ (pd B L 45 (pd B L 43 k.2.1).2.1).2.1
              omega
            · show i + (0 + tDn (M + ((pT B L (i + 1)).2.2.2.length + 0)) k.2.2) ≤ (pd B L 45 (pd B L 43 k.2.1).2.1).2.1
              have := b8 (M + ((pT B L (i + 1)).2.2.2.length + 0))
              omega
          · rw [if_neg y]; exact pQ_no (by omega) e1
        · rw [if_neg z]; exact pQ_no (by omega) d1
    · rw [if_neg q]; exact pQ_no (by omega) a1
theorem pQ_kd {B : Nat → Int32} {L : Nat} {rec : Nat → Nat → xP} (hr : ∀ N j, j ≤ L → pQ L N j (rec N j)) : ∀ (m N j : Nat), j ≤ L → pQ L N j (pkd B L rec m N j)
  | 0, N, j, h => pQ_no (Nat.le_refl _) h
  | m + 1, N, j, h => by
    obtain ⟨a0, a1, a2⟩ := hr N j h
    rw [pkd]
    generalize rec N j = r at *
    cases g : r.1 with
    | false => exact pQ_no a0 a1
    | true =>
      obtain ⟨a3, a4, a5, a6, a7, a8⟩ := a2 g
      rw [cond_true]
      by_cases q : nx B L r.2.1 = 125
      · rw [if_pos q]
        have hlt := nx_lt (B := B) (L := L) (i := r.2.1) (by rw [q]; decide)
        exact ⟨by show j ≤ r.2.1 + 1; omega, hlt, fun _ => ⟨by show j < r.2.1 + 1; omega, a4, a5, by show j + tS r.2.2 ≤ r.2.1 + 1; omega, by show j + 3 * tM r.2.2 ≤ r.2.1 + 1; omega, fun M => by show j + tDn M r.2.2 ≤ r.2.1 + 1; have := a8 M; omega⟩⟩
      · rw [if_neg q]
        obtain ⟨b0, b1, b2⟩ := pQ_kd (B := B) hr m (N + r.2.2.length) r.2.1 a1
        generalize pkd B L rec m (N + r.2.2.length) r.2.1 = k at *
        refine ⟨by show j ≤ k.2.1; omega, b1, fun z => ?_⟩
        obtain ⟨b3, b4, b5, b6, b7, b8⟩ := b2 z
        refine ⟨by show j < k.2.1; omega, ?_, ?_, ?_, ?_, fun M => ?_⟩
        · show 1 ≤ (r.2.2 ++ k.2.2).length; rw [List.length_append]; omega
        · show N + (r.2.2 ++ k.2.2).length ≤ 40; rw [List.length_append]; omega
        · show j + tS (r.2.2 ++ k.2.2) ≤ k.2.1; rw [tS_app]; omega
        · show j + 3 * tM (r.2.2 ++ k.2.2) ≤ k.2.1; rw [tM_app]; omega
        · show j + tDn M (r.2.2 ++ k.2.2) ≤ k.2.1
          rw [tDn_app]
          have x := a8 M
          have y := b8 (M + tM r.2.2)
          omega
theorem isr_m1 {c : Int32} (h : isr c = true) : ¬ c = -1 := fun q => by subst q; revert h; decide
theorem comb_m1 {c : Int32} (h : comb c = true) : ¬ c = -1 := fun q => by subst q; revert h; decide
theorem pQ_nd {B : Nat → Int32} {L : Nat} : ∀ (f N : Nat) (par : Option Nat) (o : Bool) (w i : Nat), i ≤ L → pQ L N i (pnd B L f N par o w i)
  | 0, N, par, o, w, i, h => pQ_no (Nat.le_refl _) h
  | f + 1, N, par, o, w, i, h => by
    rw [pnd]
    by_cases hN : 40 ≤ N
    · rw [if_pos hN]; exact pQ_no (Nat.le_refl _) h
    · rw [if_neg hN]
      cases g : isr (nx B L i) with
      | true =>
        rw [cond_true]
        cases o with
        | true => exact pQ_no (Nat.le_refl _) h
        | false => exact pQ_ru (nx_lt (isr_m1 g)) (by omega)
      | false =>
        rw [cond_false]
        cases g2 : comb (nx B L i) with
        | false => exact pQ_no (Nat.le_refl _) h
        | true =>
          rw [cond_true]
          by_cases hw : w < 5
          · rw [if_pos hw]
            exact pQ_po (nx_lt (comb_m1 g2)) (by omega) (fun j hj => pQ_kd (fun N' j hj => pQ_nd f N' (some N) _ (w + 1) j hj) 40 (N + 1) j hj)
          · rw [if_neg hw]; exact pQ_no (Nat.le_refl _) h
/-- nodes below N and steps below S stand -/
def cFn (p N S : Nat) (σ σ' : xS) : Prop := cF p σ σ' ∧ (∀ c, p < c → c ≤ p + 7 → ∀ j, j < N → σ' c j = σ c j) ∧ ∀ c, p + 8 ≤ c → c ≤ p + 10 → ∀ j, j < S → σ' c j = σ c j
theorem cFn_trans {p N S N' S' : Nat} {σ σ1 σ2 : xS} (h : cFn p N S σ σ1) (h' : cFn p N' S' σ1 σ2) (hN : N ≤ N') (hS : S ≤ S') : cFn p N S σ σ2 :=
  ⟨cF_trans h.1 h'.1, fun c x y j z => (h'.2.1 c x y j (by omega)).trans (h.2.1 c x y j z), fun c x y j z => (h'.2.2 c x y j (by omega)).trans (h.2.2 c x y j z)⟩
theorem cFn_20 {p N S : Nat} (hp : 22 < p) {σ σ' : xS} (h : c20 σ σ') : cFn p N S σ σ' := ⟨fun c a _ => h c a, fun c a _ j _ => by rw [h c (by omega)], fun c a _ j _ => by rw [h c (by omega)]⟩
theorem cFn_mv {p N S : Nat} (hp : 22 < p) (σ : xS) (j : Nat) (v : Int32) : cFn p N S σ (mv σ j v) := cFn_20 hp fun c h => mv_o h
theorem cFn_T {p N S : Nat} (hp : 22 < p) {T : List xE} {σ σ' : xS} (h : cT p S T σ σ') : cFn p N S σ σ' :=
  ⟨cF_T h, fun c a b j _ => by rw [h.1 c (by omega) (by omega) (by omega) (by omega) (by omega)], fun c a b j z => by
    obtain ⟨x1, x2, x3⟩ := h.2.2.2.1 j z
    have hc : c = p + 8 ∨ c = p + 9 ∨ c = p + 10 := by omega
    rcases hc with rfl | rfl | rfl
    · exact x1
    · exact x2
    · exact x3⟩
theorem cFn_ui {p N S c : Nat} (h1 : p < c) (h2 : c ≤ p + 7) (σ : xS) {j : Nat} (hj : N ≤ j) (v : Int32) : cFn p N S σ (xh_ui σ c j v) :=
  ⟨fun d _ hd => by rw [xu_o (by omega)], fun d a b k z => by
    by_cases q : d = c
    · subst q; rw [xu_n (by omega)]
    · rw [xu_o q], fun d a b k z => by rw [xu_o (by omega)]⟩
def pv (par : Option Nat) : Int32 := match par with
  | none => -1
  | some m => Int32.ofNat m
/-- the class's rows of a node -/
def cN1 (p N S : Nat) (r : xN) (σ : xS) : Prop := σ (p + 1) N = r.1 ∧ σ (p + 2) N = pv r.2.1 ∧ σ (p + 3) N = r.2.2.1 ∧ σ (p + 4) N = r.2.2.2.1 ∧ σ (p + 5) N = Int32.ofNat S ∧ σ (p + 6) N = Int32.ofNat (S + r.2.2.2.2.1.length) ∧ (isr r.1 = true → σ (p + 7) N = Int32.ofNat (S + stp r)) ∧
  ∀ q t, (r.2.2.2.2.1 ++ r.2.2.2.2.2.2.1)[q]? = some t → σ (p + 8) (S + q) = t.1 ∧ σ (p + 9) (S + q) = t.2.1 ∧ σ (p + 10) (S + q) = t.2.2
def cNs (p : Nat) : Nat → Nat → List xN → xS → Prop
  | _, _, [], _ => True
  | N, S, r :: rs, σ => cN1 p N S r σ ∧ cNs p (N + 1) (S + stp r) rs σ
theorem cN1_fr {p N S N' S' : Nat} {r : xN} {σ σ' : xS} (h : cN1 p N S r σ) (hf : cFn p N' S' σ σ') (hN : N < N') (hS : S + stp r ≤ S') : cN1 p N S r σ' := by
  obtain ⟨h1, h2, h3, h4, h5, h6, h7, h8⟩ := h
  obtain ⟨f1, f2, f3⟩ := hf
  refine ⟨by rw [f2 _ (by omega) (by omega) N hN]; exact h1, by rw [f2 _ (by omega) (by omega) N hN]; exact h2, by rw [f2 _ (by omega) (by omega) N hN]; exact h3, by rw [f2 _ (by omega) (by omega) N hN]; exact h4, by rw [f2 _ (by omega) (by omega) N hN]; exact h5, by rw [f2 _ (by omega) (by omega) N hN]; exact h6, fun z => by rw [f2 _ (by omega) (by omega) N hN]; exact h7 z, fun q t hq => ?_⟩
  have hlt : q < stp r := by
    obtain ⟨z, -⟩ := List.getElem?_eq_some_iff.mp hq
    rw [List.length_append] at z
    exact z
  rw [f3 _ (by omega) (by omega) _ (by omega), f3 _ (by omega) (by omega) _ (by omega), f3 _ (by omega) (by omega) _ (by omega)]
  exact h8 q t hq
theorem cNs_fr {p N' S' : Nat} {σ σ' : xS} (hf : cFn p N' S' σ σ') : ∀ (rs : List xN) (N S : Nat), cNs p N S rs σ → N + rs.length ≤ N' → S + tS rs ≤ S' → cNs p N S rs σ'
  | [], _, _, _, _, _ => trivial
  | r :: rs, N, S, h, hN, hS => by
    rw [List.length_cons] at hN
    rw [tS] at hS
    exact ⟨cN1_fr h.1 hf (by omega) (by omega), cNs_fr hf rs (N + 1) (S + stp r) h.2 (by omega) (by omega)⟩
theorem cNs_app {p : Nat} {σ : xS} : ∀ (a b : List xN) (N S : Nat), cNs p N S a σ → cNs p (N + a.length) (S + tS a) b σ → cNs p N S (a ++ b) σ
  | [], b, N, S, _, h => h
  | r :: a, b, N, S, h, h' => by
    refine ⟨h.1, cNs_app a b (N + 1) (S + stp r) h.2 ?_⟩
    rw [List.length_cons, tS] at h'
    rw [show N + 1 + a.length = N + (a.length + 1) by omega, show S + stp r + tS a = S + (stp r + tS a) by omega]
    exact h'
