/-! the reference puts what it read in force -/
section Xlo3
variable {α β ρ : Type} {f : α → Option (α ⊕ ρ)}
theorem xlo_forX (st : Nat → β → α) (N : Nat) (P : Nat → β → Prop) (X : β → Option ρ) (hs : ∀ i b, i < N → P i b → ∃ b', f (st i b) = some (.inl (st (i + 1) b')) ∧ P (i + 1) b') (he : ∀ b, P N b → f (st N b) = Option.map Sum.inr (X b)) :
    ∀ (k n i : Nat) (b : β), i + k = N → k < n → P i b → ∃ b', xlo f n (st i b) = X b' ∧ P N b'
  | _, 0, _, _, _, hn, _ => absurd hn (Nat.not_lt_zero _)
  | 0, n + 1, i, b, hi, _, hP => by
    rw [Nat.add_zero] at hi
    subst hi
    exact ⟨b, xlo_map (he b hP), hP⟩
  | k + 1, n + 1, i, b, hi, hn, hP => by
    obtain ⟨b1, h1, h2⟩ := hs i b (by omega) hP
    obtain ⟨b2, h3, h4⟩ := xlo_forX st N P X hs he k n (i + 1) b1 (by omega) (by omega) h2
    exact ⟨b2, by rw [xlo_step h1, h3], h4⟩
end Xlo3
theorem x_le1000 {a b : Nat} (ha : a < 1000) (hb : b < 1000) : (Int32.ofNat a ≤ Int32.ofNat b) ↔ a ≤ b := by
  rw [Int32.le_iff_toInt_le, Int32.toInt_ofNat_of_lt (by omega), Int32.toInt_ofNat_of_lt (by omega)]; omega
def ar (x : Int32) : Int32 := if x = -1 then -1 else x - 40
/-- node i copied -/
def k1 (i : Nat) (s b : xS) : Prop := b 71 i = s 71 (40 + i) ∧ b 72 i = ar (s 72 (40 + i)) ∧ b 73 i = s 73 (40 + i) - 100 ∧ b 74 i = s 74 (40 + i) - 100 ∧ b 75 i = s 75 (40 + i) - 300 ∧ b 76 i = s 76 (40 + i) - 300 ∧ b 77 i = s 77 (40 + i) ∧ b 78 i = s 78 (40 + i)
def k2 (i : Nat) (s b : xS) : Prop := b 79 i = s 79 (100 + i) ∧ b 80 i = s 80 (100 + i) ∧ b 81 i = s 81 (100 + i) ∧ b 82 i = vp_nar .boolean (s 82 (100 + i)) ∧ b 83 i = vp_nar .boolean (s 83 (100 + i))
def cp1 (i : Nat) (b : xS) : xS := xh_ui (xh_ui (xh_ui (xh_ui (xh_ui (xh_ui (xh_ui (xh_ui b 71 i (b 71 (40 + i))) 72 i (ar (b 72 (40 + i)))) 73 i (b 73 (40 + i) - 100)) 74 i (b 74 (40 + i) - 100)) 75 i (b 75 (40 + i) - 300)) 76 i (b 76 (40 + i) - 300)) 77 i (b 77 (40 + i))) 78 i (b 78 (40 + i))
def cp2 (i : Nat) (b : xS) : xS := xh_ui (xh_ui (xh_ui (xh_ui (xh_ui b 79 i (b 79 (100 + i))) 80 i (b 80 (100 + i))) 81 i (b 81 (100 + i))) 82 i (vp_nar .boolean (b 82 (100 + i)))) 83 i (vp_nar .boolean (b 83 (100 + i)))
theorem g187_1 {N i : Nat} (hN : N ≤ 40) (hi : i < N) {b : xS} (h70 : b 70 1 = Int32.ofNat N) : g187_14b (Int32.ofNat i) b = some (.inl (Int32.ofNat (i + 1), cp1 i b)) := by
  have nle : ¬ Int32.ofNat N ≤ Int32.ofNat i := by rw [x_le1000 (by omega) (by omega)]; omega
  have hx : xn (Int32.ofNat (40 + i)) 80 = true := xn_of (by omega) (by omega)
  have hy : xn (Int32.ofNat i) 80 = true := xn_of (by omega) (by omega)
  have cx : (Int32.ofNat (40 + i)).toNatClampNeg = 40 + i := Int32.toNatClampNeg_ofNat_of_lt (by omega)
  have cy : (Int32.ofNat i).toNatClampNeg = i := Int32.toNatClampNeg_ofNat_of_lt (by omega)
  unfold g187_14b g187_73
  rw [h70, if_neg nle, x40a, hx, cond_true, hy, cond_true, cx, cy]
  simp only [cond_true, x_succ]
  have e72 : xh_ui b 71 i (b 71 (40 + i)) 72 (40 + i) = b 72 (40 + i) := rfl
  rw [e72]
  unfold cp1 ar
  by_cases q : b 72 (40 + i) = -1
  · rw [if_pos q, if_pos q]; rfl
  · rw [if_neg q, if_neg q]; rfl
theorem g187_2 {M i : Nat} (hM : M ≤ 100) (hi : i < M) {b : xS} (h31 : b 53 31 = Int32.ofNat M) : g187_186b (Int32.ofNat i) b = some (.inl (Int32.ofNat (i + 1), cp2 i b)) := by
  have nle : ¬ Int32.ofNat M ≤ Int32.ofNat i := by rw [x_le1000 (by omega) (by omega)]; omega
  have hx : xn (Int32.ofNat (100 + i)) 200 = true := xn_of (by omega) (by omega)
  have hy : xn (Int32.ofNat i) 200 = true := xn_of (by omega) (by omega)
  have cx : (Int32.ofNat (100 + i)).toNatClampNeg = 100 + i := Int32.toNatClampNeg_ofNat_of_lt (by omega)
  have cy : (Int32.ofNat i).toNatClampNeg = i := Int32.toNatClampNeg_ofNat_of_lt (by omega)
  unfold g187_186b
  rw [h31, if_neg nle, x100a, hx, cond_true, hy, cond_true, cx, cy, x_succ]
  rfl
theorem g187_3 {D i : Nat} (hD : D ≤ 300) (hi : i < D) {b : xS} (h32 : b 53 32 = Int32.ofNat D) : g187_277b (Int32.ofNat i) b = some (.inl (Int32.ofNat (i + 1), xh_ui b 84 i (dsh (b 84 (300 + i))))) := by
  have nle : ¬ Int32.ofNat D ≤ Int32.ofNat i := by rw [x_le1000 (by omega) (by omega)]; omega
  have hx : xn (Int32.ofNat (300 + i)) 600 = true := xn_of (by omega) (by omega)
  have hy : xn (Int32.ofNat i) 600 = true := xn_of (by omega) (by omega)
  have cx : (Int32.ofNat (300 + i)).toNatClampNeg = 300 + i := Int32.toNatClampNeg_ofNat_of_lt (by omega)
  have cy : (Int32.ofNat i).toNatClampNeg = i := Int32.toNatClampNeg_ofNat_of_lt (by omega)
  unfold g187_277b g187_332 dsh
  rw [h32, if_neg nle, x300a, hx, cond_true, hy, cond_true, cond_true, cx, cy, x_succ]
  by_cases q : 1000 ≤ b 84 (300 + i)
  · rw [if_pos q, if_pos q]
  · rw [if_neg q, if_neg q]
/-- all rows copied -/
theorem g187_eq {N M D : Nat} {s : xS} (hN : N ≤ 40) (hM : M ≤ 100) (hD : D ≤ 300) (h70 : s 70 1 = Int32.ofNat N) (h31 : s 53 31 = Int32.ofNat M) (h32 : s 53 32 = Int32.ofNat D) :
    ∃ s', g187 s = some (.inl 0, s') ∧ (∀ c, ¬ (70 ≤ c ∧ c ≤ 84) → s' c = s c) ∧ s' 70 0 = Int32.ofNat N ∧ (∀ i, i < N → k1 i s s') ∧ (∀ i, i < M → k2 i s s') ∧ ∀ i, i < D → s' 84 i = dsh (s 84 (300 + i)) := by
  let s0 : xS := xh_ui s 70 0 (s 70 1)
  -- the doings
  have L3 : ∀ b0 : xS, b0 53 32 = Int32.ofNat D → ∃ b', g187_277 0 b0 = some (.inl 0, b') ∧ (∀ c, ¬ c = 84 → b' c = b0 c) ∧ ∀ i, i < D → b' 84 i = dsh (b0 84 (300 + i)) := by
    intro b0 h0
    obtain ⟨b', e, p1, p2, p3⟩ := xlo_forP (f := fun a : Int32 × xS => g187_277b a.1 a.2) (fun i b => (Int32.ofNat i, b)) D (fun i b => (∀ c, ¬ c = 84 → b c = b0 c) ∧ (∀ j, 300 ≤ j → b 84 j = b0 84 j) ∧ ∀ n, n < i → b 84 n = dsh (b0 84 (300 + n))) (fun b => ((Sum.inl 0, b) : xQ)) (fun i b hi hP => by
      obtain ⟨a1, a2, a3⟩ := hP
      have h53 : b 53 32 = Int32.ofNat D := by rw [a1 53 (by decide)]; exact h0
      refine ⟨xh_ui b 84 i (dsh (b 84 (300 + i))), g187_3 hD hi h53, fun c hc => by rw [xu_o hc]; exact a1 c hc, fun j hj => by rw [xu_n (by omega)]; exact a2 j hj, fun n hn => ?_⟩
      by_cases q : n = i
      · subst q; rw [xu_s, a2 _ (by omega)]
      · rw [xu_n q]; exact a3 n (by omega)) (fun b hP => by
      dsimp only
      unfold g187_277b
      rw [hP.1 53 (by decide), h0, if_pos (Int32.le_refl _)]) D 1000 0 b0 (by omega) (by omega) ⟨fun _ _ => rfl, fun _ _ => rfl, fun n hn => absurd hn (Nat.not_lt_zero _)⟩
    exact ⟨b', e, p1, p3⟩
  have L2 : ∀ b0 : xS, b0 53 31 = Int32.ofNat M → b0 53 32 = Int32.ofNat D → ∃ b', g187_186 0 b0 = some (.inl 0, b') ∧ (∀ c, ¬ (79 ≤ c ∧ c ≤ 84) → b' c = b0 c) ∧ (∀ i, i < M → k2 i b0 b') ∧ ∀ i, i < D → b' 84 i = dsh (b0 84 (300 + i)) := by
    intro b0 h0 h0'
    obtain ⟨b1, e, p1, p2, p3⟩ := xlo_forX (f := fun a : Int32 × xS => g187_186b a.1 a.2) (fun i b => (Int32.ofNat i, b)) M (fun i b => (∀ c, ¬ (79 ≤ c ∧ c ≤ 83) → b c = b0 c) ∧ (∀ c j, 79 ≤ c → c ≤ 83 → 100 ≤ j → b c j = b0 c j) ∧ ∀ n, n < i → k2 n b0 b) (fun b => g187_277 0 b) (fun i b hi hP => by
      obtain ⟨a1, a2, a3⟩ := hP
      have r79 : cp2 i b 79 = upd (b 79) i (b 79 (100 + i)) := rfl
      have r80 : cp2 i b 80 = upd (b 80) i (b 80 (100 + i)) := rfl
      have r81 : cp2 i b 81 = upd (b 81) i (b 81 (100 + i)) := rfl
      have r82 : cp2 i b 82 = upd (b 82) i (vp_nar .boolean (b 82 (100 + i))) := rfl
      have r83 : cp2 i b 83 = upd (b 83) i (vp_nar .boolean (b 83 (100 + i))) := rfl
      have h53 : b 53 31 = Int32.ofNat M := by rw [a1 53 (by decide)]; exact h0
      refine ⟨cp2 i b, g187_2 hM hi h53, fun c hc => ?_, fun c j x y hj => ?_, fun n hn => ?_⟩
      · unfold cp2; rw [xu_o (by omega), xu_o (by omega), xu_o (by omega), xu_o (by omega), xu_o (by omega)]; exact a1 c hc
      · have hc : c = 79 ∨ c = 80 ∨ c = 81 ∨ c = 82 ∨ c = 83 := by omega
        rw [← a2 c j x y hj]
        rcases hc with rfl | rfl | rfl | rfl | rfl
        · rw [r79, upd_n (by omega)]
        · rw [r80, upd_n (by omega)]
        · rw [r81, upd_n (by omega)]
        · rw [r82, upd_n (by omega)]
        · rw [r83, upd_n (by omega)]
      · by_cases q : n = i
        · subst q
          unfold k2
          rw [r79, r80, r81, r82, r83, upd_s, upd_s, upd_s, upd_s, upd_s, a2 79 _ (by decide) (by decide) (by omega), a2 80 _ (by decide) (by decide) (by omega), a2 81 _ (by decide) (by decide) (by omega), a2 82 _ (by decide) (by decide) (by omega), a2 83 _ (by decide) (by decide) (by omega)]
          exact ⟨rfl, rfl, rfl, rfl, rfl⟩
        · have := a3 n (by omega)
          unfold k2 at this ⊢
          rw [r79, r80, r81, r82, r83, upd_n q, upd_n q, upd_n q, upd_n q, upd_n q]
          exact this) (fun b hP => by
      dsimp only
      unfold g187_186b
      rw [hP.1 53 (by decide), h0, if_pos (Int32.le_refl _)]) M 1000 0 b0 (by omega) (by omega) ⟨fun _ _ => rfl, fun _ _ _ _ _ => rfl, fun n hn => absurd hn (Nat.not_lt_zero _)⟩
    obtain ⟨b', e', q1, q2⟩ := L3 b1 (by rw [p1 53 (by decide)]; exact h0')
    refine ⟨b', by unfold g187_186; exact e.trans e', fun c hc => by rw [q1 c (by omega), p1 c (by omega)], fun i hi => ?_, fun i hi => by rw [q2 i hi, p1 84 (by decide)]⟩
    have := p3 i hi
    unfold k2 at this ⊢
    rw [q1 79 (by decide), q1 80 (by decide), q1 81 (by decide), q1 82 (by decide), q1 83 (by decide)]
    exact this
  obtain ⟨b1, e, p1, p2, p3⟩ := xlo_forX (f := fun a : Int32 × xS => g187_14b a.1 a.2) (fun i b => (Int32.ofNat i, b)) N (fun i b => (∀ c, ¬ (71 ≤ c ∧ c ≤ 78) → b c = s0 c) ∧ (∀ c j, 71 ≤ c → c ≤ 78 → 40 ≤ j → b c j = s0 c j) ∧ ∀ n, n < i → k1 n s0 b) (fun b => g187_186 0 b) (fun i b hi hP => by
    obtain ⟨a1, a2, a3⟩ := hP
    have r71 : cp1 i b 71 = upd (b 71) i (b 71 (40 + i)) := rfl
    have r72 : cp1 i b 72 = upd (b 72) i (ar (b 72 (40 + i))) := rfl
    have r73 : cp1 i b 73 = upd (b 73) i (b 73 (40 + i) - 100) := rfl
    have r74 : cp1 i b 74 = upd (b 74) i (b 74 (40 + i) - 100) := rfl
    have r75 : cp1 i b 75 = upd (b 75) i (b 75 (40 + i) - 300) := rfl
    have r76 : cp1 i b 76 = upd (b 76) i (b 76 (40 + i) - 300) := rfl
    have r77 : cp1 i b 77 = upd (b 77) i (b 77 (40 + i)) := rfl
    have r78 : cp1 i b 78 = upd (b 78) i (b 78 (40 + i)) := rfl
    have h70b : b 70 1 = Int32.ofNat N := by
      rw [a1 70 (by decide)]
      show xh_ui s 70 0 (s 70 1) 70 1 = _
      rw [xu_n (by decide)]; exact h70
    refine ⟨cp1 i b, g187_1 hN hi h70b, fun c hc => ?_, fun c j x y hj => ?_, fun n hn => ?_⟩
    · unfold cp1; rw [xu_o (by omega), xu_o (by omega), xu_o (by omega), xu_o (by omega), xu_o (by omega), xu_o (by omega), xu_o (by omega), xu_o (by omega)]; exact a1 c hc
    · have hc : c = 71 ∨ c = 72 ∨ c = 73 ∨ c = 74 ∨ c = 75 ∨ c = 76 ∨ c = 77 ∨ c = 78 := by omega
      rw [← a2 c j x y hj]
      rcases hc with rfl | rfl | rfl | rfl | rfl | rfl | rfl | rfl
      · rw [r71, upd_n (by omega)]
      · rw [r72, upd_n (by omega)]
      · rw [r73, upd_n (by omega)]
      · rw [r74, upd_n (by omega)]
      · rw [r75, upd_n (by omega)]
      · rw [r76, upd_n (by omega)]
      · rw [r77, upd_n (by omega)]
      · rw [r78, upd_n (by omega)]
    · by_cases q : n = i
      · subst q
        unfold k1
        rw [r71, r72, r73, r74, r75, r76, r77, r78, upd_s, upd_s, upd_s, upd_s, upd_s, upd_s, upd_s, upd_s, a2 71 _ (by decide) (by decide) (by omega), a2 72 _ (by decide) (by decide) (by omega), a2 73 _ (by decide) (by decide) (by omega), a2 74 _ (by decide) (by decide) (by omega), a2 75 _ (by decide) (by decide) (by omega), a2 76 _ (by decide) (by decide) (by omega), a2 77 _ (by decide) (by decide) (by omega), a2 78 _ (by decide) (by decide) (by omega)]
        exact ⟨rfl, rfl, rfl, rfl, rfl, rfl, rfl, rfl⟩
      · have := a3 n (by omega)
        unfold k1 at this ⊢
        rw [r71, r72, r73, r74, r75, r76, r77, r78, upd_n q, upd_n q, upd_n q, upd_n q, upd_n q, upd_n q, upd_n q, upd_n q]
        exact this) (fun b hP => by
    dsimp only
    unfold g187_14b
    have h70b : b 70 1 = Int32.ofNat N := by
      rw [hP.1 70 (by decide)]
      show xh_ui s 70 0 (s 70 1) 70 1 = _
      rw [xu_n (by decide)]; exact h70
    rw [h70b, if_pos (Int32.le_refl _)]) N 1000 0 s0 (by omega) (by omega) ⟨fun _ _ => rfl, fun _ _ _ _ _ => rfl, fun n hn => absurd hn (Nat.not_lt_zero _)⟩
  obtain ⟨b', e', q1, q2, q3⟩ := L2 b1 (by rw [p1 53 (by decide)]; exact h31) (by rw [p1 53 (by decide)]; exact h32)
  refine ⟨b', by unfold g187 g187_14; exact e.trans e', fun c hc => ?_, ?_, fun i hi => ?_, fun i hi => ?_, fun i hi => ?_⟩
  · rw [q1 c (by omega), p1 c (by omega)]
    show xh_ui s 70 0 (s 70 1) c = _
    rw [xu_o (by omega)]
  · rw [q1 70 (by decide), p1 70 (by decide)]
    show xh_ui s 70 0 (s 70 1) 70 0 = _
    rw [xu_s]; exact h70
  · have := p3 i hi
    unfold k1 at this ⊢
    rw [q1 71 (by decide), q1 72 (by decide), q1 73 (by decide), q1 74 (by decide), q1 75 (by decide), q1 76 (by decide), q1 77 (by decide), q1 78 (by decide)]
    exact this
  · have := q2 i hi
    unfold k2 at this ⊢
    rw [p1 79 (by decide), p1 80 (by decide), p1 81 (by decide), p1 82 (by decide), p1 83 (by decide)] at this
    exact this
  · rw [q3 i hi, p1 84 (by decide)]
    rfl
/-- the reference's rows of a node in force -/
def jN1 (N M D : Nat) (r : xN) (s : xS) : Prop := s 71 N = r.1 ∧ s 72 N = pv r.2.1 ∧ s 73 N = Int32.ofNat M ∧ s 74 N = Int32.ofNat (M + r.2.2.2.2.2.1.length) ∧ (isr r.1 = true → s 75 N = Int32.ofNat D ∧ s 76 N = Int32.ofNat (D + dtp M r)) ∧
  s 77 N = (if r.1 = 100 then 0 else r.2.2.1) ∧ s 78 N = (if r.1 = 112 then 0 else r.2.2.2.1) ∧
  (∀ q t, r.2.2.2.2.2.1[q]? = some t → s 79 (M + q) = t.1.1 ∧ s 80 (M + q) = t.1.2.1 ∧ s 81 (M + q) = t.1.2.2 ∧ s 82 (M + q) = vp_nar .boolean t.2.1 ∧ s 83 (M + q) = vp_nar .boolean t.2.2) ∧
  (∀ q t, r.2.2.2.2.2.2.2.1[q]? = some t → s 79 (M + r.2.2.2.2.2.1.length + q) = t.1 ∧ s 80 (M + r.2.2.2.2.2.1.length + q) = t.2.1 ∧ s 81 (M + r.2.2.2.2.2.1.length + q) = t.2.2) ∧
  ∀ q d, (r.2.2.2.2.2.2.2.2 (M + r.2.2.2.2.2.1.length))[q]? = some d → s 84 (D + q) = dsh d
def jNs : Nat → Nat → Nat → List xN → xS → Prop
  | _, _, _, [], _ => True
  | N, M, D, r :: rs, s => jN1 N M D r s ∧ jNs (N + 1) (M + mtp r) (D + dtp M r) rs s
theorem x_sub100 {n : Nat} : Int32.ofNat (100 + n) - 100 = Int32.ofNat n := by
  rw [Nat.add_comm, Int32.ofNat_add]
  exact Int32.add_sub_cancel _ _
theorem x_sub300 {n : Nat} : Int32.ofNat (300 + n) - 300 = Int32.ofNat n := by
  rw [Nat.add_comm, Int32.ofNat_add]
  exact Int32.add_sub_cancel _ _
theorem x_sub40 {n : Nat} : Int32.ofNat (40 + n) - 40 = Int32.ofNat n := by
  rw [Nat.add_comm, Int32.ofNat_add]
  exact Int32.add_sub_cancel _ _
theorem x80n : ∀ m, m < 80 → ¬ Int32.ofNat m = -1 := by decide
theorem jNs_of {s s' : xS} {N0 M0 D0 : Nat} (h1 : ∀ i, i < N0 → k1 i s s') (h2 : ∀ i, i < M0 → k2 i s s') (h3 : ∀ i, i < D0 → s' 84 i = dsh (s 84 (300 + i))) : ∀ (rs : List xN) (N M D : Nat), (∀ (q : Nat) (r : xN), rs[q]? = some r → ∀ m, r.2.1 = some m → m < 40) → N + rs.length ≤ N0 → M + tM rs ≤ M0 → D + tDn M rs ≤ D0 → rNs N M D rs s → jNs N M D rs s'
  | [], _, _, _, _, _, _, _, _ => trivial
  | r :: rs, N, M, D, hp, hN, hM, hD, h => by
    rw [List.length_cons] at hN
    rw [tM] at hM
    rw [tDn] at hD
    obtain ⟨⟨a1, a2, a3, a4, a5, a6, a7, a8, a9, a10⟩, hs⟩ := h
    obtain ⟨b1, b2, b3, b4, b5, b6, b7, b8⟩ := h1 N (by omega)
    refine ⟨⟨by rw [b1]; exact a1, ?_, by rw [b3, a3, x_sub100], by rw [b4, a4, Nat.add_assoc, x_sub100], fun z => ⟨by rw [b5, (a5 z).1, x_sub300], by rw [b6, (a5 z).2, Nat.add_assoc, x_sub300]⟩, by rw [b7]; exact a6, by rw [b8]; exact a7, fun q t hq => ?_, fun q t hq => ?_, fun q d hq => ?_⟩, jNs_of h1 h2 h3 rs (N + 1) (M + mtp r) (D + dtp M r) (fun q r' hq => hp (q + 1) r' hq) (by omega) (by omega) (by omega) hs⟩
    · rw [b2, a2]
      have hpar := hp 0 r rfl
      unfold ar rv pv
      cases e : r.2.1 with
      | none => exact if_pos rfl
      | some m =>
        dsimp only
        rw [if_neg (x80n _ (by have := hpar m e; omega)), x_sub40]
    · have hlt := (List.getElem?_eq_some_iff.mp hq).1
      have hm : q < mtp r := by unfold mtp; omega
      obtain ⟨c1, c2, c3, c4, c5⟩ := h2 (M + q) (by omega)
      obtain ⟨d1, d2, d3, d4, d5⟩ := a8 q t hq
      rw [c1, c2, c3, c4, c5, ← Nat.add_assoc, d1, d2, d3, d4, d5]
      exact ⟨rfl, rfl, rfl, rfl, rfl⟩
    · have hlt := (List.getElem?_eq_some_iff.mp hq).1
      have hm : r.2.2.2.2.2.1.length + q < mtp r := by unfold mtp; omega
      obtain ⟨c1, c2, c3, c4, c5⟩ := h2 (M + r.2.2.2.2.2.1.length + q) (by omega)
      obtain ⟨d1, d2, d3⟩ := a9 q t hq
      rw [c1, c2, c3, ← Nat.add_assoc, ← Nat.add_assoc, d1, d2, d3]
      exact ⟨rfl, rfl, rfl⟩
    · have hlt : q < dtp M r := (List.getElem?_eq_some_iff.mp hq).1
      rw [h3 _ (by omega), ← Nat.add_assoc, a10 q d hq]
