/-! senior, unsenior, assign, withdraw -/
theorem x_and1 (y : Int32) : y &&& 1 = 0 ∨ y &&& 1 = 1 := by
  have e1 : (1 : Int32).toBitVec = 1#32 := rfl
  rw [← Int32.toBitVec_inj, ← Int32.toBitVec_inj, Int32.toBitVec_and, e1, BitVec.and_one_eq_setWidth_ofBool_getLsbD]
  cases y.toBitVec.getLsbD 0
  · exact Or.inl (by decide)
  · exact Or.inr (by decide)
section Xlo2
variable {α β ρ : Type} {f : α → Option (α ⊕ ρ)}
/-- a loop that counts up to N and keeps P -/
theorem xlo_forP (st : Nat → β → α) (N : Nat) (P : Nat → β → Prop) (fin : β → ρ) (hs : ∀ i b, i < N → P i b → ∃ b', f (st i b) = some (.inl (st (i + 1) b')) ∧ P (i + 1) b') (he : ∀ b, P N b → f (st N b) = some (.inr (fin b))) :
    ∀ (k n i : Nat) (b : β), i + k = N → k < n → P i b → ∃ b', xlo f n (st i b) = some (fin b') ∧ P N b'
  | _, 0, _, _, _, hn, _ => absurd hn (Nat.not_lt_zero _)
  | 0, n + 1, i, b, hi, _, hP => by
    rw [Nat.add_zero] at hi
    subst hi
    exact ⟨b, xlo_end (he b hP), hP⟩
  | k + 1, n + 1, i, b, hi, hn, hP => by
    obtain ⟨b1, h1, h2⟩ := hs i b (by omega) hP
    obtain ⟨b2, h3, h4⟩ := xlo_forP st N P fin hs he k n (i + 1) b1 (by omega) (by omega) h2
    exact ⟨b2, by rw [xlo_step h1, h3], h4⟩
end Xlo2
/-- a whole row set -/
def xset (σ : xS) (a : Nat) (r : Nat → Int32) : xS := fun b => if b = a then r else σ b
theorem xset_s (σ : xS) (a : Nat) (r : Nat → Int32) : xset σ a r a = r := by unfold xset; rw [if_pos rfl]
theorem xset_id (σ : xS) (a : Nat) : xset σ a (σ a) = σ := funext fun b => by
  unfold xset
  by_cases h : b = a
  · rw [if_pos h, h]
  · rw [if_neg h]
theorem xset_ui (σ : xS) (a : Nat) (r : Nat → Int32) (i : Nat) (v : Int32) : xh_ui (xset σ a r) a i v = xset σ a (upd r i v) := funext fun b => by
  unfold xh_ui xset
  by_cases h : b = a
  · rw [if_pos h, if_pos h, if_pos h]
  · rw [if_neg h, if_neg h, if_neg h]
theorem wFr_set {σ σ' : xS} {a : Nat} {r : Nat → Int32} (h : wFr σ σ') (ha : a < 23 ∨ (46 < a ∧ a < 70) ∨ 84 < a) : wFr σ (xset σ' a r) := fun c hc => by
  unfold xset; rw [if_neg (by omega)]; exact h c hc
/-- what is left active, class -/
def wdc (σ : xS) (n : Nat) : Nat → Int32 := fun j => if j < n ∧ ¬ σ 8 j = -1 then σ 9 j &&& wk (σ 2) 11 (σ 4 (Int32.toNatClampNeg (σ 8 j))) else σ 9 j
def wdr (σ : xS) (n : Nat) : Nat → Int32 := fun j => if j < n ∧ ¬ σ 58 j = 0 then σ 60 j &&& wc (σ 54) (σ 55 (Int32.toNatClampNeg (σ 59 j))) else σ 60 j
theorem wdc_0 (σ : xS) : wdc σ 0 = σ 9 := funext fun j => if_neg (fun h => Nat.not_lt_zero _ h.1)
theorem wdr_0 (σ : xS) : wdr σ 0 = σ 60 := funext fun j => if_neg (fun h => Nat.not_lt_zero _ h.1)
theorem wdc_n (σ : xS) {i : Nat} (h : σ 8 i = -1) : wdc σ (i + 1) = wdc σ i := funext fun j => by
  unfold wdc
  by_cases hj : j < i
  · by_cases ho : σ 8 j = -1
    · rw [if_neg (fun q => q.2 ho), if_neg (fun q => q.2 ho)]
    · rw [if_pos ⟨Nat.lt_succ_of_lt hj, ho⟩, if_pos ⟨hj, ho⟩]
  · have hn : ¬ (j < i + 1 ∧ ¬ σ 8 j = -1) := fun q => q.2 (by rw [show j = i by have := q.1; omega]; exact h)
    rw [if_neg hn, if_neg (fun q => hj q.1)]
theorem wdr_n (σ : xS) {i : Nat} (h : σ 58 i = 0) : wdr σ (i + 1) = wdr σ i := funext fun j => by
  unfold wdr
  by_cases hj : j < i
  · by_cases ho : σ 58 j = 0
    · rw [if_neg (fun q => q.2 ho), if_neg (fun q => q.2 ho)]
    · rw [if_pos ⟨Nat.lt_succ_of_lt hj, ho⟩, if_pos ⟨hj, ho⟩]
  · have hn : ¬ (j < i + 1 ∧ ¬ σ 58 j = 0) := fun q => q.2 (by rw [show j = i by have := q.1; omega]; exact h)
    rw [if_neg hn, if_neg (fun q => hj q.1)]
theorem wdc_y (σ : xS) {i : Nat} (h : ¬ σ 8 i = -1) : wdc σ (i + 1) = upd (wdc σ i) i (wdc σ i i &&& wk (σ 2) 11 (σ 4 (Int32.toNatClampNeg (σ 8 i)))) := funext fun j => by
  by_cases hji : j = i
  · subst hji
    rw [upd_s]
    unfold wdc
    rw [if_pos ⟨Nat.lt_succ_self j, h⟩, if_neg (fun q => Nat.lt_irrefl _ q.1)]
  · rw [upd_n hji]
    unfold wdc
    by_cases hj : j < i ∧ ¬ σ 8 j = -1
    · rw [if_pos hj, if_pos ⟨Nat.lt_succ_of_lt hj.1, hj.2⟩]
    · rw [if_neg hj, if_neg (fun q => hj ⟨by omega, q.2⟩)]
theorem wdr_y (σ : xS) {i : Nat} (h : ¬ σ 58 i = 0) : wdr σ (i + 1) = upd (wdr σ i) i (wdr σ i i &&& wc (σ 54) (σ 55 (Int32.toNatClampNeg (σ 59 i)))) := funext fun j => by
  by_cases hji : j = i
  · subst hji
    rw [upd_s]
    unfold wdr
    rw [if_pos ⟨Nat.lt_succ_self j, h⟩, if_neg (fun q => Nat.lt_irrefl _ q.1)]
  · rw [upd_n hji]
    unfold wdr
    by_cases hj : j < i ∧ ¬ σ 58 j = 0
    · rw [if_pos hj, if_pos ⟨Nat.lt_succ_of_lt hj.1, hj.2⟩]
    · rw [if_neg hj, if_neg (fun q => hj ⟨by omega, q.2⟩)]
theorem g43_eq {σ : xS} (ho : ∀ i, i < 6 → σ 8 i = -1 ∨ ∃ u, u < 8 ∧ σ 8 i = Int32.ofNat u) : g43 σ = some (.inl 0, xset σ 9 (wdc σ 6)) := by
  unfold g43 g43_2
  obtain ⟨b, h1, h2⟩ := xlo_forP (f := fun a : Int32 × xS => g43_2b a.1 a.2) (β := Unit) (fun i _ => (Int32.ofNat i, xset σ 9 (wdc σ i))) 6 (fun _ _ => True) (fun _ => ((Sum.inl 0, xset σ 9 (wdc σ 6)) : xQ)) (fun i _ hi _ => by
    obtain ⟨h1, h2, h3, h4⟩ := x6 i hi
    refine ⟨(), ?_, trivial⟩
    dsimp only
    have e8 : xset σ 9 (wdc σ i) 8 i = σ 8 i := rfl
    rcases ho i hi with q | ⟨u, hu, q⟩
    · rw [q] at e8
      simp only [g43_2b, if_neg h1, g44, h2, cond_true, h3, e8, if_true, x00, g43_44, h4]
      rw [wdc_n σ q]
    · have hne := xo_ne u hu
      have ey := wdc_y σ (i := i) (by rw [q]; exact hne)
      rw [q] at e8
      simp only [g43_2b, if_neg h1, g44, h2, cond_true, h3, e8, if_neg hne, x10, if_false, g39_eq hu, g43_44, h4, xset_ui, xset_s]
      rw [ey, q, Int32.toNatClampNeg_ofNat_of_lt (by omega)]
      rfl) (fun _ _ => by
    dsimp only
    unfold g43_2b
    rw [if_pos (by decide)]) 6 1000 0 () rfl (by decide) trivial
  rw [wdc_0, xset_id] at h1
  exact h1
theorem g158_eq {σ : xS} (ho : ∀ i, i < 6 → σ 58 i = 0 ∨ ∃ u, u < 8 ∧ σ 59 i = Int32.ofNat u) : g158 σ = some (.inl 0, xset σ 60 (wdr σ 6)) := by
  unfold g158 g158_2
  obtain ⟨b, h1, h2⟩ := xlo_forP (f := fun a : Int32 × xS => g158_2b a.1 a.2) (β := Unit) (fun i _ => (Int32.ofNat i, xset σ 60 (wdr σ i))) 6 (fun _ _ => True) (fun _ => ((Sum.inl 0, xset σ 60 (wdr σ 6)) : xQ)) (fun i _ hi _ => by
    obtain ⟨h1, h2, h3, h4⟩ := x6 i hi
    refine ⟨(), ?_, trivial⟩
    dsimp only
    have e8 : xset σ 60 (wdr σ i) 58 i = σ 58 i := rfl
    have e9 : xset σ 60 (wdr σ i) 59 i = σ 59 i := rfl
    by_cases q0 : σ 58 i = 0
    · rw [q0] at e8
      simp only [g158_2b, if_neg h1, h2, cond_true, h3, e8, if_true, x00, g158_41, h4]
      rw [wdr_n σ q0]
    · rcases ho i hi with q | ⟨u, hu, q⟩
      · exact absurd q q0
      · have ey := wdr_y σ q0
        obtain ⟨k1, k2, k3, k4⟩ := x8 u hu
        rw [q] at e9
        simp only [g158_2b, if_neg h1, h2, cond_true, h3, e8, if_neg q0, e9, k2, k3, g153_eq, g158_41, h4, xset_ui, xset_s]
        rw [ey, q, k3]
        rfl) (fun _ _ => by
    dsimp only
    unfold g158_2b
    rw [if_pos (by decide)]) 6 1000 0 () rfl (by decide) trivial
  rw [wdr_0, xset_id] at h1
  exact h1
theorem wM_1 : ∀ j, j < 12 → wM (1 <<< (Int32.ofNat j &&& 31)) := fun j hj => by
  have : ∀ j, j < 12 → 0 ≤ (1 : Int32) <<< (Int32.ofNat j &&& 31) ∧ (1 : Int32) <<< (Int32.ofNat j &&& 31) < 4096 := by decide
  exact wM_of (this j hj).1 (this j hj).2
/-- sessions after the lost roles are dropped: class and reference, U the juniors and G the roles given -/
theorem wKC_drop {σ s : xS} (hC : wKC σ) (hU : ∀ i, i < 12 → wM (s 2 i)) (hG : ∀ i, i < 8 → wM (s 4 i)) (e2 : s 2 = s 54) (e4 : s 4 = s 55) (r58 : s 58 = σ 58) (r8 : s 8 = σ 8) (r10 : s 10 = σ 10) (r59 : s 59 = σ 59) (r61 : s 61 = σ 61) (r9 : s 9 = fun j => if j < 6 ∧ ¬ σ 8 j = -1 then σ 9 j &&& wk (s 2) 11 (s 4 (Int32.toNatClampNeg (σ 8 j))) else σ 9 j) (r60 : s 60 = fun j => if j < 6 ∧ ¬ σ 58 j = 0 then σ 60 j &&& wc (s 54) (s 55 (Int32.toNatClampNeg (σ 59 j))) else σ 60 j) : wKC s := by
  intro j hj
  rw [r58, r8, r10, r59, r61, r9, r60]
  rcases hC j hj with ⟨c1, c2, c3⟩ | ⟨c1, c2, c3, c4, w, c5, c6, c7⟩
  · refine Or.inl ⟨c1, c2, ?_⟩
    dsimp only
    rw [if_neg (fun q => q.2 c2)]
    exact c3
  · have hne : ¬ σ 8 j = -1 := by rw [c6]; exact xo_ne w c5
    have hn0 : ¬ σ 58 j = 0 := by rw [c1]; decide
    obtain ⟨k1, k2, k3, k4⟩ := x8 w c5
    refine Or.inr ⟨c1, ?_, ?_, c4, w, c5, c6, c7⟩
    · dsimp only
      rw [if_pos ⟨hj, hne⟩, if_pos ⟨hj, hn0⟩, c6, c7, k3, wk_wc hU (hG w c5), c2, e2, e4]
    · dsimp only
      rw [if_pos ⟨hj, hne⟩]
      exact wM_and c3
/-- unsenior -/
theorem op1 {t : Nat} {σ : xS} (h : wK t σ) (a b : Int32) (τ : xT) : wOv (g41 a b) (g157 a b) t σ τ := by
  by_cases ha : 0 ≤ a ∧ a < 12
  · by_cases hb : 0 ≤ b ∧ b < 12
    · obtain ⟨i, hi, rfl⟩ := x_below (by decide) ha.1 ha.2
      obtain ⟨j, hj, rfl⟩ := x_below (by decide) hb.1 hb.2
      obtain ⟨h1, h2, h3, h4⟩ := x12 i hi
      by_cases hbit : (σ 2 i >>> (Int32.ofNat j &&& 31)) &&& 1 = 1
      · obtain ⟨hA, hB, hC, hD, hE, hF, hG, hH⟩ := h
        let s1 : xS := xh_ui σ 2 i (σ 2 i &&& ((1 <<< (Int32.ofNat j &&& 31)) ^^^ (-1)))
        let s2 : xS := xset s1 9 (wdc s1 6)
        let s3 : xS := xh_ui (xh_ui s2 53 21 0) 54 i (s2 54 i &&& ((1 <<< (Int32.ofNat j &&& 31)) ^^^ (-1)))
        let s4 : xS := xset s3 60 (wdr s3 6)
        have ho1 : ∀ i, i < 6 → s1 8 i = -1 ∨ ∃ u, u < 8 ∧ s1 8 i = Int32.ofNat u := fun i hi => by
          rcases hC i hi with ⟨c1, c2, c3⟩ | ⟨c1, c2, c3, c4, w, c5, c6, c7⟩
          · exact Or.inl c2
          · exact Or.inr ⟨w, c5, c6⟩
        have ho3 : ∀ i, i < 6 → s3 58 i = 0 ∨ ∃ u, u < 8 ∧ s3 59 i = Int32.ofNat u := fun i hi => by
          rcases hC i hi with ⟨c1, c2, c3⟩ | ⟨c1, c2, c3, c4, w, c5, c6, c7⟩
          · exact Or.inl c1
          · exact Or.inr ⟨w, c5, c7⟩
        have hU : ∀ k, k < 12 → wM (s4 2 k) := fun k hk => by
          show wM (upd (σ 2) i _ k)
          by_cases q : k = i
          · subst q; rw [upd_s]; exact wM_and (hA.2 k hk)
          · rw [upd_n q]; exact hA.2 k hk
        have e2 : s4 2 = s4 54 := by
          show upd (σ 2) i (σ 2 i &&& _) = upd (σ 54) i (σ 54 i &&& _)
          rw [hA.1]
        refine ⟨0, s2, τ, 0, s4, ?_, ?_, rfl, ⟨⟨e2, hU⟩, hB, ?_, hD, hE, hF, hG, wKH_s hH⟩, ?_⟩
        · simp only [g41, g42, g24_eq, decide_eq_true ha, decide_eq_true hb, xb_t, x10, if_false, g42_19, g26_1, g27, h2, cond_true, h3, g28_eq, decide_eq_true hbit, true_or, or_true, decide_true, g31_1, g40]
          rw [g43_eq ho1]
        · have hb0 : ¬ (s2 54 i >>> (Int32.ofNat j &&& 31)) &&& 1 = 0 := by
            show ¬ (σ 54 i >>> (Int32.ofNat j &&& 31)) &&& 1 = 0
            rw [← hA.1, hbit]; decide
          have e3 : g158 s3 = some (.inl 0, s4) := g158_eq ho3
          simp only [g157, g151, g152_eq, decide_eq_true ha, decide_eq_true hb, xb_t, x10, if_false, h2, cond_true, h3, if_neg hb0, g157_31, xu_s, q54, x00, if_true]
          rw [show g158 (xh_ui (xh_ui s2 53 21 0) 54 i (s2 54 i &&& ((1 <<< (Int32.ofNat j &&& 31)) ^^^ (-1)))) = _ from e3]
        · exact wKC_drop hC hU hB.2.1 e2 hB.1 rfl rfl rfl rfl rfl rfl rfl
        · exact wFr_set (wFr_ui (wFr_ui (wFr_set (wFr_ui (wFr_refl σ) (by decide)) (by decide)) (by decide)) (by decide)) (by decide)
      · refine ⟨2, σ, τ, 0, xh_ui σ 53 21 2, ?_, ?_, rfl, wK_say h 2, wFr_say σ 2⟩
        · simp only [g41, g42, g24_eq, decide_eq_true ha, decide_eq_true hb, xb_t, x10, if_false, g42_19, g26_1, g27, h2, cond_true, h3, g28_eq, decide_eq_false hbit, xb_f, true_or, decide_true, g31_0, n10, n11, if_true]
        · have hb0 : (σ 54 i >>> (Int32.ofNat j &&& 31)) &&& 1 = 0 := by
            rw [← h.1.1]; exact (x_and1 _).resolve_right hbit
          simp only [g157, g151, g152_eq, decide_eq_true ha, decide_eq_true hb, xb_t, x10, if_false, h2, cond_true, h3, hb0, x00, if_true, g157_31, xu_s, x20]
    · refine ⟨1, σ, τ, 0, xh_ui σ 53 21 1, ?_, ?_, rfl, wK_say h 1, wFr_say σ 1⟩
      · simp only [g41, g42, g24_eq, decide_eq_true ha, decide_eq_false hb, xb_t, xb_f, x10, if_false, x00, if_true, g42_18, g42_19, g26_0, n00]
      · simp only [g157, g151, g152_eq, decide_eq_true ha, decide_eq_false hb, xb_t, xb_f, x10, if_false, x00, if_true, g157_31, xu_s]
  · refine ⟨1, σ, τ, 0, xh_ui σ 53 21 1, ?_, ?_, rfl, wK_say h 1, wFr_say σ 1⟩
    · simp only [g41, g42, g24_eq, decide_eq_false ha, xb_f, x00, if_true, g42_18, g42_19, g26_0, n00]
    · simp only [g157, g151, g152_eq, decide_eq_false ha, xb_f, x00, if_true, g157_31, xu_s, x10, if_false]
/-- withdraw -/
theorem op3 {t : Nat} {σ : xS} (h : wK t σ) (a b : Int32) (τ : xT) : wOv (g51 a b) (g160 a b) t σ τ := by
  by_cases ha : 0 ≤ a ∧ a < 8
  · by_cases hb : 0 ≤ b ∧ b < 12
    · obtain ⟨i, hi, rfl⟩ := x_below (by decide) ha.1 ha.2
      obtain ⟨j, hj, rfl⟩ := x_below (by decide) hb.1 hb.2
      obtain ⟨h1, h2, h3, h4⟩ := x8 i hi
      by_cases hbit : (σ 4 i >>> (Int32.ofNat j &&& 31)) &&& 1 = 1
      · obtain ⟨hA, hB, hC, hD, hE, hF, hG, hH⟩ := h
        let s1 : xS := xh_ui σ 4 i (σ 4 i &&& ((1 <<< (Int32.ofNat j &&& 31)) ^^^ (-1)))
        let s2 : xS := xset s1 9 (wdc s1 6)
        let s3 : xS := xh_ui (xh_ui s2 53 21 0) 55 i (s2 55 i &&& ((1 <<< (Int32.ofNat j &&& 31)) ^^^ (-1)))
        let s4 : xS := xset s3 60 (wdr s3 6)
        have ho1 : ∀ i, i < 6 → s1 8 i = -1 ∨ ∃ u, u < 8 ∧ s1 8 i = Int32.ofNat u := fun i hi => by
          rcases hC i hi with ⟨c1, c2, c3⟩ | ⟨c1, c2, c3, c4, w, c5, c6, c7⟩
          · exact Or.inl c2
          · exact Or.inr ⟨w, c5, c6⟩
        have ho3 : ∀ i, i < 6 → s3 58 i = 0 ∨ ∃ u, u < 8 ∧ s3 59 i = Int32.ofNat u := fun i hi => by
          rcases hC i hi with ⟨c1, c2, c3⟩ | ⟨c1, c2, c3, c4, w, c5, c6, c7⟩
          · exact Or.inl c1
          · exact Or.inr ⟨w, c5, c7⟩
        have hU : ∀ k, k < 8 → wM (s4 4 k) := fun k hk => by
          show wM (upd (σ 4) i _ k)
          by_cases q : k = i
          · subst q; rw [upd_s]; exact wM_and (hB.2.1 k hk)
          · rw [upd_n q]; exact hB.2.1 k hk
        have e4 : s4 4 = s4 55 := by
          show upd (σ 4) i (σ 4 i &&& _) = upd (σ 55) i (σ 55 i &&& _)
          rw [hB.1]
        refine ⟨0, s2, τ, 0, s4, ?_, ?_, rfl, ⟨hA, ⟨e4, hU, hB.2.2⟩, ?_, hD, hE, hF, hG, wKH_s hH⟩, ?_⟩
        · simp only [g51, g52, g47_eq, g24_eq, decide_eq_true ha, decide_eq_true hb, xb_t, x10, if_false, g52_19, g26_1, g48, h2, cond_true, h3, g28_eq, decide_eq_true hbit, true_or, or_true, decide_true, g31_1, g50]
          rw [g43_eq ho1]
        · have hb0 : ¬ (s2 55 i >>> (Int32.ofNat j &&& 31)) &&& 1 = 0 := by
            show ¬ (σ 55 i >>> (Int32.ofNat j &&& 31)) &&& 1 = 0
            rw [← hB.1, hbit]; decide
          have e3 : g158 s3 = some (.inl 0, s4) := g158_eq ho3
          simp only [g160, g152_eq, decide_eq_true ha, decide_eq_true hb, xb_t, x10, if_false, h2, cond_true, h3, if_neg hb0, g160_41, xu_s, q55, x00, if_true]
          rw [show g158 (xh_ui (xh_ui s2 53 21 0) 55 i (s2 55 i &&& ((1 <<< (Int32.ofNat j &&& 31)) ^^^ (-1)))) = _ from e3]
        · exact wKC_drop hC hA.2 hU hA.1 e4 rfl rfl rfl rfl rfl rfl rfl
        · exact wFr_set (wFr_ui (wFr_ui (wFr_set (wFr_ui (wFr_refl σ) (by decide)) (by decide)) (by decide)) (by decide)) (by decide)
      · refine ⟨2, σ, τ, 0, xh_ui σ 53 21 2, ?_, ?_, rfl, wK_say h 2, wFr_say σ 2⟩
        · simp only [g51, g52, g47_eq, g24_eq, decide_eq_true ha, decide_eq_true hb, xb_t, x10, if_false, g52_19, g26_1, g48, h2, cond_true, h3, g28_eq, decide_eq_false hbit, xb_f, true_or, decide_true, g31_0, n10, n11, if_true]
        · have hb0 : (σ 55 i >>> (Int32.ofNat j &&& 31)) &&& 1 = 0 := by
            rw [← h.2.1.1]; exact (x_and1 _).resolve_right hbit
          simp only [g160, g152_eq, decide_eq_true ha, decide_eq_true hb, xb_t, x10, if_false, h2, cond_true, h3, hb0, x00, if_true, g160_41, xu_s, x20]
    · refine ⟨1, σ, τ, 0, xh_ui σ 53 21 1, ?_, ?_, rfl, wK_say h 1, wFr_say σ 1⟩
      · simp only [g51, g52, g47_eq, g24_eq, decide_eq_true ha, decide_eq_false hb, xb_t, xb_f, x10, if_false, x00, if_true, g52_18, g52_19, g26_0, n00]
      · simp only [g160, g152_eq, decide_eq_true ha, decide_eq_false hb, xb_t, xb_f, x10, if_false, x00, if_true, g160_19, g160_41, xu_s]
  · refine ⟨1, σ, τ, 0, xh_ui σ 53 21 1, ?_, ?_, rfl, wK_say h 1, wFr_say σ 1⟩
    · simp only [g51, g52, g47_eq, decide_eq_false ha, xb_f, x00, if_true, g52_18, g52_19, g26_0, n00]
    · simp only [g160, g152_eq, decide_eq_false ha, xb_f, x00, if_true, g160_19, g160_41, xu_s, x10, if_false]
