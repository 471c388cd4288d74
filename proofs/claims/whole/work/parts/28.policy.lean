/-! exchange and policy: the plans change places -/
theorem xw_agree {Ω : xo_O} {H : Heap} {h h' : xh_H} (hn : h'.1.2 = h.1.2) (hf : h'.1.1 = true → h.1.1 = true) (he : ∀ (cA : Nat → ClassId) (z : Nat × Nat) (i : Nat), i < h.1.2 → xw_e cA z h' i (xz_k i) = xw_e cA z h i (xz_k i)) (w : xw Ω h H) : xw Ω h' H := by
  obtain ⟨w1, w2, w3, w4, w5⟩ := w
  refine ⟨?_, w2, by rw [hn]; exact w3, fun q => by rw [hn]; exact w4 (hf q), w5⟩
  have : xw_ws (xo_c Ω) (xo_z Ω) h' = xw_ws (xo_c Ω) (xo_z Ω) h := by
    unfold xw_ws
    rw [hn]
    apply List.map_congr_left
    intro i hi
    rw [he _ _ i (List.mem_range.mp hi)]
  rw [this]
  exact w1
/-- the result's heap, said otherwise -/
theorem xv_res {l : Launch} {Ω : xo_O} {d kc ks M pc : Nat} {L : List (Option Value)} {K : List Value} {h h1 h2 : xh_H} {o : Option Value ⊕ String} (hw : ∀ H, xw Ω h1 H → xw Ω h2 H) (k : xv l Ω d kc ks M pc L K h (o, h1)) : xv l Ω d kc ks M pc L K h (o, h2) := by
  intro p e R s m args below meth c H locs cells slots ls C0 w hlo hR hL T hT X
  obtain ⟨t, a1, o', b1, b2, b3, L9, b4, b5, b6⟩ := k p e R s m args below meth c H locs cells slots ls C0 w hlo hR hL T hT X
  exact ⟨t, a1, o', b1, b2, ⟨hw _ b3.1, b3.2⟩, L9, b4, b5, b6⟩
def xx_oks (f g : Nat → Nat → Nat) : Prop := ∀ i, i < 93 → (xz_k i).1 = 0 → ∀ k, k < (xz_f (xz_k i).2).length → (xz_f (xz_k i).2)[k]? = some true → f i k = g i k
theorem xw_refs {Ω : xo_O} {H : Heap} {b : Bool} {σ : xS} {τ : Nat → Nat → Int64} {f g : Nat → Nat → Nat} (hr : xx_oks f g) (w : xw Ω ((b, 93), σ, g, τ) H) : xw Ω ((b, 93), σ, f, τ) H := by
  refine xw_agree (h := ((b, 93), σ, g, τ)) rfl (fun q => q) (fun cA z i hi => ?_) w
  cases hq : xz_k i with
  | mk a c =>
    match a, hq with
    | 0, hq =>
      have := hr i hi (by rw [hq])
      rw [hq] at this
      exact congrArg (fun q => (Sum.inr (c, q) : va_E)) (xw_f_eq fun k hk => this k (List.getElem?_eq_some_iff.mp hk).1 hk)
    | 1, hq => rfl
    | 2, hq => rfl
    | 3, hq => rfl
    | a + 4, hq => rfl
def g87 (p : Nat) (σ : xS) : Option ((Int32 ⊕ Nat) × xS × Nat) := match g88 p σ with
  | some (Sum.inl v, s) => if v = (-1) then some (Sum.inl (xh_ui s 0 8 v p 7), xh_ui s 0 8 v, 59 - p) else some (Sum.inr 0, xh_ui s 0 8 v, p)
  | some (Sum.inr _, _) => none
  | none => none
def xq_P (τ : Nat → Nat → Int64) (q : (Int32 ⊕ Nat) × xS × Nat) : xv_R := (match q.1 with
  | .inl v => .inl (some (.int v))
  | .inr c => .inr (xq_C c), hM q.2.2 q.2.1 τ)
theorem xx_swap_36 : xx_oks (xr_ho 36) (xh_ur (xh_ur (xr_ho 23) 20 1 37) 34 1 24) := by unfold xx_oks; decide +kernel
theorem g110_run_23 {l : Launch} {Ω : xo_O} (htr : xH l) (d : Nat) (τ : Nat → Nat → Int64) (σ : xS) : xv l Ω d 0 0 110 0 (xs_loc (xm_l 110) [.ref 20, .ref 36]) [] (hM 23 σ τ) (.inl (some (.ref 23)), ((false, 93), σ, xh_ur (xr_ho 23) 20 1 37, τ)) :=
  xp_ok htr 8 d 0 0 [] 110 0 _ _ _ ⟨trivial, rfl⟩
theorem g87_run_23 {l : Launch} {Ω : xo_O} (htr : xH l) (d : Nat) (τ : Nat → Nat → Int64) (σ : xS) {q : (Int32 ⊕ Nat) × xS × Nat} (hq : g87 23 σ = some q) : xv l Ω (d + 210) 1 6 87 0 (xs_loc (xm_l 87) [.ref 0]) [] (hM 23 σ τ) (xq_P τ q) := by
  unfold g87 at hq
  cases q3 : g88 23 σ with
  | none => rw [q3] at hq; cases hq
  | some q30 =>
    have hc := g88_run_23 (Ω := Ω) htr d τ σ q3
    obtain ⟨v | v, s⟩ := q30
    · rw [q3] at hq; dsimp only at hq
      show xv l Ω (d + 210) 1 6 87 0 [some (.ref 0)] [] (hM 23 σ τ) (xq_P τ q)
      refine xp_ok htr 4 (d + 210) 1 6 [eC (some (.int v)) (hM 23 s τ)] 87 0 [some (.ref 0)] [] (hM 23 σ τ) ⟨hc, ?_⟩
      show xv l Ω (d + 210) 1 6 87 8 [some (.ref 0)] [.int v, .ref 0] (hM 23 s τ) (xq_P τ q)
      by_cases hv : v = (-1)
      · rw [if_pos hv] at hq; cases hq
        have h26 : g26 1 (xh_ui s 0 8 v) = some (Sum.inl 0, xh_ui s 0 8 v) := by unfold g26; rw [if_neg (by decide)]
        have hc2 := g26_run (Ω := Ω) htr (d + 203) 23 τ 1 (xh_ui s 0 8 v) h26
        refine xp_ok htr 5 (d + 210) 1 6 [eB false] 87 8 [some (.ref 0)] [.int v, .ref 0] (hM 23 s τ) ⟨hv, ?_⟩
        show xv l Ω (d + 210) 1 6 87 19 [some (.ref 0)] [] (hM 23 (xh_ui s 0 8 v) τ) _
        refine xp_ok htr 3 (d + 210) 1 6 [eN none (hM 23 (xh_ui s 0 8 v) τ) 1 6] 87 19 [some (.ref 0)] [] (hM 23 (xh_ui s 0 8 v) τ) ⟨hc2, ?_⟩
        show xv l Ω (d + 210) 0 0 87 27 [some (.ref 0)] [] (hM 23 (xh_ui s 0 8 v) τ) _
        refine xv_res (h1 := ((false, 93), xh_ui s 0 8 v, xh_ur (xh_ur (xr_ho 23) 20 1 37) 34 1 24, τ)) (fun H w => xw_refs (g := xh_ur (xh_ur (xr_ho 23) 20 1 37) 34 1 24) xx_swap_36 w) ?_
        have hc3 := g110_run_23 (Ω := Ω) htr (d + 209) τ (xh_ui s 0 8 v)
        refine xp_ok htr 8 (d + 210) 0 0 [eC (some (.ref 23)) ((false, 93), xh_ui s 0 8 v, xh_ur (xr_ho 23) 20 1 37, τ)] 87 27 [some (.ref 0)] [] (hM 23 (xh_ui s 0 8 v) τ) ⟨hc3, ?_⟩
        show xv l Ω (d + 210) 0 0 87 45 [some (.ref 0)] [.ref 23, .ref 34] ((false, 93), xh_ui s 0 8 v, xh_ur (xr_ho 23) 20 1 37, τ) _
        exact xp_ok htr 6 (d + 210) 0 0 [] 87 45 [some (.ref 0)] [.ref 23, .ref 34] ((false, 93), xh_ui s 0 8 v, xh_ur (xr_ho 23) 20 1 37, τ) ⟨trivial, rfl⟩
      · rw [if_neg hv] at hq; cases hq
        have h26 : g26 0 (xh_ui s 0 8 v) = some (Sum.inr 0, xh_ui s 0 8 v) := by unfold g26; rw [if_pos rfl]
        have hc2 := g26_run (Ω := Ω) htr (d + 203) 23 τ 0 (xh_ui s 0 8 v) h26
        refine xp_ok htr 5 (d + 210) 1 6 [eB true] 87 8 [some (.ref 0)] [.int v, .ref 0] (hM 23 s τ) ⟨hv, ?_⟩
        show xv l Ω (d + 210) 1 6 87 23 [some (.ref 0)] [] (hM 23 (xh_ui s 0 8 v) τ) _
        exact xp_ok htr 2 (d + 210) 1 6 [eT 0 (hM 23 (xh_ui s 0 8 v) τ) 1 6] 87 23 [some (.ref 0)] [] (hM 23 (xh_ui s 0 8 v) τ) ⟨hc2, rfl⟩
    · rw [q3] at hq; cases hq
theorem xx_swap_23 : xx_oks (xr_ho 23) (xh_ur (xh_ur (xr_ho 36) 20 1 24) 34 1 37) := by unfold xx_oks; decide +kernel
theorem g110_run_36 {l : Launch} {Ω : xo_O} (htr : xH l) (d : Nat) (τ : Nat → Nat → Int64) (σ : xS) : xv l Ω d 0 0 110 0 (xs_loc (xm_l 110) [.ref 20, .ref 23]) [] (hM 36 σ τ) (.inl (some (.ref 36)), ((false, 93), σ, xh_ur (xr_ho 36) 20 1 24, τ)) :=
  xp_ok htr 8 d 0 0 [] 110 0 _ _ _ ⟨trivial, rfl⟩
theorem g87_run_36 {l : Launch} {Ω : xo_O} (htr : xH l) (d : Nat) (τ : Nat → Nat → Int64) (σ : xS) {q : (Int32 ⊕ Nat) × xS × Nat} (hq : g87 36 σ = some q) : xv l Ω (d + 210) 1 6 87 0 (xs_loc (xm_l 87) [.ref 0]) [] (hM 36 σ τ) (xq_P τ q) := by
  unfold g87 at hq
  cases q3 : g88 36 σ with
  | none => rw [q3] at hq; cases hq
  | some q30 =>
    have hc := g88_run_36 (Ω := Ω) htr d τ σ q3
    obtain ⟨v | v, s⟩ := q30
    · rw [q3] at hq; dsimp only at hq
      show xv l Ω (d + 210) 1 6 87 0 [some (.ref 0)] [] (hM 36 σ τ) (xq_P τ q)
      refine xp_ok htr 4 (d + 210) 1 6 [eC (some (.int v)) (hM 36 s τ)] 87 0 [some (.ref 0)] [] (hM 36 σ τ) ⟨hc, ?_⟩
      show xv l Ω (d + 210) 1 6 87 8 [some (.ref 0)] [.int v, .ref 0] (hM 36 s τ) (xq_P τ q)
      by_cases hv : v = (-1)
      · rw [if_pos hv] at hq; cases hq
        have h26 : g26 1 (xh_ui s 0 8 v) = some (Sum.inl 0, xh_ui s 0 8 v) := by unfold g26; rw [if_neg (by decide)]
        have hc2 := g26_run (Ω := Ω) htr (d + 203) 36 τ 1 (xh_ui s 0 8 v) h26
        refine xp_ok htr 5 (d + 210) 1 6 [eB false] 87 8 [some (.ref 0)] [.int v, .ref 0] (hM 36 s τ) ⟨hv, ?_⟩
        show xv l Ω (d + 210) 1 6 87 19 [some (.ref 0)] [] (hM 36 (xh_ui s 0 8 v) τ) _
        refine xp_ok htr 3 (d + 210) 1 6 [eN none (hM 36 (xh_ui s 0 8 v) τ) 1 6] 87 19 [some (.ref 0)] [] (hM 36 (xh_ui s 0 8 v) τ) ⟨hc2, ?_⟩
        show xv l Ω (d + 210) 0 0 87 27 [some (.ref 0)] [] (hM 36 (xh_ui s 0 8 v) τ) _
        refine xv_res (h1 := ((false, 93), xh_ui s 0 8 v, xh_ur (xh_ur (xr_ho 36) 20 1 24) 34 1 37, τ)) (fun H w => xw_refs (g := xh_ur (xh_ur (xr_ho 36) 20 1 24) 34 1 37) xx_swap_23 w) ?_
        have hc3 := g110_run_36 (Ω := Ω) htr (d + 209) τ (xh_ui s 0 8 v)
        refine xp_ok htr 8 (d + 210) 0 0 [eC (some (.ref 36)) ((false, 93), xh_ui s 0 8 v, xh_ur (xr_ho 36) 20 1 24, τ)] 87 27 [some (.ref 0)] [] (hM 36 (xh_ui s 0 8 v) τ) ⟨hc3, ?_⟩
        show xv l Ω (d + 210) 0 0 87 45 [some (.ref 0)] [.ref 36, .ref 34] ((false, 93), xh_ui s 0 8 v, xh_ur (xr_ho 36) 20 1 24, τ) _
        exact xp_ok htr 6 (d + 210) 0 0 [] 87 45 [some (.ref 0)] [.ref 36, .ref 34] ((false, 93), xh_ui s 0 8 v, xh_ur (xr_ho 36) 20 1 24, τ) ⟨trivial, rfl⟩
      · rw [if_neg hv] at hq; cases hq
        have h26 : g26 0 (xh_ui s 0 8 v) = some (Sum.inr 0, xh_ui s 0 8 v) := by unfold g26; rw [if_pos rfl]
        have hc2 := g26_run (Ω := Ω) htr (d + 203) 36 τ 0 (xh_ui s 0 8 v) h26
        refine xp_ok htr 5 (d + 210) 1 6 [eB true] 87 8 [some (.ref 0)] [.int v, .ref 0] (hM 36 s τ) ⟨hv, ?_⟩
        show xv l Ω (d + 210) 1 6 87 23 [some (.ref 0)] [] (hM 36 (xh_ui s 0 8 v) τ) _
        exact xp_ok htr 2 (d + 210) 1 6 [eT 0 (hM 36 (xh_ui s 0 8 v) τ) 1 6] 87 23 [some (.ref 0)] [] (hM 36 (xh_ui s 0 8 v) τ) ⟨hc2, rfl⟩
    · rw [q3] at hq; cases hq
def g86 (p : Nat) (σ : xS) (τ : Nat → Nat → Int64) : Option (Int32 × xS × (Nat → Nat → Int64) × Nat) := match g87 p σ with | some (Sum.inl v, s, p1) => some (0, s, xh_ul τ 92 0 (Int32.toInt64 v), p1) | some (Sum.inr v, s, p1) => (if v = 0 then some (1, s, τ, p1) else none) | none => none
theorem g86_run_23 {l : Launch} {Ω : xo_O} (htr : xH l) (d : Nat) (τ : Nat → Nat → Int64) (σ : xS) {q : Int32 × xS × (Nat → Nat → Int64) × Nat} (hq : g86 23 σ τ = some q) : xv l Ω (d + 211) 1 6 86 0 (xs_loc (xm_l 86) [.ref 0, .ref 92]) [] (hM 23 σ τ) (.inl (some (.int q.1)), hM q.2.2.2 q.2.1 q.2.2.1) := by
  unfold g86 at hq
  cases q3 : g87 23 σ with
  | none => rw [q3] at hq; cases hq
  | some q30 =>
    have hc := g87_run_23 (Ω := Ω) htr d τ σ q3
    obtain ⟨v | v, s, p1⟩ := q30
    · rw [q3] at hq; cases hq
      exact xp_ok htr 9 (d + 211) 1 6 [eN (some (.int v)) (hM p1 s τ) 1 6] 86 0 _ _ _ ⟨hc, (by unfold vp_in; decide), trivial, rfl⟩
    · rw [q3] at hq; dsimp only at hq
      by_cases h0 : v = 0
      · subst h0; rw [if_pos rfl] at hq; cases hq
        exact xp_ok htr 7 (d + 211) 1 6 [eT 0 (hM p1 s τ) 1 6] 86 0 _ _ _ ⟨hc, fun a => ⟨trivial, rfl⟩⟩
      rw [if_neg h0] at hq
      cases hq
theorem g86_run_36 {l : Launch} {Ω : xo_O} (htr : xH l) (d : Nat) (τ : Nat → Nat → Int64) (σ : xS) {q : Int32 × xS × (Nat → Nat → Int64) × Nat} (hq : g86 36 σ τ = some q) : xv l Ω (d + 211) 1 6 86 0 (xs_loc (xm_l 86) [.ref 0, .ref 92]) [] (hM 36 σ τ) (.inl (some (.int q.1)), hM q.2.2.2 q.2.1 q.2.2.1) := by
  unfold g86 at hq
  cases q3 : g87 36 σ with
  | none => rw [q3] at hq; cases hq
  | some q30 =>
    have hc := g87_run_36 (Ω := Ω) htr d τ σ q3
    obtain ⟨v | v, s, p1⟩ := q30
    · rw [q3] at hq; cases hq
      exact xp_ok htr 9 (d + 211) 1 6 [eN (some (.int v)) (hM p1 s τ) 1 6] 86 0 _ _ _ ⟨hc, (by unfold vp_in; decide), trivial, rfl⟩
    · rw [q3] at hq; dsimp only at hq
      by_cases h0 : v = 0
      · subst h0; rw [if_pos rfl] at hq; cases hq
        exact xp_ok htr 7 (d + 211) 1 6 [eT 0 (hM p1 s τ) 1 6] 86 0 _ _ _ ⟨hc, fun a => ⟨trivial, rfl⟩⟩
      rw [if_neg h0] at hq
      cases hq
