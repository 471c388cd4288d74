/-! the heap of the main phase: references as the constructors left them, p the reader's plan: laid by program (wip/whole/ctors.py) -/
def xr_at : List Nat → Nat → Nat
  | [], _ => 0
  | a :: _, 0 => a
  | _ :: t, n + 1 => xr_at t n
def xr_ho (p a k : Nat) : Nat := (bif Nat.beq a 0 then xr_at [2, 4, 8, 12, 16, 21, 35, 52, 0] k else (bif Nat.beq a 1 then xr_at [3] k else (bif Nat.beq a 3 then xr_at [5, 6, 7] k else (bif Nat.beq a 7 then xr_at [9, 10, 11] k else (bif Nat.beq a 11 then xr_at [13, 14, 15, 0] k else (bif Nat.beq a 15 then xr_at [17, 18, 19, 20] k else (bif Nat.beq a 20 then xr_at [22, p + 1, 0, 0, 0] k else (bif Nat.beq a 21 then xr_at [23, 0] k else (bif Nat.beq a 23 then xr_at [25, 26, 27, 28, 29, 30, 31, 0, 32, 33, 34, 0] k else (bif Nat.beq a 34 then xr_at [36, 60 - p, 48, 49, 50, 51] k else (bif Nat.beq a 36 then xr_at [38, 39, 40, 41, 42, 43, 44, 0, 45, 46, 47, 0] k else (bif Nat.beq a 51 then xr_at [53, 0, 0, 0] k else (bif Nat.beq a 53 then xr_at [55, 56, 57, 58, 59, 60, 61, 62, 0, 63, 64, 65, 66, 67, 68, 69, 70, 0, 0, 0, 0, 0, 71, 72, 73, 74, 75, 76, 77, 78, 79, 0, 0, 80, 81, 82, 83, 84, 85, 86, 0, 87, 0, 0, 0, 0, 88, 89, 90, 91, 92, 0, 0] k else 0)))))))))))))
def hM (p : Nat) (σ : Nat → Nat → Int32) (τ : Nat → Nat → Int64) : xh_H := ((false, 93), σ, xr_ho p, τ)
def xx_hc : xh_H := (xh_new (hC148_54 (xh_new (hC1_1 (xh_new xx_h0)))))
def xx_prs : List (Nat × Nat) := [(0, 0), (0, 1), (0, 2), (0, 3), (0, 4), (0, 5), (0, 6), (0, 7), (1, 0), (3, 0), (3, 1), (3, 2), (7, 0), (7, 1), (7, 2), (11, 0), (11, 1), (11, 2), (15, 0), (15, 1), (15, 2), (15, 3), (20, 0), (20, 1), (21, 0), (23, 0), (23, 1), (23, 2), (23, 3), (23, 4), (23, 5), (23, 6), (23, 8), (23, 9), (23, 10), (34, 0), (34, 1), (34, 2), (34, 3), (34, 4), (34, 5), (36, 0), (36, 1), (36, 2), (36, 3), (36, 4), (36, 5), (36, 6), (36, 8), (36, 9), (36, 10), (51, 0), (53, 0), (53, 1), (53, 2), (53, 3), (53, 4), (53, 5), (53, 6), (53, 7), (53, 9), (53, 10), (53, 11), (53, 12), (53, 13), (53, 14), (53, 15), (53, 16), (53, 22), (53, 23), (53, 24), (53, 25), (53, 26), (53, 27), (53, 28), (53, 29), (53, 30), (53, 33), (53, 34), (53, 35), (53, 36), (53, 37), (53, 38), (53, 39), (53, 41), (53, 46), (53, 47), (53, 48), (53, 49), (53, 50)]
def xx_L0 (i : Int32) : List (Option Value) := [some (.retAddr 0), some (.ref 0), some (.ref 53), some (.ref 92), some (.int i), none, none]
section XvW
variable {l : Launch} {Ω : xo_O} {d kc ks M pc : Nat} {L : List (Option Value)} {K : List Value} {h : xh_H} {r : xv_R}
/-- a heap that says the same of the cells -/
theorem xv_agree {h' : xh_H} (hn : h'.1.2 = h.1.2) (hf : h'.1.1 = true → h.1.1 = true) (he : ∀ (cA : Nat → ClassId) (z : Nat × Nat) (i : Nat), i < h.1.2 → xw_e cA z h' i (xz_k i) = xw_e cA z h i (xz_k i)) (k : xv l Ω d kc ks M pc L K h' r) : xv l Ω d kc ks M pc L K h r := by
  intro p e R s m args below meth c H locs cells slots ls C0 w hlo hR hL
  refine k p e R s m args below meth c H locs cells slots ls C0 ?_ hlo hR hL
  obtain ⟨w1, w2, w3, w4, w5⟩ := w
  refine ⟨?_, w2, by rw [hn]; exact w3, fun q => by rw [hn]; exact w4 (hf q), w5⟩
  have : xw_ws (xo_c Ω) (xo_z Ω) h' = xw_ws (xo_c Ω) (xo_z Ω) h := by
    unfold xw_ws
    rw [hn]
    apply List.map_congr_left
    intro i hi
    rw [he _ _ i (List.mem_range.mp hi)]
  rw [this]
  exact w1
/-- fewer locals known -/
theorem xv_weak {L' : List (Option Value)} (hl : L'.length = L.length) (hw : ∀ (i : Nat) (v : Value), L'[i]? = some (some v) → L[i]? = some (some v)) (k : xv l Ω d kc ks M pc L' K h r) : xv l Ω d kc ks M pc L K h r := by
  intro p e R s m args below meth c H locs cells slots ls C0 w hlo hR hL
  refine k p e R s m args below meth c H locs cells slots ls C0 w hlo hR ⟨by rw [hl]; exact hL.1, hL.2.1, hL.2.2.1, fun q hq => hL.2.2.2 q ?_⟩
  obtain ⟨i, hi, hv⟩ := List.mem_filterMap.mp hq
  cases ho : L'[i]? with
  | none => rw [ho] at hv; cases hv
  | some o =>
    cases o with
    | none => rw [ho] at hv; cases hv
    | some v =>
      rw [ho] at hv
      cases hv
      exact xl_mem (hw i v ho)
def xl_sub : List (Option Value) → List (Option Value) → Prop
  | [], [] => True
  | none :: t, _ :: u => xl_sub t u
  | some v :: t, w :: u => w = some v ∧ xl_sub t u
  | _, _ => False
theorem xl_sub_ok : ∀ (A B : List (Option Value)), xl_sub A B → A.length = B.length ∧ ∀ (i : Nat) (v : Value), A[i]? = some (some v) → B[i]? = some (some v)
  | [], [], _ => ⟨rfl, fun i v h => h⟩
  | none :: t, w :: u, h => by
    obtain ⟨h1, h2⟩ := xl_sub_ok t u h
    refine ⟨by simp [h1], fun i v q => ?_⟩
    cases i with
    | zero => cases q
    | succ i => exact h2 i v q
  | some v :: t, w :: u, h => by
    obtain ⟨h1, h2⟩ := xl_sub_ok t u h.2
    refine ⟨by simp [h1], fun i v q => ?_⟩
    cases i with
    | zero => cases q; rw [h.1]; rfl
    | succ i => exact h2 i v q
  | [], _ :: _, h => h.elim
  | none :: _, [], h => h.elim
  | some _ :: _, [], h => h.elim
theorem xv_sub {L' : List (Option Value)} (hs : xl_sub L' L) (k : xv l Ω d kc ks M pc L' K h r) : xv l Ω d kc ks M pc L K h r :=
  xv_weak (xl_sub_ok _ _ hs).1 (xl_sub_ok _ _ hs).2 k
/-- more room -/
theorem xv_mono {d' kc' ks' : Nat} (hd : d ≤ d') (hk : kc ≤ kc') (hs : ks ≤ ks') (k : xv l Ω d kc ks M pc L K h r) : xv l Ω d' kc' ks' M pc L K h r := by
  intro p e R s m args below meth c H locs cells slots ls C0 w hlo hR hL T hT X
  obtain ⟨t, a1, o, b1, b2, b3, L9, b4, b5, b6⟩ := k p e R s m args below meth c H locs cells slots ls C0 w hlo ⟨by omega, by omega, by omega, by omega⟩ hL T hT X
  exact ⟨t, a1, o, b1, b2, b3, L9, b4, b5.mono (by omega) (by omega), b6⟩
end XvW
theorem xw_f_eq {z : Nat × Nat} {ft : List Bool} {f : Nat → Int32} {g g' : Nat → Nat} (h : ∀ k, ft[k]? = some true → g k = g' k) : xw_f z ft f g = xw_f z ft f g' := by
  unfold xw_f
  apply List.ext_getElem?
  intro k
  rw [List.getElem?_mapIdx, List.getElem?_mapIdx]
  cases hb : ft[k]? with
  | none => rfl
  | some b =>
    cases b with
    | false => rfl
    | true => simp only [Option.map_some, cond_true]; rw [h k hb]
theorem xx_refs : ∀ i, i < 93 → (xz_k i).1 = 0 → ∀ k, k < (xz_f (xz_k i).2).length → (xz_f (xz_k i).2)[k]? = some true → xr_ho 23 i k = xx_hc.2.2.1 i k := by decide +kernel
theorem xx_main {l : Launch} {Ω : xo_O} {d kc ks M pc : Nat} {L : List (Option Value)} {K : List Value} {r : xv_R} (k : xv l Ω d kc ks M pc L K (hM 23 xx_hc.2.1 xx_hc.2.2.2) r) : xv l Ω d kc ks M pc L K xx_hc r := by
  have e0 : xx_hc.1.2 = 93 := by decide +kernel
  refine xv_agree (h' := hM 23 xx_hc.2.1 xx_hc.2.2.2) (by rw [e0]; rfl) (fun q => by cases q) (fun cA z i hi => ?_) k
  rw [e0] at hi
  cases hq : xz_k i with
  | mk a b =>
    match a, hq with
    | 0, hq =>
      have := xx_refs i hi (by rw [hq])
      rw [hq] at this
      exact congrArg (fun q => (Sum.inr (b, q) : va_E)) (xw_f_eq fun k hk => this k (List.getElem?_eq_some_iff.mp hk).1 hk)
    | 1, hq => rfl
    | 2, hq => rfl
    | 3, hq => rfl
    | a + 4, hq => rfl
/-- the law up to its loop -/
theorem xx_pre {l : Launch} {Ω : xo_O} (htr : ∀ e, l.admits e → e.platform.stackTraces = false) {d : Nat} {r : xv_R} (k : xv l Ω (d + 4) 19907 192977 0 23 (xx_L0 0) [] (hM 23 xx_hc.2.1 xx_hc.2.2.2) r) : xv l Ω (d + 4) 20000 200000 0 0 (xs_loc (xm_l 0) [.retAddr 0]) [] xx_h0 r := by
  have k := xx_main k
  exact (xp_ok htr 11 (d + 4) 20000 200000 [eN none _ 52 3268, eN none _ 38 3692] 0 0 _ _ ((true, 0), _, _, _) ⟨(hC1_1_ok htr _ _ _ _), (hC148_54_ok htr _ _ _ _), (xp_ok htr 2 (d + 4) 19907 192977 [] 0 20 _ _ xx_hc k)⟩)
