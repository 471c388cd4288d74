/-! fields and arrays by the judgement -/
/-- may the field be written in a method of that name of class own -/
def xg_W (own name : String) (q : Nat × Nat × Nat) : Prop := ∀ (C : String) (T : u_T) (N : Nat), vwCl[q.1]? = some (C, T, N) → (T q.2.1).2.2.2 = false ∨ ((T q.2.1).2.2.2 = true ∧ name = "<init>" ∧ C = own)
def xs_fv (kd : Nat) (h : xh_H) (a k : Nat) : Value := match kd with
  | 1 => xw_v (h.2.2.1 a k)
  | _ => .int (h.2.1 a k)
def xs_pf (kd : Nat) (h : xh_H) (a k : Nat) (v : Value) : Option xh_H := match kd, v with
  | 0, .int x => some (h.1, xh_ui h.2.1 a k x, h.2.2)
  | 2, .int x => some (h.1, xh_ui h.2.1 a k x, h.2.2)
  | 1, .ref b => some (h.1, h.2.1, xh_ur h.2.2.1 a k (b + 1), h.2.2.2)
  | _, _ => none
def xs_po (kd : Nat) (v : Value) : Prop := match kd, v with
  | 2, .int x => x = 0 ∨ x = 1
  | _, _ => True
theorem xw_fat {sz : Nat × Nat} {ft : List Bool} {f : Nat → Int32} {g : Nat → Nat} {k : Nat} {b : Bool} (h : ft[k]? = some b) : (xw_f sz ft f g)[k]? = some (bif b then xw_c sz (xw_v (g k)) else .int (f k)) := by
  unfold xw_f
  rw [List.getElem?_mapIdx, h]
  rfl
theorem xw_fset {sz : Nat × Nat} {ft : List Bool} {f f' : Nat → Int32} {g g' : Nat → Nat} {k : Nat} {b : Bool} {v : Value} (h : ft[k]? = some b) (hv : (bif b then xw_c sz (xw_v (g' k)) else .int (f' k)) = v) (hf : ∀ j, j ≠ k → f' j = f j) (hg : ∀ j, j ≠ k → g' j = g j) : (xw_f sz ft f g).set k v = xw_f sz ft f' g' := by
  apply List.ext_getElem?
  intro j
  have hlt : k < (xw_f sz ft f g).length := by simpa [xw_f] using (List.getElem?_eq_some_iff.mp h).1
  by_cases hj : j = k
  · subst hj
    rw [List.getElem?_set_self hlt, xw_fat h, hv]
  · rw [List.getElem?_set_ne (fun q => hj q.symm)]
    unfold xw_f
    rw [List.getElem?_mapIdx, List.getElem?_mapIdx, hf j hj, hg j hj]
section XvHeap
variable {l : Launch} {Ω : xo_O} {d kc ks M pc len : Nat} {L : List (Option Value)} {K : List Value} {h : xh_H} {r : xv_R} {i : Instr}
theorem xr_get {n a : Nat} {q : Nat × Nat × Nat} (hd : decode (xm_c M) pc = .ok (.getfield n, 3)) (hg : xg_F (xm_y M).cls n q) (ha : a < h.1.2) (hk : xz_k a = (0, q.1)) (kk : xv l Ω d kc ks M (pc + 3) L (xs_fv q.2.2 h a q.2.1 :: K) h r) : xv l Ω d kc ks M pc L (.ref a :: K) h r := by
  intro p e R s m args below meth c H locs cells slots ls C0 w hlo hR hL
  have kk := kk p e R s m args below meth c H locs cells slots ls C0 w hlo hR hL
  obtain ⟨⟨hx, hb, hml⟩, hret, hlk, htab, hown, hnm, hT, hs0, hsz, htr⟩ := C0
  obtain ⟨C, T, N, ⟨hc, hin, -, -, hdecl, -⟩, hkN, hft, hlink, hty⟩ := hg
  have he : (xw_ws (xo_c Ω) (xo_z Ω) h)[a]? = some (xo_s Ω + a, .inr (q.1, xw_f (xo_z Ω) (xz_f q.1) (h.2.1 a) (h.2.2.1 a))) := by rw [xw_at ha, hk]; rfl
  have hv : (xw_f (xo_z Ω) (xz_f q.1) (h.2.1 a) (h.2.2.1 a))[q.2.1]? = some (xw_c (xo_z Ω) (xs_fv q.2.2 h a q.2.1)) := by
    rw [xw_fat hft]
    rcases hty with ⟨h1, -⟩ | ⟨h1, -⟩ | ⟨h1, -⟩ <;> rw [h1] <;> rfl
  exact xa_get hx hb (hT.1 args) hin hown hT.2.1 w.1 a he hc q.2.1 hkN (hdecl _ hkN) (Or.inl (hT.1 args _ hlink)) hv hd kk
theorem xr_put {n a : Nat} {q : Nat × Nat × Nat} {v : Value} {h' : xh_H} (hd : decode (xm_c M) pc = .ok (.putfield n, 3)) (hg : xg_F (xm_y M).cls n q) (hwr : xg_W (xm_y M).cls (xm_y M).name q) (ha : a < h.1.2) (hk : xz_k a = (0, q.1)) (hh : xs_pf q.2.2 h a q.2.1 v = some h') (ho : xs_po q.2.2 v) (kk : xv l Ω d kc ks M (pc + 3) L K h' r) : xv l Ω d kc ks M pc L (v :: .ref a :: K) h r := by
  intro p e R s m args below meth c H locs cells slots ls C0 w hlo hR hL
  have kk := fun H1 locs1 w1 l1 => kk p e R s m args below meth c H1 locs1 cells slots ls C0 w1 l1 hR hL
  obtain ⟨⟨hx, hb, hml⟩, hret, hlk, htab, hown, hnm, hT, hs0, hsz, htr⟩ := C0
  obtain ⟨C, T, N, ⟨hc, hin, ⟨ty0, hty0⟩, hnms, hdecl, hfl⟩, hkN, hft, hlink, hty⟩ := hg
  have he : (xw_ws (xo_c Ω) (xo_z Ω) h)[a]? = some (xo_s Ω + a, .inr (q.1, xw_f (xo_z Ω) (xz_f q.1) (h.2.1 a) (h.2.2.1 a))) := by rw [xw_at ha, hk]; rfl
  have hlen : q.2.1 < (xw_f (xo_z Ω) (xz_f q.1) (h.2.1 a) (h.2.2.1 a)).length := by simpa [xw_f] using (List.getElem?_eq_some_iff.mp hft).1
  have hl' : xa_L s args (xm_y M).cls C n T q.2.1 := Or.inl (hT.1 args _ hlink)
  have hf' : (T q.2.1).2.2.2 = false ∨ ((T q.2.1).2.2.2 = true ∧ meth.name = "<init>" ∧ C = (xm_y M).cls ∧ (Cond.fieldLink (xm_y M).cls n C (T q.2.1).2.1 (T q.2.1).2.2.1).before args s = true) := by
    rcases hwr C T N hc with z | ⟨z1, z2, z3⟩
    · exact Or.inl z
    · exact Or.inr ⟨z1, by rw [hnm]; exact z2, z3, hT.1 args _ hlink⟩
  have other : ∀ {h' : xh_H}, (∀ j, j ≠ a → h'.2.1 j = h.2.1 j) → (∀ j, j ≠ a → h'.2.2.1 j = h.2.2.1 j) → (∀ j, j ≠ a → h'.2.2.2 j = h.2.2.2 j) → ∀ j, j ≠ a → xw_e (xo_c Ω) (xo_z Ω) h' j (xz_k j) = xw_e (xo_c Ω) (xo_z Ω) h j (xz_k j) := by
    intro h' e1 e2 e3 j hj
    unfold xw_e
    rw [e1 j hj, e2 j hj, e3 j hj]
  have fin : ∀ {h' : xh_H} {ty : FieldType}, h'.1 = h.1 → (∀ j, j ≠ a → h'.2.1 j = h.2.1 j) → (∀ j, j ≠ a → h'.2.2.1 j = h.2.2.1 j) → (∀ j, j ≠ a → h'.2.2.2 j = h.2.2.2 j) →
      (bif q.2.2 == 1 then xw_c (xo_z Ω) (xw_v (h'.2.2.1 a q.2.1)) else .int (h'.2.1 a q.2.1)) = xw_c (xo_z Ω) v → (∀ j, j ≠ q.2.1 → h'.2.1 a j = h.2.1 a j) → (∀ j, j ≠ q.2.1 → h'.2.2.1 a j = h.2.2.1 a j) →
      parseFieldDescriptor (T q.2.1).2.2.1 = some ty → narrow ty (xw_c (xo_z Ω) v) = xw_c (xo_z Ω) v → fits ty (xw_c (xo_z Ω) v) = true →
      (∀ H1 locs1, xw Ω h' H1 → (∀ q ∈ locs1, xo_s Ω ≤ q.base) → W p l e R s m args below meth c H1 locs1 cells slots (xk_Z below (xv_Q Ω r) args s (cells + kc) (slots + ks) (fun q => xo_s Ω ≤ q)) (F0 m (pc + 3) ls (K.map (xw_c (xo_z Ω))))) →
      W p l e R s m args below meth c H locs cells slots (xk_Z below (xv_Q Ω r) args s (cells + kc) (slots + ks) (fun q => xo_s Ω ≤ q)) (F0 m pc ls (xw_c (xo_z Ω) v :: .ref (xo_s Ω + a) :: K.map (xw_c (xo_z Ω)))) := by
    intro h' ty e0 e1 e2 e3 e4 e5 e6 hd9 hn9 hf9 k9
    refine xa_put hx hb (hT.1 args) hin ty0 hty0 hnms hown hT.2.1 w.1 (xw_D _ _ _) (xw_S w hlo) a he hc q.2.1 hkN (hdecl _ hkN) hl' hf' hd9 hn9 hf9 hlen hd (fun H1 locs1 hz hP hS => k9 H1 locs1 ?_ hS.2.2)
    refine xw_after (h' := h') w e0 ha ?_ (other e1 e2 e3) hz hP hS
    rw [hk]
    show (Sum.inr (q.1, xw_f (xo_z Ω) (xz_f q.1) (h'.2.1 a) (h'.2.2.1 a)) : va_E) = _
    rw [xw_fset hft e4 e5 e6]
  rcases hty with ⟨h1, hty⟩ | ⟨h1, hty⟩ | ⟨h1, ty, hty, hrt⟩
  · obtain ⟨x, rfl⟩ : ∃ x, v = .int x := by rw [h1] at hh; cases v <;> simp [xs_pf] at hh <;> exact ⟨_, rfl⟩
    rw [h1] at hh
    cases hh
    exact fin (h' := (h.1, xh_ui h.2.1 a q.2.1 x, h.2.2)) rfl (fun j hj => by simp [xh_ui, hj]) (fun _ _ => rfl) (fun _ _ => rfl) (by rw [h1]; simp [xh_ui, upd, xw_c]) (fun j hj => by simp [xh_ui, upd, hj]) (fun _ _ => rfl) hty rfl rfl kk
  · obtain ⟨x, rfl⟩ : ∃ x, v = .int x := by rw [h1] at hh; cases v <;> simp [xs_pf] at hh <;> exact ⟨_, rfl⟩
    rw [h1] at hh ho
    cases hh
    exact fin (h' := (h.1, xh_ui h.2.1 a q.2.1 x, h.2.2)) rfl (fun j hj => by simp [xh_ui, hj]) (fun _ _ => rfl) (fun _ _ => rfl) (by rw [h1]; simp [xh_ui, upd, xw_c]) (fun j hj => by simp [xh_ui, upd, hj]) (fun _ _ => rfl) hty
      (by rcases ho with rfl | rfl <;> rfl) (by rcases ho with rfl | rfl <;> rfl) kk
  · obtain ⟨b, rfl⟩ : ∃ b, v = .ref b := by rw [h1] at hh; cases v <;> simp [xs_pf] at hh <;> exact ⟨_, rfl⟩
    rw [h1] at hh
    cases hh
    refine fin (h' := (h.1, h.2.1, xh_ur h.2.2.1 a q.2.1 (b + 1), h.2.2.2)) rfl (fun _ _ => rfl) (fun j hj => by simp [xh_ur, hj]) (fun _ _ => rfl) (by rw [h1]; simp [xh_ur, xw_v]) (fun _ _ => rfl) (fun j hj => by simp [xh_ur, hj]) hty ?_ ?_ kk
    · rcases hrt with ⟨n, rfl⟩ | ⟨t, rfl⟩ <;> rfl
    · rcases hrt with ⟨n, rfl⟩ | ⟨t, rfl⟩ <;> rfl
/-- an element read -/
def xs_al (h : xh_H) (i : Instr) (a : Nat) (x : Int32) : Option (Nat × Value) := match i, xz_k a with
  | .iaload, (1, n) => some (n, .int (h.2.1 a x.toNatClampNeg))
  | .baload, (2, n) => some (n, .int (h.2.1 a x.toNatClampNeg))
  | .laload, (3, n) => some (n, .long (h.2.2.2 a x.toNatClampNeg))
  | _, _ => none
theorem xr_al {a : Nat} {x : Int32} {q : Nat × Value} (hd : decode (xm_c M) pc = .ok (i, 1)) (hv : xs_al h i a x = some q) (ha : a < h.1.2) (hin : vp_in x q.1) (k : xv l Ω d kc ks M (pc + 1) L (q.2 :: K) h r) : xv l Ω d kc ks M pc L (.int x :: .ref a :: K) h r := by
  intro p e R s m args below meth c H locs cells slots ls C0 w hlo hR hL
  have k := k p e R s m args below meth c H locs cells slots ls C0 w hlo hR hL
  obtain ⟨⟨hx, hb, hml⟩, hret, hlk, htab, hown, hnm, hT, hs0, hsz, htr⟩ := C0
  have he := xw_at (cA := xo_c Ω) (z := xo_z Ω) ha
  unfold xs_al at hv
  split at hv <;> (first | (cases hv; done) | skip)
  · rename_i hk; cases hv; rw [hk] at he
    exact va_iald hx hb hT.2.1 w.1 a 0 he rfl hin hd k
  · rename_i hk; cases hv; rw [hk] at he
    exact va_zald hx hb hT.2.1 w.1 a 1 he rfl hin hd k
  · rename_i hk; cases hv; rw [hk] at he
    exact va_lald hx hb hT.2.1 w.1 a 2 he rfl hin hd k
/-- an element written -/
def xs_as (h : xh_H) (i : Instr) (a : Nat) (x : Int32) (v : Value) : Option (Nat × xh_H) := match i, xz_k a, v with
  | .iastore, (1, n), .int y => some (n, (h.1, xh_ui h.2.1 a x.toNatClampNeg y, h.2.2))
  | .bastore, (2, n), .int y => some (n, (h.1, xh_ui h.2.1 a x.toNatClampNeg (vp_nar .boolean y), h.2.2))
  | .lastore, (3, n), .long y => some (n, (h.1, h.2.1, h.2.2.1, xh_ul h.2.2.2 a x.toNatClampNeg y))
  | _, _, _ => none
theorem xr_as {a : Nat} {x : Int32} {v : Value} {q : Nat × xh_H} (hd : decode (xm_c M) pc = .ok (i, 1)) (hv : xs_as h i a x v = some q) (ha : a < h.1.2) (hin : vp_in x q.1) (k : xv l Ω d kc ks M (pc + 1) L K q.2 r) : xv l Ω d kc ks M pc L (v :: .int x :: .ref a :: K) h r := by
  intro p e R s m args below meth c H locs cells slots ls C0 w hlo hR hL
  have k := fun H1 locs1 w1 l1 => k p e R s m args below meth c H1 locs1 cells slots ls C0 w1 l1 hR hL
  obtain ⟨⟨hx, hb, hml⟩, hret, hlk, htab, hown, hnm, hT, hs0, hsz, htr⟩ := C0
  have he := xw_at (cA := xo_c Ω) (z := xo_z Ω) ha
  have other : ∀ {h' : xh_H}, (∀ j, j ≠ a → h'.2.1 j = h.2.1 j) → (∀ j, j ≠ a → h'.2.2.1 j = h.2.2.1 j) → (∀ j, j ≠ a → h'.2.2.2 j = h.2.2.2 j) → ∀ j, j ≠ a → xw_e (xo_c Ω) (xo_z Ω) h' j (xz_k j) = xw_e (xo_c Ω) (xo_z Ω) h j (xz_k j) := by
    intro h' e1 e2 e3 j hj
    unfold xw_e
    rw [e1 j hj, e2 j hj, e3 j hj]
  unfold xs_as at hv
  split at hv <;> (first | (cases hv; done) | skip)
  · rename_i hk; cases hv
    have he2 := he
    rw [hk] at he2
    refine xa_iast hx hb hT.2.1 w.1 (xw_D _ _ _) (xw_S w hlo) a 0 he2 rfl hin hd fun H1 locs1 hz hP hS => k H1 locs1 (xw_after w rfl ha ?_ (other (fun j hj => by simp [xh_ui, hj]) (fun _ _ => rfl) (fun _ _ => rfl)) hz hP hS) hS.2.2
    rw [hk]
    simp [xw_e, xh_ui]
  · rename_i hk; cases hv
    have he2 := he
    rw [hk] at he2
    refine xa_zast hx hb hT.2.1 w.1 (xw_D _ _ _) (xw_S w hlo) a 1 he2 rfl hin hd fun H1 locs1 hz hP hS => k H1 locs1 (xw_after w rfl ha ?_ (other (fun j hj => by simp [xh_ui, hj]) (fun _ _ => rfl) (fun _ _ => rfl)) hz hP hS) hS.2.2
    rw [hk]
    simp [xw_e, xh_ui]
  · rename_i hk; cases hv
    have he2 := he
    rw [hk] at he2
    refine xa_last hx hb hT.2.1 w.1 (xw_D _ _ _) (xw_S w hlo) a 2 he2 rfl hin hd fun H1 locs1 hz hP hS => k H1 locs1 (xw_after w rfl ha ?_ (other (fun _ _ => rfl) (fun _ _ => rfl) (fun j hj => by simp [xh_ul, hj])) hz hP hS) hS.2.2
    rw [hk]
    simp [xw_e, xh_ul]
theorem xr_len {a n : Nat} (hd : decode (xm_c M) pc = .ok (.arraylength, 1)) (ha : a < h.1.2) (hk : xz_k a = (1, n)) (k : xv l Ω d kc ks M (pc + 1) L (.int (Int32.ofNat n) :: K) h r) : xv l Ω d kc ks M pc L (.ref a :: K) h r := by
  intro p e R s m args below meth c H locs cells slots ls C0 w hlo hR hL
  have k := k p e R s m args below meth c H locs cells slots ls C0 w hlo hR hL
  obtain ⟨⟨hx, hb, hml⟩, hret, hlk, htab, hown, hnm, hT, hs0, hsz, htr⟩ := C0
  have he := xw_at (cA := xo_c Ω) (z := xo_z Ω) ha
  rw [hk] at he
  exact va_alen hx hb hT.2.1 w.1 a 0 he (ty := .int) rfl rfl hd k
end XvHeap
