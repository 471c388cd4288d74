/-! Object's constructor, new objects and arrays, switches -/
def xh_new (h : xh_H) : xh_H := ((h.1.1, h.1.2 + 1), (fun a => bif Nat.beq a h.1.2 then (fun _ => 0) else h.2.1 a), (fun a => bif Nat.beq a h.1.2 then (fun _ => 0) else h.2.2.1 a), (fun a => bif Nat.beq a h.1.2 then (fun _ => 0) else h.2.2.2 a))
theorem xw_push {Ω : xo_O} {h : xh_H} {H H1 : Heap} {e : va_E} (w : xw Ω h H) (hf : h.1.1 = true) (he : xw_e (xo_c Ω) (xo_z Ω) (xh_new h) h.1.2 (xz_k h.1.2) = e) (z1 : H1.size = H.size + 1) (o1 : ∀ q, q < H.size → H1[q]? = H[q]?) (hat : va_at (xo_D Ω) vwCl (H.size, e) H1) : xw Ω (xh_new h) H1 := by
  have hz := w.2.2.2.1 hf
  refine ⟨?_, w.2.1, by show xo_s Ω + (h.1.2 + 1) ≤ H1.size; omega, fun _ => by show H1.size = xo_s Ω + (h.1.2 + 1); omega, fun q hq => by rw [o1 q (by omega)]; exact w.2.2.2.2 q hq⟩
  intro k q hk
  by_cases hl : k < h.1.2
  · rw [xw_at (h := xh_new h) (by show k < h.1.2 + 1; omega)] at hk
    have h1 := w.1 k _ (xw_at hl)
    have e2 : xw_e (xo_c Ω) (xo_z Ω) (xh_new h) k (xz_k k) = xw_e (xo_c Ω) (xo_z Ω) h k (xz_k k) := by
      have hne : Nat.beq k h.1.2 = false := by
        cases hb : Nat.beq k h.1.2 with
        | false => rfl
        | true => rw [Nat.beq_eq] at hb; omega
      unfold xw_e
      simp only [xh_new, hne, cond_false]
    rw [e2] at hk
    cases hk
    exact h1.kept (o1 _ h1.lt)
  · have hlt : k < h.1.2 + 1 := by
      have := (List.getElem?_eq_some_iff.mp hk).1
      simpa [xw_ws, xh_new] using this
    have hk2 : k = h.1.2 := by omega
    subst hk2
    rw [xw_at (h := xh_new h) hlt, he] at hk
    cases hk
    have e3 : (xo_z Ω).1 + h.1.2 = H.size := hz.symm
    rw [e3]
    exact hat
/-- a field's first value: null where the flag says a reference, else 0 -/
theorem xn_tab : ∀ c, c < 13 → (match vwCl[c]? with
  | some q => (List.range q.2.2).all fun k => match parseFieldDescriptor (q.2.1 k).2.2.1, (xz_f c)[k]? with
    | some ty, some b => decide (defaultValue ty = (bif b then .null else .int 0))
    | _, _ => false
  | none => false) = true := by decide +kernel
theorem xn_def (ci : Nat) (C : String) (T : u_T) (N : Nat) (hc : vwCl[ci]? = some (C, T, N)) (j : Nat) (hj : j < N) (b : Bool) (hb : (xz_f ci)[j]? = some b) (ty : FieldType) (hty : parseFieldDescriptor (T j).2.2.1 = some ty) : defaultValue ty = (bif b then .null else .int 0) := by
  have h := xn_tab ci (List.getElem?_eq_some_iff.mp hc).1
  rw [hc] at h
  have h2 := List.all_eq_true.mp h j (List.mem_range.mpr hj)
  simp only [hty, hb, decide_eq_true_eq] at h2
  exact h2
section XvNew
variable {l : Launch} {Ω : xo_O} {d kc ks M pc : Nat} {L : List (Option Value)} {K : List Value} {h : xh_H} {r : xv_R} {i : Instr}
theorem xr_obj {n v a : Nat} (hM : M < 217) (hd : decode (xm_c M) pc = .ok (.invokespecial n, 3)) (hn : (xz_ol (xm_k M)).lookup n = some v) (hw8 : Nat.ble (K.map fun v => v.category).sum 8 = true) (k : xv l Ω (d + 1) kc ks M (pc + 3) L K h r) : xv l Ω (d + 1) kc ks M pc L (.ref a :: K) h r := by
  intro p e R s m args below meth c H locs cells slots ls C0 w hlo hR hL
  have k := k p e R s m args below meth c H locs cells slots ls C0 w hlo hR hL
  obtain ⟨⟨hx, hb, hml⟩, hret, hlk, htab, hown, hnm, hT, hs0, hsz, htr⟩ := C0
  have hcat : ((K.map (xw_c (xo_z Ω))).map fun v => v.category) = K.map fun v => v.category := by
    rw [List.map_map]
    exact List.map_congr_left fun a _ => xw_cat _ a
  exact W.objInit hx hb hown (hT.1 args _ (xz_o_ok hM hn)) (hT.1 args _ xz_oi) (hT.1 args _ xz_oc) rfl (by rw [hml]; exact hL.2.1) rfl hd (by have := hR.1; omega) (by show 2 * 0 + _ + 12 ≤ R.locals; rw [hcat]; have := Nat.le_of_ble_eq_true hw8; have := hR.2.1; omega) k
theorem xr_new {n ci : Nat} (hM : M < 217) (hd : decode (xm_c M) pc = .ok (.new n, 3)) (hn : xz_n (xm_k M) n = some ci) (hf : h.1.1 = true) (hk : xz_k h.1.2 = (0, ci)) (k : xv l Ω d kc ks M (pc + 3) L (.ref h.1.2 :: K) (xh_new h) r) : xv l Ω d (kc + 1) (ks + (xz_f ci).length) M pc L K h r := by
  intro p e R s m args below meth c H locs cells slots ls C0 w hlo hR hL
  have k := fun H1 w1 r1 => k p e R s m args below meth c H1 locs (cells + 1) (slots + (xz_f ci).length) ls C0 w1 hlo r1 hL
  obtain ⟨⟨hx, hb, hml⟩, hret, hlk, htab, hown, hnm, hT, hs0, hsz, htr⟩ := C0
  obtain ⟨C, T, N, ⟨hc, hin, ⟨ty0, hty0⟩, hnms, hdecl, hfl⟩, hlink, hins, hini⟩ := xz_n_ok hM hn
  have hKn := hT.2.1.1 ci _ hc
  have hz := w.2.2.2.1 hf
  rw [hfl] at k hR ⊢
  refine W.newcK hx hb hown (hT.1 args _ hlink) (hT.1 args _ hins) (hT.1 args _ hini) rfl hd (by have := hR.2.2.1; omega) (by have := hR.2.2.2; omega) hKn.2.1 rfl fun H1 kC hkC e1 z1 o1 => ?_
  have hb1 := u_born ty0 (hT.1 args) hin hKn hkC e1 hty0
  have w1 : xw Ω (xh_new h) H1 := by
    refine xw_push w hf rfl z1 o1 ?_
    rw [hk]
    refine ⟨_, hc, hb1.to fun j hj => ?_⟩
    have hflag : ∃ b, (xz_f ci)[j]? = some b := ⟨_, List.getElem?_eq_getElem (by rw [hfl]; exact hj)⟩
    obtain ⟨b, hb9⟩ := hflag
    show defaultValue (ty0 j) = vp_V (xw_f (xo_z Ω) (xz_f ci) ((xh_new h).2.1 h.1.2) ((xh_new h).2.2.1 h.1.2)) j
    unfold vp_V
    rw [List.getD_eq_getElem?_getD, xw_fat hb9]
    have hbr : Nat.beq h.1.2 h.1.2 = true := by rw [Nat.beq_eq]
    simp only [xh_new, hbr, cond_true, Option.getD_some, xw_v, xw_c]
    exact xn_def ci C T N hc j hj b hb9 (ty0 j) (hty0 j hj)
  have hst : Value.ref H.size = xw_c (xo_z Ω) (.ref h.1.2) := by
    show Value.ref H.size = .ref (xo_s Ω + h.1.2)
    rw [hz]
  have k1 := k H1 w1 ⟨hR.1, hR.2.1, by have := hR.2.2.1; omega, by have := hR.2.2.2; omega⟩
  rw [show cells + 1 + kc = cells + (kc + 1) by omega, show slots + N + ks = slots + (ks + N) by omega] at k1
  show W p l e R s m args below meth c H1 locs (cells + 1) (slots + N) _ (F0 m (pc + 3) ls (.ref H.size :: K.map (xw_c (xo_z Ω))))
  rw [hst]
  exact k1
end XvNew
