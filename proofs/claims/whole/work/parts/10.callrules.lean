/-! returns, calls -/
section XvCalls
variable {l : Launch} {Ω : xo_O} {d kc ks M pc len : Nat} {L : List (Option Value)} {K : List Value} {h : xh_H} {r : xv_R} {i : Instr}
def xs_rt (i : Instr) (ret : Option FieldType) (K : List Value) : Option (Option Value × Prop) := match i, ret, K with
  | .ireturn, some .int, [.int v] => some (some (.int v), True)
  | .ireturn, some .boolean, [.int v] => some (some (.int v), v = 0 ∨ v = 1)
  | .return_, none, [] => some (none, True)
  | .areturn, some (.object _), [.ref a] => some (some (.ref a), True)
  | _, _, _ => none
theorem xr_rt {q : Option Value × Prop} (hd : decode (xm_c M) pc = .ok (i, 1)) (hv : xs_rt i (xm_r M) K = some q) (ho : q.2) (hr : r = (.inl q.1, h)) : xv l Ω d kc ks M pc L K h r := by
  intro p e R s m args below meth c H locs cells slots ls C0 w hlo hR hL
  obtain ⟨⟨hx, hb, hml⟩, hret, hlk, htab, hown, hnm, hT, hs0, hsz, htr⟩ := C0
  subst hr
  refine W.widen (Nat.le_add_right cells kc) (Nat.le_add_right slots ks) ?_
  generalize hrt : xm_r M = rt at hv hret
  unfold xs_rt at hv
  split at hv <;> (first | (cases hv; done) | skip)
  · cases hv
    exact xk_zret (ty := .int) hx hb hret rfl (fun t ht hW => ⟨by rw [ht]; exact w, rfl⟩) hlo hd hlk
  · cases hv
    exact xk_zret (ty := .boolean) hx hb hret (by rcases ho with rfl | rfl <;> rfl) (fun t ht hW => ⟨by rw [ht]; exact w, rfl⟩) hlo hd hlk
  · cases hv
    exact xk_vret hx hb hret (fun t ht hW => ⟨by rw [ht]; exact w, rfl⟩) hlo hd hlk
  · cases hv
    exact xk_aret hx hb hret (Or.inl ⟨_, rfl⟩) (Or.inr ⟨_, rfl⟩) (fun t ht hW => ⟨by rw [ht]; exact w, rfl⟩) hlo hd hlk
theorem xv_Tmv {s U : State} (hW : s.WarmedH U.vm) (hT : xv_T Ω s) : xv_T Ω U :=
  ⟨fun A w hw => xt_mv (A := A) hW (hT.1 A) w hw, va_K.moved hW.alike hT.2.1, va_X.moved hW.alike hT.2.2.1, xv_Gmv hW hT.2.2.2⟩
theorem xc_code {A : Array Value} {U : State} {M' : Nat} (hT : ∀ w ∈ xt, w.before A U = true) (hM : xc_M M') : (Cond.codeWith (xm_y M') (xm_c M') (xm_l M') (xm_r M') (xm_h M')).before A U = true := by
  rcases hM.2.2.1 with ⟨h0, h1⟩ | h1
  · have h2 := hT _ h1
    rw [h0]
    show (Cond.codeWith (xm_y M') (xm_c M') (xm_l M') (xm_r M') []).holds A U none U [] = true
    unfold Cond.holds
    rw [← Cond.code_iff_codeWith_nil]
    exact h2
  · exact hT _ h1
theorem xc_code0 {A : Array Value} {U : State} {M' : Nat} (hh : xm_h M' = []) (h : (Cond.codeWith (xm_y M') (xm_c M') (xm_l M') (xm_r M') (xm_h M')).before A U = true) : (Cond.code (xm_y M') (xm_c M') (xm_l M') (xm_r M')).before A U = true := by
  rw [hh] at h
  show (Cond.code (xm_y M') (xm_c M') (xm_l M') (xm_r M')).holds A U none U [] = true
  unfold Cond.holds
  rw [Cond.code_iff_codeWith_nil]
  exact h
/-- the call of a method M' on the values vs, whose body ends in r1 -/
theorem xk_core {p : Program} {e : Env} {R : Room} {s : State} {m : MethodId} {args : Array Value} {below : List Frame} {meth : Method} {c : Code} {H : Heap} {locs : List Loc} {cells slots : Nat} {T : State} {g : JFrame} {rest : List Value} {ig : Instr} {M' k1 s1 : Nat} {vs : List Value} {r1 : xv_R}
    (htr : ∀ e, l.admits e → e.platform.stackTraces = false) (hM : xc_M M') (hn : (xs_fm vs).length ≤ xm_l M') (hv : xv l Ω d k1 s1 M' 0 (xs_loc (xm_l M') vs) [] h r1)
    (hT : xv_T Ω s) (hs0 : ∀ q : Nat, q < xo_s Ω → s.heap[q]? = (xo_H Ω)[q]?) (w : xw Ω h H) (hR : d + 1 ≤ R.frames ∧ 60 * (d + 1) ≤ R.locals ∧ cells + k1 ≤ R.cells ∧ slots + s1 ≤ R.slots) (hl : xm_l M' ≤ 41)
    (hTH : T.heap = H) (inv : xk_inv p l e R s m args below meth c T locs cells slots g rest (xm_y M') (vs.map (xw_c (xo_z Ω))).toArray)
    (hg : g.method = m) (hsize : g.locals.size = c.maxLocals) (hdg : decode c.code g.pc = .ok (ig, 3)) (hW : 2 * g.monitorRoom + (rest.map fun v => v.category).sum ≤ 8) :
    ∃ (o : Outcome) (t T' : State) (L : List Loc), xv_Q Ω r1 (vs.map (xw_c (xo_z Ω))).toArray s o t ∧ T'.heap = t.heap ∧ T'.vm = t.vm ∧ (∀ q ∈ L, xo_s Ω ≤ q.base) ∧ Stand p l e R s m args below meth c T' (locs ++ L) (cells + k1) (slots + s1) ∧
      (∀ v, o = .returned v → ∀ target, Steps p.tables e below (T'.setTop { g with pc := g.pc + 3, stack := v.toList ++ rest }) target → Steps p.tables e below (T.setTop g) target) ∧
      (∀ x, o = .threw x → ∀ target, Steps p.tables e below ((T'.setTop { g with stack := rest }).pushFrame (.throwing x)) target → Steps p.tables e below (T.setTop g) target) := by
  obtain ⟨vm₁, mk, X₁, hnm, hst⟩ := inv
  have hW1 := X₁.warmed
  have w1 : ∀ (A : Array Value), ∀ x ∈ xt, x.before A (T.setVm vm₁) = true := fun A => xt_mv (A := A) hW1 (hT.1 A)
  have hsz : xo_s Ω ≤ H.size := by have := w.2.2.1; omega
  obtain ⟨o, t, T', L, hq, e1, e2, hL, X', hr, ht⟩ := xk_free (xv_met htr hM.1 hn hv) X₁ (g := { g with stack := rest }) (a := (vs.map (xw_c (xo_z Ω))).toArray) hg hsize hdg hW hnm
    (xc_code (w1 _) hM) (xc_code (w1 _) hM) (w1 _ _ hM.2.2.2.1) hR.1 (by show 8 + (xm_l M' + 11) + 60 * d ≤ R.locals; have := hR.2.1; omega) hR.2.2.1 hR.2.2.2
    ⟨rfl, xv_Tmv (Ω := Ω) (s := s) hW1 hT, fun q hq => by show T.heap[q]? = _; rw [hTH]; exact w.2.2.2.2 q hq, by show xo_s Ω ≤ T.heap.size; rw [hTH]; exact hsz, by show xw Ω h T.heap; rw [hTH]; exact w⟩
  refine ⟨o, t, T', L, hq, e1, e2, hL, X', fun v hv target hs => hst target fun acts => ?_, fun x hx target hs => hst target fun acts => ?_⟩
  · rw [doInvoke_state]
    exact (hr v hv).trans hs
  · rw [doInvoke_state]
    exact (ht x hx).trans hs
/-- which method an instruction calls -/
def xs_inv (i : Instr) : Option Nat := match i with
  | .invokevirtual n => some n
  | .invokestatic n => some n
  | .invokespecial n => some n
  | _ => none
def xs_ik (h : xh_H) (i : Instr) (M' : Nat) (vs : List Value) : Bool := match i, vs with
  | .invokestatic _, vs => xm_s M' && Nat.beq vs.length (xm_p M')
  | .invokevirtual _, .ref b :: As => !xm_s M' && Nat.beq (xm_i M') 99 && Nat.beq As.length (xm_p M') && Nat.blt b h.1.2 && Nat.beq (xz_k b).1 0 && Nat.beq (xz_k b).2 (xm_k M' - 1)
  | .invokespecial _, .ref _ :: As => !xm_s M' && !(Nat.beq (xm_i M') 99) && Nat.beq As.length (xm_p M')
  | _, _ => false
theorem xm_vc : ∀ M, M < 217 → xm_s M = false → (vwCl[xm_k M - 1]?).map (·.1) = some (xm_y M).cls := by decide +kernel
theorem xm_in : ∀ M, M < 217 → xm_i M = 99 → (xm_y M).name ≠ "<init>" := by decide +kernel
theorem xm_ii : ∀ M, M < 217 → ¬ xm_i M = 99 → (xm_y M).name = "<init>" ∧ xm_r M = none := by decide +kernel
theorem xm_l41 : ∀ M, M < 217 → xm_l M ≤ 41 := by decide +kernel
theorem xz_m_lt {M n M' : Nat} (hM : M < 217) (h : xz_m (xm_k M) n = some M') : M' < 217 := (xc_lw_a _ (xm_kl M hM) _ (xt_lk h)).2.2
theorem xk_any {p : Program} {e : Env} {R : Room} {s : State} {m : MethodId} {args : Array Value} {below : List Frame} {meth : Method} {c : Code} {H : Heap} {locs : List Loc} {cells slots : Nat} {T : State} {ls : Array Slot} {n M' : Nat} {vs : List Value}
    (hM : M < 217) (C0 : xv_X Ω M p e s m meth c) (w : xw Ω h H) (hTH : T.heap = H) (X : Stand p l e R s m args below meth c T locs cells slots) (hd : decode (xm_c M) pc = .ok (i, 3)) (hi : xs_inv i = some n) (hm : xz_m (xm_k M) n = some M') (hk : xs_ik h i M' vs = true) :
    xk_inv p l e R s m args below meth c T locs cells slots (F0 m pc ls ((vs.reverse ++ K).map (xw_c (xo_z Ω)))) (K.map (xw_c (xo_z Ω))) (xm_y M') (vs.map (xw_c (xo_z Ω))).toArray := by
  obtain ⟨⟨hx, hb, hml⟩, hret, hlk, htab, hown, hnm, hT, hs0, hsz, htr⟩ := C0
  obtain ⟨hL, hMM⟩ := xz_m_ok hM hm
  have hM' := xz_m_lt hM hm
  have hcode := xc_code (hT.1 args) hMM
  obtain ⟨hpl, hne, hcw, hini, hpar, hkind⟩ := hMM
  have hlink : (Cond.methodLink (xm_y M).cls n (xm_y M')).before args s = true ∨ ∃ host, (Cond.methodLinkNest (xm_y M).cls n (xm_y M') host).before args s = true := hL.elim (fun z => Or.inl (hT.1 args _ z)) (fun ⟨host, z⟩ => Or.inr ⟨host, hT.1 args _ z⟩)
  have hlen : ∀ {As : List Value}, As.length = xm_p M' → ∀ sig, parseMethodDescriptor (xm_y M').desc = some sig → (As.map (xw_c (xo_z Ω))).length = sig.parameters.length := by
    intro As hA sig hs
    rw [hs] at hpar
    rw [List.length_map, hA]
    exact (Option.some.inj hpar).symm
  unfold xs_ik at hk
  split at hk
  · cases hi
    simp only [Bool.and_eq_true, Nat.beq_eq] at hk
    rcases hkind with ⟨-, hst⟩ | ⟨hst, -⟩
    · exact xk_iS X hx hown hlink (hT.1 args _ hst) (hT.1 args _ hini) hcode hne rfl (hlen hk.2) (by simp) (by rw [hb]; exact hd)
    · rw [hst] at hk; cases hk.1
  · rename_i b As
    cases hi
    simp only [Bool.and_eq_true, Nat.beq_eq, Bool.not_eq_true', Nat.blt_eq] at hk
    obtain ⟨⟨⟨⟨⟨h1, h2⟩, h3⟩, h4⟩, h5⟩, h6⟩ := hk
    rcases hkind with ⟨hst, -⟩ | ⟨-, hh, hin, hsel⟩
    · rw [hst] at h1; cases h1
    · have hsel' : Cond.selects (xm_y M').cls (xm_y M') (xm_y M') ∈ xt := by
        rcases hsel with ⟨q, -⟩ | q
        · exact absurd q (xm_in M' hM' h2)
        · exact q
      have hkb : xz_k b = (0, xm_k M' - 1) := Prod.ext h5 h6
      have he := xw_at (cA := xo_c Ω) (z := xo_z Ω) h4
      rw [hkb] at he
      have hvc := xm_vc M' hM' h1
      cases hq : vwCl[xm_k M' - 1]? with
      | none => rw [hq] at hvc; cases hvc
      | some q =>
        rw [hq] at hvc
        have hqc : q.1 = (xm_y M').cls := Option.some.inj hvc
        obtain ⟨cell, g1, g2, g3⟩ := va_recv hT.2.1 w.1 hq he
        rw [hqc] at g3
        exact xk_iV X hx hown hlink (hT.1 args _ hin) (hT.1 args _ hsel') (xc_code0 hh hcode) hne (by rw [hTH]; exact g1) g2 g3 rfl (hlen h3) (by simp [xw_c]) (by rw [hb]; exact hd)
  · rename_i b As
    cases hi
    simp only [Bool.and_eq_true, Nat.beq_eq, Bool.not_eq_true'] at hk
    obtain ⟨⟨h1, h2⟩, h3⟩ := hk
    have h2' : ¬ xm_i M' = 99 := fun q => by rw [q] at h2; cases h2
    obtain ⟨hin1, hrn⟩ := xm_ii M' hM' h2'
    rcases hkind with ⟨hst, -⟩ | ⟨-, hh, hin, hsel⟩
    · rw [hst] at h1; cases h1
    · have hc2 := xc_code0 hh hcode
      rw [hrn] at hc2
      exact xk_iI X hx hown hin1 hlink (hT.1 args _ hin) hc2 hne rfl (hlen h3) (by simp [xw_c]) (by rw [hb]; exact hd)
  · cases hk
/-- a call that comes back -/
theorem xr_call {n M' k1 s1 : Nat} {vs : List Value} {v : Option Value} {h1 : xh_H} (htr : ∀ e, l.admits e → e.platform.stackTraces = false) (hM : M < 217) (hd : decode (xm_c M) pc = .ok (i, 3)) (hi : xs_inv i = some n) (hm : xz_m (xm_k M) n = some M') (hk : xs_ik h i M' vs = true) (hn : Nat.ble (xs_fm vs).length (xm_l M') = true) (hw8 : Nat.ble (K.map fun v => v.category).sum 8 = true)
    (hv : xv l Ω d k1 s1 M' 0 (xs_loc (xm_l M') vs) [] h (.inl v, h1)) (k : xv l Ω (d + 1) kc ks M (pc + 3) L (v.toList ++ K) h1 r) : xv l Ω (d + 1) (k1 + kc) (s1 + ks) M pc L (vs.reverse ++ K) h r := by
  intro p e R s m args below meth c H locs cells slots ls C0 w hlo hR hL
  intro T hTH X
  have inv := xk_any (ls := ls) (K := K) (vs := vs) hM C0 w hTH X hd hi hm hk
  have hMM := (xz_m_ok hM hm).2
  have C1 := C0
  obtain ⟨⟨hx, hb, hml⟩, hret, hlk, htab, hown, hnm, hT, hs0, hsz, htr0⟩ := C1
  have hcat : ((K.map (xw_c (xo_z Ω))).map fun v => v.category) = K.map fun v => v.category := by
    rw [List.map_map]
    apply List.map_congr_left
    intro a _
    exact xw_cat _ a
  obtain ⟨o, t, T', L', hq, e1, e2, hL', X', hr, -⟩ := xk_core (d := d) (k1 := k1) (s1 := s1) htr hMM (Nat.le_of_ble_eq_true hn) hv hT hs0 w ⟨hR.1, hR.2.1, by have := hR.2.2.1; omega, by have := hR.2.2.2; omega⟩ (xm_l41 M' (xz_m_lt hM hm)) hTH inv rfl (by rw [hml]; exact hL.2.1) (by rw [hb]; exact hd) (by rw [hcat]; have := Nat.le_of_ble_eq_true hw8; simpa using this)
  obtain ⟨w1, ho⟩ := hq
  have ho : o = .returned (v.map (xw_c (xo_z Ω))) := ho
  have w1 : xw Ω h1 t.heap := w1
  rw [← e1] at w1
  obtain ⟨t2, a1, b1⟩ := k p e R s m args below meth c T'.heap (locs ++ L') (cells + k1) (slots + s1) ls C0 w1 (fun q hq => by
    rcases List.mem_append.mp hq with z | z
    · exact hlo q z
    · exact hL' q z) ⟨hR.1, hR.2.1, by have := hR.2.2.1; omega, by have := hR.2.2.2; omega⟩ hL T' rfl X'
  refine ⟨t2, hr _ ho t2 ?_, ?_⟩
  · have e3 : (v.map (xw_c (xo_z Ω))).toList ++ K.map (xw_c (xo_z Ω)) = (v.toList ++ K).map (xw_c (xo_z Ω)) := by cases v <;> simp
    rw [e3]
    exact a1
  · rw [show cells + (k1 + kc) = cells + k1 + kc by omega, show slots + (s1 + ks) = slots + s1 + ks by omega]
    exact b1
end XvCalls
