/-! an exception that a handler of the method catches -/
/-- the handlers of own, from the first on: C, thrown at pc, is caught at hp -/
def xh_ok (args : Array Value) (s : State) (own C : String) : List (Nat × Nat × Nat × Nat) → Nat → Nat → Prop
  | [], _, _ => False
  | x :: t, pc, hp => (x.1 ≤ pc ∧ pc < x.2.1 ∧ x.2.2.2 ≠ 0) ∧ ∃ name, (Cond.classLink own x.2.2.2 name).before args s = true ∧ (((Cond.castable C name).before args s = true ∧ hp = x.2.2.1) ∨ ((Cond.not (.castable C name)).before args s = true ∧ xh_ok args s own C t pc hp))
theorem xh_go {e : Env} {S : State} {f : JFrame} {a : Addr} {x : ExceptionTableEntry} {t : List ExceptionTableEntry} {c : ClassId} {vm' : Vm} {cell : Cell} (hx : covers x f.pc = true) (h0 : x.catchType ≠ 0) (hg : (Jvm.resolveClass f.method.cls x.catchType).Gives e.toSetting S.vm (.ok c) vm') (hsz : vm'.classes.size ≤ S.vm.classes.size)
    (hcell : S.heap[a]? = some cell) (hobj : ∀ k, cell.vm ≠ .statics k) (hk : ∃ k, vm'.classes[cell.cls]? = some k) (hc : ∃ k, vm'.classes[c]? = some k) {Q : Handler → Pre} {E : CtlPost} {d : Bool} {acts : List Action} :
    wp (findHandler.go f a (x :: t)) Q E e d acts S ↔ if vm'.assignable cell.cls c = true then Q (.found x.handlerPc) d acts (S.setVm vm') else wp (findHandler.go f a t) Q E e d acts (S.setVm vm') := by
  obtain ⟨ha, ht⟩ := hg.op (op := VmOp.resolveClass f.method.cls x.catchType) rfl
  simp only [covers] at hx
  cases hfit : vm'.assignable cell.cls c <;>
    simp [findHandler.go, hx, h0, ha, ht, hsz, hcell, hobj, hk, hc, hfit, VmOp.dirties, VmOp.acts]
theorem xh_find {e : Env} {args : Array Value} {s : State} {own C : String} {f : JFrame} {a : Addr} {cell : Cell} {hp : Nat} (hpl : e.platform.magicAccessors = ({} : Platform).magicAccessors) (hown : s.vm.findClass own = some f.method.cls) (hC : s.vm.findClass C = some cell.cls) (hobj : ∀ k, cell.vm ≠ .statics k) :
    ∀ (es : List ExceptionTableEntry) (S : State), s.WarmedH S.vm → S.heap[a]? = some cell → xh_ok args s own C (es.map fun h => (h.startPc, h.endPc, h.handlerPc, h.catchType)) f.pc hp →
      ∃ vm', s.WarmedH vm' ∧ ∀ (Q : Handler → Pre) (E : CtlPost) (d : Bool) (acts : List Action), wp (findHandler.go f a es) Q E e d acts S ↔ Q (.found hp) d acts (S.setVm vm') := by
  intro es
  induction es with
  | nil => intro S hW hc h; exact h.elim
  | cons x t ih =>
    intro S hW hcell h
    obtain ⟨⟨h1, h2, h3⟩, name, hl, hor⟩ := h
    have hcov : covers x f.pc = true := by simp [covers]; exact ⟨h1, h2⟩
    obtain ⟨cn, hfn, hcl⟩ := Cond.classLink_spec hown hl e.platform hpl
    obtain ⟨hg, hwarm, hready⟩ := State.classEntry (e := e) hW hcl
    generalize hvm : S.vm.noted f.method.cls x.catchType (.cls cn) = vm₁ at hg hwarm hready
    have hal := hwarm.alike
    have hkc : ∃ k, vm₁.classes[cell.cls]? = some k := Vm.classAt_of_findClass (by rw [hal.findClass]; exact hC)
    have hkn : ∃ k, vm₁.classes[cn]? = some k := Vm.classAt_of_findClass (by rw [hal.findClass]; exact hfn)
    have hsz : vm₁.classes.size ≤ S.vm.classes.size := by rw [← hvm]; simp [Vm.noted]
    rcases hor with ⟨hca, rfl⟩ | ⟨hno, hrest⟩
    · obtain ⟨c3, c4, w1, w2, w3⟩ := Cond.castable_spec hca
      cases hC.symm.trans w1
      cases hfn.symm.trans w2
      refine ⟨vm₁, hwarm, fun Q E d acts => ?_⟩
      rw [xh_go hcov h3 hg hsz hcell hobj hkc hkn, if_pos (by rw [hal.assignable]; exact w3)]
    · have hna : s.vm.assignable cell.cls cn = false := by
        simp only [Cond.before, Cond.holds, Cond.value, hC, hfn] at hno
        simpa using hno
      obtain ⟨vm', hW', hiff⟩ := ih (S.setVm vm₁) hwarm hcell hrest
      refine ⟨vm', hW', fun Q E d acts => ?_⟩
      rw [xh_go hcov h3 hg hsz hcell hobj hkc hkn, if_neg (by rw [hal.assignable, hna]; decide), hiff]
      rfl
theorem xh_step {e : Env} {S : State} {f : JFrame} {a : Addr} {r : List Frame} {pc : Nat} {vm' : Vm} (hfind : ∀ (Q : Handler → Pre) (E : CtlPost) (d : Bool) (acts : List Action), wp (findHandler f a) Q E e d acts S ↔ Q (.found pc) d acts (S.setVm vm')) :
    (stepThrowing e S a (.java f :: r)).Is ((S.setVm vm').setFrames (.java { f with pc := pc, stack := [.ref a] } :: r)) [] := by
  simp only [stepThrowing, searchFrame, vmDo]
  generalize hr : Sem.go _ e false [] S = res
  obtain ⟨as, rfl, ha⟩ := Sem.eq_ok_of hr (a := Handler.found pc) (s' := S.setVm vm') (acts' := []) (by simp [hfind _ _ _ _])
  exact ⟨rfl, ha⟩
theorem xh_caught {tb : Tables} {e : Env} {s target : State} {g : JFrame} {c : Code} {below : List Frame} {a : Addr} {vm' : Vm} (h : At s g.method c below) {pc : Nat}
    (hfind : ∀ (Q : Handler → Pre) (E : CtlPost) (d : Bool) (acts : List Action), wp (findHandler g a) Q E e d acts ((s.setTop g).pushFrame (.throwing a)) ↔ Q (.found pc) d acts (((s.setTop g).pushFrame (.throwing a)).setVm vm'))
    (hrest : Steps tb e below ((s.setVm vm').setTop { g with pc := pc, stack := [.ref a] }) target) :
    Steps tb e below ((s.setTop g).pushFrame (.throwing a)) target := by
  obtain ⟨hgo, hw⟩ := h.throwing a
  refine Steps.head hgo hw ?_
  rw [stepThread_throwing (frames_entered h.top _), (xh_step (S := (s.setTop g).pushFrame (.throwing a)) hfind).1]
  obtain ⟨g₀, hg⟩ := Option.isSome_iff_exists.mp h.top
  obtain ⟨r, hr⟩ := State.topJava?_eq_some.mp hg
  have hr' : (s.setVm vm').frames = .java g₀ :: r := hr
  rw [State.setTop_of_frames _ hr'] at hrest
  have e1 : (((s.setTop g).pushFrame (.throwing a)).setVm vm').setFrames (.java { g with pc := pc, stack := [.ref a] } :: s.frames.tail) = (s.setVm vm').setFrames (.java { g with pc := pc, stack := [.ref a] } :: r) := by
    rw [State.pushFrame, State.setTop_of_frames _ hr, State.setFrames_setFrames, hr]
    show (State.setFrames (s.setVm vm') _).setFrames _ = _
    rw [State.setFrames_setFrames]
    rfl
  rw [e1]
  exact hrest
section XvCatch
variable {l : Launch} {Ω : xo_O} {d kc ks M pc : Nat} {L : List (Option Value)} {K : List Value} {h : xh_H} {r : xv_R} {i : Instr}
/-- a call that throws, no handler here -/
theorem xr_callT {n M' k1 s1 : Nat} {vs : List Value} {C : String} {h1 : xh_H} (htr : ∀ e, l.admits e → e.platform.stackTraces = false) (hM : M < 217) (hd : decode (xm_c M) pc = .ok (i, 3)) (hi : xs_inv i = some n) (hm : xz_m (xm_k M) n = some M') (hk : xs_ik h i M' vs = true) (hn : Nat.ble (xs_fm vs).length (xm_l M') = true) (hw8 : Nat.ble (K.map fun v => v.category).sum 8 = true)
    (hno : xm_h M = []) (hk1 : k1 ≤ kc) (hs1 : s1 ≤ ks) (hv : xv l Ω d k1 s1 M' 0 (xs_loc (xm_l M') vs) [] h (.inr C, h1)) : xv l Ω (d + 1) kc ks M pc L (vs.reverse ++ K) h (.inr C, h1) := by
  intro p e R s m args below meth c H locs cells slots ls C0 w hlo hR hL
  intro T hTH X
  have inv := xk_any (ls := ls) (K := K) (vs := vs) hM C0 w hTH X hd hi hm hk
  have hMM := (xz_m_ok hM hm).2
  obtain ⟨⟨hx, hb, hml⟩, hret, hlk, htab, hown, hnm, hT, hs0, hsz, htr0⟩ := C0
  have hcat : ((K.map (xw_c (xo_z Ω))).map fun v => v.category) = K.map fun v => v.category := by
    rw [List.map_map]
    exact List.map_congr_left fun a _ => xw_cat _ a
  obtain ⟨o, t, T', L', hq, e1, e2, hL', X', -, hr⟩ := xk_core (d := d) (k1 := k1) (s1 := s1) htr hMM (Nat.le_of_ble_eq_true hn) hv hT hs0 w ⟨hR.1, hR.2.1, by have := hR.2.2.1; omega, by have := hR.2.2.2; omega⟩ (xm_l41 M' (xz_m_lt hM hm)) hTH inv rfl (by rw [hml]; exact hL.2.1) (by rw [hb]; exact hd) (by rw [hcat]; have := Nat.le_of_ble_eq_true hw8; simpa using this)
  obtain ⟨w1, x, cell, ho, hx1, hc1, hc2, hc3⟩ := hq
  obtain ⟨g1, g2, g3, g4, g5⟩ := X'.leaveThrown x (g := { F0 m pc ls ((vs.reverse ++ K).map (xw_c (xo_z Ω))) with stack := K.map (xw_c (xo_z Ω)) }) rfl rfl rfl (fun y hy => by
    have : (y.startPc, y.endPc, y.handlerPc, y.catchType) ∈ c.exceptionTable.toList.map (fun h => (h.startPc, h.endPc, h.handlerPc, h.catchType)) := List.mem_map.mpr ⟨y, hy, rfl⟩
    rw [htab, hno] at this
    cases this) (hlocks := hlk)
  refine ⟨_, hr x ho _ g1, .threw x, g2, g3, ⟨?_, x, cell, rfl, hx1, ?_, hc2, ?_⟩, locs ++ L', g4, State.sameButNew.mono g5 (by omega) (by omega), fun q hq => ?_⟩
  · show xw Ω h1 T'.heap
    rw [e1]; exact w1
  · show T'.heap[x]? = some cell
    rw [e1]; exact hc1
  · show T'.vm.findClass C = some cell.cls
    rw [e2]; exact hc3
  · rcases List.mem_append.mp hq with z | z
    · exact hlo q z
    · exact hL' q z
/-- a call that throws, caught here -/
theorem xr_callC {n M' k1 s1 hp : Nat} {vs : List Value} {C : String} {h1 : xh_H} (htr : ∀ e, l.admits e → e.platform.stackTraces = false) (hM : M < 217) (hd : decode (xm_c M) pc = .ok (i, 3)) (hi : xs_inv i = some n) (hm : xz_m (xm_k M) n = some M') (hk : xs_ik h i M' vs = true) (hn : Nat.ble (xs_fm vs).length (xm_l M') = true) (hw8 : Nat.ble (K.map fun v => v.category).sum 8 = true)
    (hca : ∀ (args : Array Value) (s : State), xv_T Ω s → xh_ok args s (xm_y M).cls C (xm_h M) pc hp) (hv : xv l Ω d k1 s1 M' 0 (xs_loc (xm_l M') vs) [] h (.inr C, h1)) (k : ∀ a, xv l Ω (d + 1) kc ks M hp L [.ref a] h1 r) : xv l Ω (d + 1) (k1 + kc) (s1 + ks) M pc L (vs.reverse ++ K) h r := by
  intro p e R s m args below meth c H locs cells slots ls C0 w hlo hR hL
  intro T hTH X
  have inv := xk_any (ls := ls) (K := K) (vs := vs) hM C0 w hTH X hd hi hm hk
  have hMM := (xz_m_ok hM hm).2
  have C1 := C0
  obtain ⟨⟨hx, hb, hml⟩, hret, hlk, htab, hown, hnm, hT, hs0, hsz, htr0⟩ := C1
  have hcat : ((K.map (xw_c (xo_z Ω))).map fun v => v.category) = K.map fun v => v.category := by
    rw [List.map_map]
    exact List.map_congr_left fun a _ => xw_cat _ a
  obtain ⟨o, t, T', L', hq, e1, e2, hL', X', -, hr⟩ := xk_core (d := d) (k1 := k1) (s1 := s1) htr hMM (Nat.le_of_ble_eq_true hn) hv hT hs0 w ⟨hR.1, hR.2.1, by have := hR.2.2.1; omega, by have := hR.2.2.2; omega⟩ (xm_l41 M' (xz_m_lt hM hm)) hTH inv rfl (by rw [hml]; exact hL.2.1) (by rw [hb]; exact hd) (by rw [hcat]; have := Nat.le_of_ble_eq_true hw8; simpa using this)
  obtain ⟨w1, x, cell, ho, hx1, hc1, hc2, hc3⟩ := hq
  have hpl : e.platform.magicAccessors = ({} : Platform).magicAccessors := by rw [X.admits.platform]
  have hCs : s.vm.findClass C = some cell.cls := by
    rw [← e2, X'.warmed.alike.findClass] at hc3
    exact hc3
  have w1' : xw Ω h1 T'.heap := by rw [e1]; exact w1
  obtain ⟨vm', hW', hiff⟩ := xh_find (e := e) (args := args) (s := s) (own := (xm_y M).cls) (C := C) (f := { F0 m pc ls ((vs.reverse ++ K).map (xw_c (xo_z Ω))) with stack := K.map (xw_c (xo_z Ω)) }) (a := x) (cell := cell) (hp := hp) hpl hown hCs (fun q hq => by rw [hc2] at hq; cases hq) c.exceptionTable.toList
    ((T'.setTop { F0 m pc ls ((vs.reverse ++ K).map (xw_c (xo_z Ω))) with stack := K.map (xw_c (xo_z Ω)) }).pushFrame (.throwing x)) (by rw [Stand.throwing_vm]; exact X'.warmed) (by rw [Stand.throwing_heap, e1]; exact hc1) (by rw [htab]; exact hca args s hT)
  have X2 := X'.noted hW'
  obtain ⟨t2, a1, b1⟩ := k (x - xo_s Ω) p e R s m args below meth c (T'.setVm vm').heap (locs ++ L') (cells + k1) (slots + s1) ls C0 w1' (fun q hq => by
    rcases List.mem_append.mp hq with z | z
    · exact hlo q z
    · exact hL' q z) ⟨hR.1, hR.2.1, by have := hR.2.2.1; omega, by have := hR.2.2.2; omega⟩ hL (T'.setVm vm') rfl X2
  refine ⟨t2, hr x ho t2 ?_, ?_⟩
  · refine xh_caught (pc := hp) (vm' := vm') X'.here (fun Q E d acts => ?_) ?_
    · rw [W.findHandler_eq (by rw [Stand.throwing_vm]; exact X'.method') X'.code]
      exact hiff Q E d acts
    · have : (List.map (xw_c (xo_z Ω)) [Value.ref (x - xo_s Ω)]) = [.ref x] := by
        show [Value.ref (xo_s Ω + (x - xo_s Ω))] = [.ref x]
        rw [Nat.add_sub_cancel' hx1]
      rw [this] at a1
      exact a1
  · rw [show cells + (k1 + kc) = cells + k1 + kc by omega, show slots + (s1 + ks) = slots + s1 + ks by omega]
    exact b1
end XvCatch
