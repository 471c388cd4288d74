/-! a walk begun anew where it stands; an exception made and thrown -/
theorem xk_rebase {p : Program} {l : Launch} {e : Env} {R : Room} {s : State} {m : MethodId} {args : Array Value} {below : List Frame} {meth : Method} {c : Code} {T : State} {locs : List Loc} {cells slots : Nat} (X : Stand p l e R s m args below meth c T locs cells slots) (hc : cells ≤ R.cells) (hs : slots ≤ R.slots) :
    Stand p l e { frames := R.frames, cells := R.cells - cells, slots := R.slots - slots, locals := R.locals } (T.setFrames (.invoking m args :: below)) m args below meth c T [] 0 0 := by
  obtain ⟨g₀, hfr⟩ := X.frames_eq
  obtain ⟨th, hth, -⟩ := State.frames_cons hfr
  have hcur : T.cur < T.threads.size := (Array.getElem?_eq_some_iff.mp hth).1
  have hF : (T.setFrames (.invoking m args :: below)).frames = .invoking m args :: below := State.frames_setFrames _ hcur
  have hal := X.warmed.alike
  refine ⟨X.admits, X.cas, X.clock, hF, ?_, ?_, X.method', X.code, X.here, X.tail, State.WarmedH.refl _, by rw [State.stackLimits_setFrames], by rw [State.stackBytes_setFrames], ?_⟩
  · obtain ⟨r1, r2, r3, r4⟩ := State.hasRoom_stack X.room
    have r5 := State.hasRoom_real X.room
    have h := X.room
    simp only [State.hasRoom, Bool.and_eq_true, decide_eq_true_eq] at h
    rw [State.localsInUse_invoking X.frames X.method X.code] at r3 r4 r5
    rw [X.frames, List.length_cons] at r1 r2
    have hU : (T.setFrames (.invoking m args :: below)).localsInUse = stackWeight below + vmFrameWords + (c.maxLocals + 11) := State.localsInUse_invoking hF (meth := meth) (c := c) X.method' X.code
    simp only [State.hasRoom, Bool.and_eq_true, decide_eq_true_eq, hF, hU, List.length_cons, State.stackLimits_setFrames, State.stackBytes_setFrames, X.limits, X.bytes]
    refine ⟨⟨⟨⟨by omega, by omega, by omega, by omega, by omega, h.1.1.1.2.2.2.2.2⟩, ?_⟩, ?_⟩, ?_⟩
    · have := h.1.1.2
      have := X.heapSize
      show T.heap.size + (R.cells - cells) ≤ e.platform.maxCells
      omega
    · have := h.1.2
      have := X.used
      show T.slotsUsed + (R.slots - slots) ≤ e.platform.maxSlots
      omega
    · exact X.book
  · have h := X.hears
    cases below with
    | nil =>
      simp only [State.hears] at h ⊢
      show (T.vm.method? m).any _ = true
      rw [hal.method?]
      exact h
    | cons f r =>
      cases f <;> simp only [State.hears] at h ⊢ <;> first
        | exact h
        | (show (T.vm.method? m).any _ = true; rw [hal.method?]; exact h)
        | (rw [State.code?_eq] at h ⊢; show (((T.vm.method? _).bind _).bind _).isSome = true; rw [hal.method?]; exact h)
  · have h := (State.sameButNew.refl (T.setFrames (.invoking m args :: below)) (x := { th with frames := .invoking m args :: below }) (by simp [State.setFrames, Array.getElem?_modify, hth])).setFrames T.frames (by simpa [State.setFrames] using hcur)
    rw [State.setFrames_setFrames, State.setFrames_self hth] at h
    exact h
theorem xk_kept {s V : State} {k n : Nat} (h : s.sameButNew V [] k n) {a : Nat} {cell : Cell} (ha : s.heap[a]? = some cell) : V.heap[a]? = some cell := by
  obtain ⟨c', h1, h2, h3, h4⟩ := h.2.2.2.2.2 a cell ha
  have : c'.slots = cell.slots := Array.ext_getElem? fun i => h4 i (fun hm => by cases hm)
  rw [h1, h2, this]
theorem xw_kept {Ω : xo_O} {h : xh_H} {T U : State} {k n : Nat} (w : xw Ω h T.heap) (hf : h.1.1 = false) (hs : T.sameButNew ({ U with vm := T.vm } : State) [] k n) : xw Ω h U.heap := by
  have hz : T.heap.size ≤ U.heap.size := hs.2.1
  have keep : ∀ q : Nat, q < T.heap.size → U.heap[q]? = T.heap[q]? := by
    intro q hq
    rw [Array.getElem?_eq_getElem hq]
    exact xk_kept hs (Array.getElem?_eq_getElem hq)
  refine ⟨w.1.kept fun j q hj => keep q.1 ((w.1 j q hj).lt), w.2.1, Nat.le_trans w.2.2.1 hz, fun z => absurd (hf.symm.trans z) (by decide), fun q hq => ?_⟩
  rw [keep q (by have := w.2.2.1; omega)]
  exact w.2.2.2.2 q hq
/-- the walk's end, from the end of the walk begun anew -/
theorem xk_end {p : Program} {l : Launch} {e : Env} {R : Room} {s : State} {m : MethodId} {args : Array Value} {below : List Frame} {meth : Method} {c : Code} {T U : State} {locs : List Loc} {cells slots kc ks : Nat} {Ω : xo_O} (X : Stand p l e R s m args below meth c T locs cells slots) (hlo : ∀ q ∈ locs, xo_s Ω ≤ q.base)
    (hW : (T.setFrames (.invoking m args :: below)).WarmedH U.vm) (hs : (T.setFrames (.invoking m args :: below)).sameButNew ({ U with vm := (T.setFrames (.invoking m args :: below)).vm } : State) [] kc ks) :
    T.sameButNew ({ U with vm := T.vm } : State) [] kc ks ∧ ∃ L, s.WarmedH U.vm ∧ s.sameButNew ({ U with vm := s.vm } : State) L (cells + kc) (slots + ks) ∧ ∀ q ∈ L, xo_s Ω ≤ q.base := by
  have hW' : T.WarmedH U.vm := hW
  have h1 : T.sameButNew ({ U with vm := T.vm } : State) [] kc ks := by
    obtain ⟨q1, q2⟩ := hs
    refine ⟨?_, q2⟩
    have q1' : ({ U with vm := T.vm } : State) = { (T.setFrames (.invoking m args :: below)).setFrames ({ U with vm := T.vm } : State).frames with heap := U.heap, slotsUsed := U.slotsUsed } := q1
    rw [State.setFrames_setFrames] at q1'
    exact q1'
  refine ⟨h1, locs, State.WarmedH.trans X.warmed hW', ?_, hlo⟩
  have h2 := X.same.trans (h1.setVm s.vm)
  rw [List.append_nil] at h2
  exact h2
section XvThrow
variable {l : Launch} {Ω : xo_O} {d kc ks M pc : Nat} {L : List (Option Value)} {K : List Value} {h : xh_H}
/-- throw new X(): no handler in the method -/
theorem xr_throw0 {n k : Nat} {C : String} (names : List String) (hd0 : decode (xm_c M) pc = .ok (.new n, 3)) (hd1 : decode (xm_c M) (pc + 3) = .ok (.dup, 1)) (hd2 : decode (xm_c M) (pc + 4) = .ok (.invokespecial k, 3)) (hd3 : decode (xm_c M) (pc + 7) = .ok (.athrow, 1))
    (hcl : Cond.classLink (xm_y M).cls n C ∈ xt) (hins : Cond.instantiable C 6 ∈ xt) (hini : Cond.initialized C ∈ xt) (hat : ∀ a ∈ Bundle.ownAtoms0 (xm_y M).cls k C names, a ∈ xt ∨ a ∈ xg_sp ∨ a ∈ xg_dc) (hfit : Bundle.fit C = true) (hfits : ∀ n ∈ names, Bundle.fit n = true)
    (hno : xm_h M = []) (hf : h.1.1 = false) (hkc : 1 ≤ kc) (hks : 6 ≤ ks) (hd : names.length + 4 ≤ d) (hw8 : Nat.ble (K.map fun v => v.category).sum 8 = true) : xv l Ω d kc ks M pc L K h (.inr C, h) := by
  intro p e R s m args below meth c H locs cells slots ls C0 w hlo hR hL
  intro T hTH X
  obtain ⟨⟨hx, hb, hml⟩, hret, hlk, htab, hown, hnm, hT, hs0, hsz, htr⟩ := C0
  have X' := xk_rebase X (by have := hR.2.2.1; omega) (by have := hR.2.2.2; omega)
  have hT' : xv_T Ω (T.setFrames (.invoking m args :: below)) := xv_Tmv (U := T.setFrames (.invoking m args :: below)) X.warmed hT
  have hown' : (T.setFrames (.invoking m args :: below)).vm.findClass (xm_y M).cls = some m.cls := by
    show T.vm.findClass (xm_y M).cls = some m.cls
    rw [X.warmed.alike.findClass]; exact hown
  have hsp := xv_Guse hT'.2.2.2 w.2.1 (fun q hq => by show T.heap[q]? = _; rw [hTH]; exact w.2.2.2.2 q hq)
  obtain ⟨cX, kX, hfc, hk, hkind, -⟩ := Cond.instantiable_spec (hT'.1 args _ hins)
  have hcat : ((K.map (xw_c (xo_z Ω))).map fun v => v.category) = K.map fun v => v.category := by
    rw [List.map_map]
    exact List.map_congr_left fun a _ => xw_cat _ a
  have hw8' := Nat.le_of_ble_eq_true hw8
  have key : W p l e { frames := R.frames, cells := R.cells - cells, slots := R.slots - slots, locals := R.locals } (T.setFrames (.invoking m args :: below)) m args below meth c T.heap [] 0 0 (xk_Z below (xv_Q Ω (.inr C, h)) args s (cells + kc) (slots + ks) (fun q => xo_s Ω ≤ q)) (F0 m pc ls (K.map (xw_c (xo_z Ω)))) := by
    refine W.newcK hx hb hown' (hT'.1 args _ hcl) (hT'.1 args _ hins) (hT'.1 args _ hini) rfl hd0 (by have := hR.2.2.1; show 0 + 1 ≤ R.cells - cells; omega) (by have := hR.2.2.2; show 0 + 6 ≤ R.slots - slots; omega) hfc rfl fun H' kC hkC e1 z1 o1 => ?_
    refine lv_dup hx hb hd1 rfl ?_
    intro T1 hT1 X1
    have hcell : T1.heap[T.heap.size]? = some (freshCell cX kC) := by rw [hT1]; exact e1
    obtain ⟨U, hst, hrun, hend, hW, hsm, ce, hce, hoc⟩ := X1.ctorThrow0 (names := names) hx htr hown' hfit hfits (fun a ha => (hat a ha).elim (fun z => hT'.1 args a z) (fun z => z.elim (fun z => hsp args a z) (fun z => hT'.2.2.2.2.2.2.2 args a z))) (fun x hx => by cases hx) hfc hkC hcell (Nat.le_refl _)
      (g := F0 m (pc + 3 + 1) ls (.ref T.heap.size :: .ref T.heap.size :: K.map (xw_c (xo_z Ω)))) rfl (by rw [hml]; exact hL.2.1) rfl rfl rfl (by rw [hb]; exact hd2) (by rw [hb]; exact hd3)
      (fun x hxm => by
        have : (x.startPc, x.endPc, x.handlerPc, x.catchType) ∈ c.exceptionTable.toList.map (fun h => (h.startPc, h.endPc, h.handlerPc, h.catchType)) := List.mem_map.mpr ⟨x, hxm, rfl⟩
        rw [htab, hno] at this
        cases this) (by show names.length + 3 < R.frames; have := hR.1; omega)
      (by show 2 * 0 + (List.map (fun v => v.category) (Value.ref T.heap.size :: K.map (xw_c (xo_z Ω)))).sum + (13 * (names.length + 1) + 41) ≤ R.locals
          rw [List.map_cons, List.sum_cons, hcat]
          have := hR.2.1
          show 2 * 0 + (1 + _) + _ ≤ _
          omega) (hlocks := hlk)
    obtain ⟨h1, L9, g1, g2, g3⟩ := xk_end (Ω := Ω) X hlo hW hsm
    refine ⟨U, hst, .threw T.heap.size, hrun, hend, ⟨xw_kept (by rw [hTH]; exact w) hf h1, T.heap.size, ce, rfl, by have := w.2.2.1; rw [hTH]; omega, hce, hoc.vm, ?_⟩, L9, g1, State.sameButNew.mono g2 (by omega) (by omega), g3⟩
    have hal : (T.setFrames (.invoking m args :: below)).vm.Alike U.vm := hW.alike
    rw [hal.findClass]
    exact hoc.cls
  exact key T rfl X'
/-- throw new X(text) -/
theorem xr_throwS {n k j : Nat} {C tx : String} (names : List String) (hd0 : decode (xm_c M) pc = .ok (.new n, 3)) (hd1 : decode (xm_c M) (pc + 3) = .ok (.dup, 1)) (hdl : decode (xm_c M) (pc + 4) = .ok (.ldc j, 2)) (hd2 : decode (xm_c M) (pc + 6) = .ok (.invokespecial k, 3)) (hd3 : decode (xm_c M) (pc + 9) = .ok (.athrow, 1)) (hstr : ∀ U, xv_G Ω U → ∃ a, vk_R (xm_y M).cls j tx a U)
    (hcl : Cond.classLink (xm_y M).cls n C ∈ xt) (hins : Cond.instantiable C 6 ∈ xt) (hini : Cond.initialized C ∈ xt) (hat : ∀ a ∈ Bundle.ownAtoms (xm_y M).cls k C names, a ∈ xt ∨ a ∈ xg_sp ∨ a ∈ xg_dc) (hfit : Bundle.fit C = true) (hfits : ∀ n ∈ names, Bundle.fit n = true)
    (hno : xm_h M = []) (hf : h.1.1 = false) (hkc : 1 ≤ kc) (hks : 6 ≤ ks) (hd : names.length + 4 ≤ d) (hw8 : Nat.ble (K.map fun v => v.category).sum 8 = true) : xv l Ω d kc ks M pc L K h (.inr C, h) := by
  intro p e R s m args below meth c H locs cells slots ls C0 w hlo hR hL
  intro T hTH X
  obtain ⟨⟨hx, hb, hml⟩, hret, hlk, htab, hown, hnm, hT, hs0, hsz, htr⟩ := C0
  have X' := xk_rebase X (by have := hR.2.2.1; omega) (by have := hR.2.2.2; omega)
  have hT' : xv_T Ω (T.setFrames (.invoking m args :: below)) := xv_Tmv (U := T.setFrames (.invoking m args :: below)) X.warmed hT
  have hown' : (T.setFrames (.invoking m args :: below)).vm.findClass (xm_y M).cls = some m.cls := by
    show T.vm.findClass (xm_y M).cls = some m.cls
    rw [X.warmed.alike.findClass]; exact hown
  have hsp := xv_Guse hT'.2.2.2 w.2.1 (fun q hq => by show T.heap[q]? = _; rw [hTH]; exact w.2.2.2.2 q hq)
  obtain ⟨cX, kX, hfc, hk, hkind, -⟩ := Cond.instantiable_spec (hT'.1 args _ hins)
  have hcat : ((K.map (xw_c (xo_z Ω))).map fun v => v.category) = K.map fun v => v.category := by
    rw [List.map_map]
    exact List.map_congr_left fun a _ => xw_cat _ a
  have hw8' := Nat.le_of_ble_eq_true hw8
  have key : W p l e { frames := R.frames, cells := R.cells - cells, slots := R.slots - slots, locals := R.locals } (T.setFrames (.invoking m args :: below)) m args below meth c T.heap [] 0 0 (xk_Z below (xv_Q Ω (.inr C, h)) args s (cells + kc) (slots + ks) (fun q => xo_s Ω ≤ q)) (F0 m pc ls (K.map (xw_c (xo_z Ω)))) := by
    refine W.newcK hx hb hown' (hT'.1 args _ hcl) (hT'.1 args _ hins) (hT'.1 args _ hini) rfl hd0 (by have := hR.2.2.1; show 0 + 1 ≤ R.cells - cells; omega) (by have := hR.2.2.2; show 0 + 6 ≤ R.slots - slots; omega) hfc rfl fun H' kC hkC e1 z1 o1 => ?_
    obtain ⟨aS, hvk⟩ := hstr _ hT'.2.2.2
    refine lv_dup hx hb hd1 rfl ?_
    refine va_ldcS hx hb hown' hvk hdl ?_
    intro T1 hT1 X1
    have hcell : T1.heap[T.heap.size]? = some (freshCell cX kC) := by rw [hT1]; exact e1
    obtain ⟨U, hst, hrun, hend, hW, hsm, ce, hce, hoc⟩ := X1.ctorThrowS (msg := .ref aS) (names := names) hx htr hown' hfit hfits (fun a ha => (hat a ha).elim (fun z => hT'.1 args a z) (fun z => z.elim (fun z => hsp args a z) (fun z => hT'.2.2.2.2.2.2.2 args a z))) (fun x hx => by cases hx) hfc hkC hcell (Nat.le_refl _) rfl
      (g := F0 m (pc + 3 + 1 + 2) ls (.ref aS :: .ref T.heap.size :: .ref T.heap.size :: K.map (xw_c (xo_z Ω)))) rfl (by rw [hml]; exact hL.2.1) rfl rfl rfl (by rw [hb]; exact hd2) (by rw [hb]; exact hd3)
      (fun x hxm => by
        have : (x.startPc, x.endPc, x.handlerPc, x.catchType) ∈ c.exceptionTable.toList.map (fun h => (h.startPc, h.endPc, h.handlerPc, h.catchType)) := List.mem_map.mpr ⟨x, hxm, rfl⟩
        rw [htab, hno] at this
        cases this) (by show names.length + 3 < R.frames; have := hR.1; omega)
      (by show 2 * 0 + (List.map (fun v => v.category) (Value.ref T.heap.size :: K.map (xw_c (xo_z Ω)))).sum + (13 * (names.length + 1) + 42) ≤ R.locals
          rw [List.map_cons, List.sum_cons, hcat]
          have := hR.2.1
          show 2 * 0 + (1 + _) + _ ≤ _
          omega) (hlocks := hlk)
    obtain ⟨h1, L9, g1, g2, g3⟩ := xk_end (Ω := Ω) X hlo hW hsm
    refine ⟨U, hst, .threw T.heap.size, hrun, hend, ⟨xw_kept (by rw [hTH]; exact w) hf h1, T.heap.size, ce, rfl, by have := w.2.2.1; rw [hTH]; omega, hce, hoc.vm, ?_⟩, L9, g1, State.sameButNew.mono g2 (by omega) (by omega), g3⟩
    have hal : (T.setFrames (.invoking m args :: below)).vm.Alike U.vm := hW.alike
    rw [hal.findClass]
    exact hoc.cls
  exact key T rfl X'
end XvThrow
