/-! an exception that a handler of the method catches -/
/-- the handlers of own, from the first on: C, thrown at pc, is caught at hp -/
def xh_ok (args : Array Value) (s : State) (own C : String) : List (Nat × Nat × Nat × Nat) → Nat → Nat → Prop
  | [], _, _ => False
  | x :: t, pc, hp => (x.1 ≤ pc ∧ pc < x.2.1 ∧ x.2.2.2 ≠ 0) ∧ ∃ name, (Cond.classLink own x.2.2.2 name).before args s = true ∧ (((Cond.castable C name).before args s = true ∧ hp = x.2.2.1) ∨ ((Cond.not (.castable C name)).before args s = true ∧ xh_ok args s own C t pc hp))
theorem xh_go {e : Env} {S : State} {f : JFrame} {a : Addr} {x : ExceptionTableEntry} {t : List ExceptionTableEntry} {c : ClassId} {vm' : Vm} {cell : Cell} (hx : covers x f.pc = true) (h0 : x.catchType ≠ 0) (hg : (Jvm.resolveClass f.method.cls x.catchType).Gives e.toSetting S.vm (.ok c) vm') (hsz : vm'.classes.size ≤ S.vm.classes.size)
    (hcell : S.heap[a]? = some cell) (hobj : ∀ k, cell.vm ≠ .statics k) (hk : ∃ k, vm'.classes[cell.cls]? = some k) (hc : ∃ k, vm'.classes[c]? = some k) {Q : Handler → Pre} {E : CtlPost} {d : Bool} {acts : List Action} :
    wp (findHandler.go f a (x :: t)) Q E e d acts S ↔ if vm'.assignable cell.cls c = true then Q (.found x.handlerPc) d acts (S.setVm vm') else wp (findHandler.go f a t) Q E e d acts (S.setVm vm') := by
  obtain ⟨ha, ht⟩ := hg.op (op := VmOp.resolveClass f.method.cls x.catchType) rfl
  simp only [covers] at hx
  cases hfit : vm'.assignable cell.cls c <;>
    simp [findHandler.go, hx, h0, ha, ht, hsz, hcell, hobj, hk, hc, hfit, VmOp.dirties, VmOp.acts]
theorem xh_find {e : Env} {args : Array Value} {s : State} {own C : String} {f : JFrame} {a : Addr} {cell : Cell} {hp : Nat} (hpl : e.platform.magicAccessors = ({} : Platform).magicAccessors) (hown : s.vm.findClass own = some f.method.cls) (hC : s.vm.findClass C = some cell.cls) (hobj : ∀ k, cell.vm ≠ .statics k) :
    ∀ (es : List ExceptionTableEntry) (S : State), s.WarmedH S.vm → S.heap[a]? = some cell → xh_ok args s own C (es.map fun h => (h.startPc, h.endPc, h.handlerPc, h.catchType)) f.pc hp →
      ∃ vm', s.WarmedH vm' ∧ ∀ (Q : Handler → Pre) (E : CtlPost) (d : Bool) (acts : List Action), wp (findHandler.go f a es) Q E e d acts S ↔ Q (.found hp) d acts (S.setVm vm') := by
  intro es
  induction es with
  | nil => intro S hW hc h; exact h.elim
  | cons x t ih =>
    intro S hW hcell h
    obtain ⟨⟨h1, h2, h3⟩, name, hl, hor⟩ := h
    have hcov : covers x f.pc = true := by simp [covers]; exact ⟨h1, h2⟩
    obtain ⟨cn, hfn, hcl⟩ := Cond.classLink_spec hown hl e.platform hpl
    obtain ⟨hg, hwarm, hready⟩ := State.classEntry (e := e) hW hcl
    generalize hvm : S.vm.noted f.method.cls x.catchType (.cls cn) = vm₁ at hg hwarm hready
    have hal := hwarm.alike
    have hkc : ∃ k, vm₁.classes[cell.cls]? = some k := Vm.classAt_of_findClass (by rw [hal.findClass]; exact hC)
    have hkn : ∃ k, vm₁.classes[cn]? = some k := Vm.classAt_of_findClass (by rw [hal.findClass]; exact hfn)
    have hsz : vm₁.classes.size ≤ S.vm.classes.size := by rw [← hvm]; simp [Vm.noted]
    rcases hor with ⟨hca, rfl⟩ | ⟨hno, hrest⟩
    · obtain ⟨c3, c4, w1, w2, w3⟩ := Cond.castable_spec hca
      cases hC.symm.trans w1
      cases hfn.symm.trans w2
      refine ⟨vm₁, hwarm, fun Q E d acts => ?_⟩
      rw [xh_go hcov h3 hg hsz hcell hobj hkc hkn, if_pos (by rw [hal.assignable]; exact w3)]
    · have hna : s.vm.assignable cell.cls cn = false := by
        simp only [Cond.before, Cond.holds, Cond.value, hC, hfn] at hno
        simpa using hno
      obtain ⟨vm', hW', hiff⟩ := ih (S.setVm vm₁) hwarm hcell hrest
      refine ⟨vm', hW', fun Q E d acts => ?_⟩
      rw [xh_go hcov h3 hg hsz hcell hobj hkc hkn, if_neg (by rw [hal.assignable, hna]; decide), hiff]
      rfl
