/-! what is given of the start beside the tables: Throwable's two statics, two texts -/
def xg_sp : List Cond := [.laysStatic "java/lang/Throwable" "UNASSIGNED_STACK" "[Ljava/lang/StackTraceElement;", .laysStatic "java/lang/Throwable" "SUPPRESSED_SENTINEL" "Ljava/util/List;",
  .isRef (.static "java/lang/Throwable" "UNASSIGNED_STACK" "[Ljava/lang/StackTraceElement;"), .isRef (.static "java/lang/Throwable" "SUPPRESSED_SENTINEL" "Ljava/util/List;")]
def xg_nc : List Cond := [.not (.castable "java/lang/IllegalStateException" "java/lang/IllegalArgumentException"), .not (.castable "java/lang/UnsupportedOperationException" "java/lang/IllegalArgumentException"), .not (.castable "java/lang/UnsupportedOperationException" "java/lang/IllegalStateException"), .not (.castable "java/lang/IndexOutOfBoundsException" "java/lang/IllegalArgumentException")]
def xg_dc : List Cond := [.declares ⟨"java/lang/RuntimeException", "<init>", "()V"⟩, .declares ⟨"java/lang/RuntimeException", "<init>", "(Ljava/lang/String;)V"⟩, .declares ⟨"java/lang/Exception", "<init>", "()V"⟩, .declares ⟨"java/lang/Exception", "<init>", "(Ljava/lang/String;)V"⟩, .declares ⟨"java/lang/Throwable", "<init>", "()V"⟩, .declares ⟨"java/lang/Throwable", "<init>", "(Ljava/lang/String;)V"⟩]
def xv_G (Ω : xo_O) (U : State) : Prop := (∀ A : Array Value, ∀ w ∈ xg_sp, w.before A ({ U with heap := xo_H Ω } : State) = true) ∧ (∃ a1, vk_R "AccessDesk" 100 "a bound would be broken" a1 U) ∧ (∃ a2, vk_R "AccessDesk" 221 "not carried out" a2 U) ∧ (∀ A : Array Value, ∀ w ∈ xg_nc, w.before A U = true) ∧ ∀ A : Array Value, ∀ w ∈ xg_dc, w.before A U = true
theorem xg_sp_keep : ∀ w ∈ xg_sp, w.keeps = true := by decide +kernel
theorem xv_Gmv {Ω : xo_O} {s U : State} (hW : s.WarmedH U.vm) (h : xv_G Ω s) : xv_G Ω U := by
  refine ⟨fun A w hw => ?_, h.2.1.imp fun a z => z.warm hW, h.2.2.1.imp fun a z => z.warm hW, fun A w hw => ?_, fun A w hw => ?_⟩
  rotate_left
  · have h1 := Cond.castAtom_setVm (args := A) hW.alike w (by simp only [xg_nc, List.mem_cons, List.not_mem_nil, or_false] at hw; rcases hw with rfl | rfl | rfl | rfl <;> rfl) (h.2.2.2.1 A w hw)
    simp only [xg_nc, List.mem_cons, List.not_mem_nil, or_false] at hw
    rcases hw with rfl | rfl | rfl | rfl <;> exact h1
  · have h1 := h.2.2.2.2 A w hw
    simp only [xg_dc, List.mem_cons, List.not_mem_nil, or_false] at hw
    rcases hw with rfl | rfl | rfl | rfl | rfl | rfl <;> exact va_tabs rfl (rfl : (s.setVm U.vm).vm = U.vm) (Cond.before_warmed hW _ trivial h1)
  have hW' : ({ s with heap := xo_H Ω } : State).WarmedH U.vm := hW
  have h1 := Cond.holds_shifted (args := A) (o := none) (State.Shifted.of_warmed hW') w [] (xg_sp_keep w hw) (h.1 A w hw)
  simp only [xg_sp, List.mem_cons, List.not_mem_nil, or_false] at hw
  rcases hw with rfl | rfl | rfl | rfl <;> exact h1
/-- at a state whose old cells are the start's -/
theorem xv_Guse {Ω : xo_O} {U : State} (h : xv_G Ω U) (hz : (xo_H Ω).size = xo_s Ω) (h0 : ∀ q : Nat, q < xo_s Ω → U.heap[q]? = (xo_H Ω)[q]?) : ∀ A : Array Value, ∀ w ∈ xg_sp, w.before A U = true := by
  have ls : ∀ {n d : String} {A : Array Value}, (Cond.laysStatic "java/lang/Throwable" n d).before A ({ U with heap := xo_H Ω } : State) = true → (Cond.laysStatic "java/lang/Throwable" n d).before A U = true := by
    intro n d A hb
    obtain ⟨c, k, i, f, a, cell, hc, hi, hst, ha, hcell, hs, hcls, hlt, hty⟩ := Cond.laysStatic_spec hb
    have ha' : a < xo_s Ω := by rw [← hz]; exact (Array.getElem?_eq_some_iff.mp hcell).1
    have hc' : U.vm.findClass "java/lang/Throwable" = some c := hc
    have hi' : U.fieldFound? "java/lang/Throwable" n d = some (c, k, i, f) := hi
    have hcell' : U.heap[a]? = some cell := (h0 a ha').trans hcell
    simp [Cond.before, Cond.holds, Cond.value, hc', hi', ha, hcell', hst, hs, hcls, hlt, hty]
  have rf : ∀ {n d : String} {A : Array Value}, (Cond.laysStatic "java/lang/Throwable" n d).before A ({ U with heap := xo_H Ω } : State) = true → (Cond.isRef (.static "java/lang/Throwable" n d)).before A ({ U with heap := xo_H Ω } : State) = true → (Cond.isRef (.static "java/lang/Throwable" n d)).before A U = true := by
    intro n d A hb hr
    obtain ⟨c, k, i, f, a, cell, hc, hi, hst, ha, hcell, hs, hcls, hlt, hty⟩ := Cond.laysStatic_spec hb
    have ha' : a < xo_s Ω := by rw [← hz]; exact (Array.getElem?_eq_some_iff.mp hcell).1
    have hi' : U.fieldFound? "java/lang/Throwable" n d = some (c, k, i, f) := hi
    have hcell2 : (xo_H Ω)[a]? = some cell := hcell
    have hcell' : U.heap[a]? = some cell := (h0 a ha').trans hcell
    have e1 : (Term.static "java/lang/Throwable" n d).eval A U none [] U = (Term.static "java/lang/Throwable" n d).eval A ({ U with heap := xo_H Ω } : State) none [] ({ U with heap := xo_H Ω } : State) := by
      have hi2 : ({ U with heap := xo_H Ω } : State).fieldFound? "java/lang/Throwable" n d = some (c, k, i, f) := hi
      simp [Term.eval, State.fieldNamed?, hi', hi2, hst, ha, hcell', hcell2]
    simp only [Cond.before, Cond.holds, Cond.value] at hr ⊢
    rw [e1]
    exact hr
  intro A w hw
  have h1 := h.1 A
  simp only [xg_sp, List.mem_cons, List.not_mem_nil, or_false] at hw
  rcases hw with rfl | rfl | rfl | rfl
  · exact ls (h1 _ (by simp [xg_sp]))
  · exact ls (h1 _ (by simp [xg_sp]))
  · exact rf (h1 _ (by simp [xg_sp])) (h1 _ (by simp [xg_sp]))
  · exact rf (h1 _ (by simp [xg_sp])) (h1 _ (by simp [xg_sp]))
