/-! a method by the judgement of its body; its call -/
def xs_fm (vs : List Value) : List (Option Value) := vs.flatMap fun v => bif v.category == 2 then [some v, none] else [some v]
def xs_loc (n : Nat) (vs : List Value) : List (Option Value) := xs_fm vs ++ List.replicate (n - (xs_fm vs).length) none
theorem xs_fm_len (sz : Nat × Nat) (vs : List Value) : (lg_sl (vs.map (xw_c sz))).length = (xs_fm vs).length := by
  induction vs with
  | nil => rfl
  | cons v t ih =>
    simp only [lg_sl, xs_fm, List.map_cons, List.flatMap_cons, List.length_append] at ih ⊢
    rw [ih, xw_cat]
    by_cases hc : v.category = 2
    · simp [hc]
    · have hc' : (v.category == 2) = false := by simpa using hc
      simp [hc, hc']
theorem xs_fm_at (sz : Nat × Nat) (vs : List Value) : ∀ (i : Nat) (v : Value), (xs_fm vs)[i]? = some (some v) → (lg_sl (vs.map (xw_c sz)))[i]? = some (.val (xw_c sz v)) := by
  induction vs with
  | nil => intro i v h; simp [xs_fm] at h
  | cons w t ih =>
    intro i v h
    simp only [lg_sl, xs_fm, List.map_cons, List.flatMap_cons] at ih h ⊢
    rw [xw_cat]
    by_cases hc : w.category = 2
    · simp only [hc, BEq.rfl, cond_true, if_true] at h ⊢
      match i with
      | 0 => simp only [List.cons_append, List.getElem?_cons_zero] at h ⊢; cases h; rfl
      | 1 => simp at h
      | j + 2 =>
        simp only [List.cons_append, List.nil_append, List.getElem?_cons_succ] at h ⊢
        exact ih j v h
    · have hc' : (w.category == 2) = false := by simpa using hc
      simp only [hc', cond_false, if_neg hc] at h ⊢
      match i with
      | 0 => simp only [List.cons_append, List.getElem?_cons_zero] at h ⊢; cases h; rfl
      | j + 1 =>
        simp only [List.cons_append, List.nil_append, List.getElem?_cons_succ] at h ⊢
        exact ih j v h
theorem xl_entry (sz : Nat × Nat) (vs : List Value) {n : Nat} (hn : (xs_fm vs).length ≤ n) : xl sz ((lg_sl (vs.map (xw_c sz)) ++ List.replicate (n - (lg_sl (vs.map (xw_c sz))).length) Slot.unset).toArray) n (xs_loc n vs) := by
  have hl := lv_entry (vs.map (xw_c sz)) (n := n) (by rw [xs_fm_len]; exact hn)
  refine ⟨by simp [xs_loc]; omega, hl.1, hl.2.1, fun q hq => ?_⟩
  obtain ⟨i, hi, hv⟩ := List.mem_filterMap.mp hq
  cases ho : (xs_loc n vs)[i]? with
  | none => rw [ho] at hv; cases hv
  | some o =>
    cases o with
    | none => rw [ho] at hv; cases hv
    | some v =>
      rw [ho] at hv
      cases hv
      show ((lg_sl (vs.map (xw_c sz)) ++ List.replicate (n - (lg_sl (vs.map (xw_c sz))).length) Slot.unset).toArray)[i]? = _
      rw [List.getElem?_toArray]
      unfold xs_loc at ho
      by_cases hlt : i < (xs_fm vs).length
      · rw [List.getElem?_append_left hlt] at ho
        rw [List.getElem?_append_left (by rw [xs_fm_len]; exact hlt)]
        exact xs_fm_at sz vs i v ho
      · rw [List.getElem?_append_right (by omega)] at ho
        rw [List.getElem?_replicate] at ho
        split at ho <;> cases ho
def xv_P (Ω : xo_O) (vs : List Value) (h : xh_H) : Array Value → State → Prop := fun a U =>
  a = (vs.map (xw_c (xo_z Ω))).toArray ∧ xv_T Ω U ∧ (∀ q : Nat, q < xo_s Ω → U.heap[q]? = (xo_H Ω)[q]?) ∧ xo_s Ω ≤ U.heap.size ∧ xw Ω h U.heap
def xv_rm (d kc ks : Nat) : Room := { frames := d, cells := kc, slots := ks, locals := 60 * d }
theorem xv_met {l : Launch} {Ω : xo_O} {d kc ks M : Nat} {vs : List Value} {h : xh_H} {r : xv_R} (htr : ∀ e, l.admits e → e.platform.stackTraces = false) (hpl : plainFor (xm_y M) = true) (hn : (xs_fm vs).length ≤ xm_l M)
    (hv : xv l Ω d kc ks M 0 (xs_loc (xm_l M) vs) [] h r) :
    xk_Met l (xm_y M) (Cond.codeWith (xm_y M) (xm_c M) (xm_l M) (xm_r M) (xm_h M)) (xv_rm d kc ks) (xv_P Ω vs h) (xv_Q Ω r) kc ks (fun q => xo_s Ω ≤ q) := by
  refine xk_ofW hpl ?_
  intro p e s m args below meth c s₁ B hml htab hP
  obtain ⟨rfl, hT, h0, hz, hw⟩ := hP
  have k := hv p e (xv_rm d kc ks) s m (vs.map (xw_c (xo_z Ω))).toArray below meth c s.heap [] 0 0 _ ⟨⟨B.exec, B.bytes, hml⟩, B.returns, B.notSynchronized, htab, findClass_of_methodNamed B.named, (name_of_methodNamed B.named B.method).1, hT, h0, hz, htr e B.admits⟩ hw (fun q hq => by cases hq)
    ⟨Nat.le_refl _, Nat.le_refl _, by simp [xv_rm], by simp [xv_rm]⟩ (xl_entry (xo_z Ω) vs hn)
  rw [lg_entry_eq]
  simpa using k
