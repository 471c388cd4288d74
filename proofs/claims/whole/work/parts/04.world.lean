/-! the world of a run: cells by number; ints, references, longs by cell and place -/
abbrev xh_H : Type := (Bool × Nat) × (Nat → Nat → Int32) × (Nat → Nat → Nat) × (Nat → Nat → Int64)
def xh_ui (f : Nat → Nat → Int32) (a i : Nat) (v : Int32) : Nat → Nat → Int32 := fun b => if b = a then upd (f b) i v else f b
def xh_ur (f : Nat → Nat → Nat) (a i : Nat) (v : Nat) : Nat → Nat → Nat := fun b => if b = a then (fun j => if j = i then v else f b j) else f b
def xh_ul (f : Nat → Nat → Int64) (a i : Nat) (v : Int64) : Nat → Nat → Int64 := fun b => if b = a then vp_updL (f b) i v else f b
/-- what stays the same over a run: the classes' numbers and slots; the array classes; the first new cell's address and the script's; the heap at the start; the script's length and ints -/
abbrev xo_O : Type := va_G × (Nat → ClassId) × (Nat × Nat) × Heap × Nat × (Nat → Int32)
abbrev xo_D (Ω : xo_O) : va_G := Ω.1
abbrev xo_c (Ω : xo_O) : Nat → ClassId := Ω.2.1
abbrev xo_z (Ω : xo_O) : Nat × Nat := Ω.2.2.1
abbrev xo_s (Ω : xo_O) : Nat := Ω.2.2.1.1
abbrev xo_H (Ω : xo_O) : Heap := Ω.2.2.2.1
abbrev xo_n (Ω : xo_O) : Nat := Ω.2.2.2.2.1
abbrev xo_x (Ω : xo_O) : Nat → Int32 := Ω.2.2.2.2.2
/-- a value of the small machine as the machine has it: a cell's number, its address; the script -/
def xw_c (z : Nat × Nat) : Value → Value
  | .ref i => .ref (z.1 + i)
  | .retAddr _ => .ref z.2
  | v => v
def xw_v : Nat → Value
  | 0 => .null
  | r + 1 => .ref r
def xw_f (z : Nat × Nat) (ft : List Bool) (f : Nat → Int32) (g : Nat → Nat) : List Value := ft.mapIdx fun k b => bif b then xw_c z (xw_v (g k)) else .int (f k)
def xw_e (cA : Nat → ClassId) (z : Nat × Nat) (h : xh_H) (i : Nat) : Nat × Nat → va_E
  | (0, ci) => .inr (ci, xw_f z (xz_f ci) (h.2.1 i) (h.2.2.1 i))
  | (1, n) => .inl (cA 0, n, .inl (h.2.1 i))
  | (2, n) => .inl (cA 1, n, .inl (h.2.1 i))
  | (3, n) => .inl (cA 2, n, .inr (.inl (h.2.2.2 i)))
  | (_, n) => .inl (cA 0, n, .inl (fun _ => 0))
def xw_ws (cA : Nat → ClassId) (z : Nat × Nat) (h : xh_H) : va_W := (List.range h.1.2).map fun i => (z.1 + i, xw_e cA z h i (xz_k i))
def xw_tys (cA : Nat → ClassId) : List (ClassId × FieldType) := [(cA 0, .int), (cA 1, .boolean), (cA 2, .long)]
def xw (Ω : xo_O) (h : xh_H) (H : Heap) : Prop :=
  va_P (xo_D Ω) vwCl (xw_ws (xo_c Ω) (xo_z Ω) h) H ∧ (xo_H Ω).size = xo_s Ω ∧ xo_s Ω + h.1.2 ≤ H.size ∧ (h.1.1 = true → H.size = xo_s Ω + h.1.2) ∧ ∀ q : Nat, q < xo_s Ω → H[q]? = (xo_H Ω)[q]?
theorem xw_at {cA : Nat → ClassId} {z : Nat × Nat} {h : xh_H} {i : Nat} (hi : i < h.1.2) : (xw_ws cA z h)[i]? = some (z.1 + i, xw_e cA z h i (xz_k i)) := by
  unfold xw_ws
  rw [List.getElem?_map, List.getElem?_range hi]
  rfl
theorem xw_D (cA : Nat → ClassId) (z : Nat × Nat) (h : xh_H) : va_D (fun q => z.1 ≤ q) (xw_ws cA z h) := by
  have key : ∀ (k : Nat) (q : Nat × va_E), (xw_ws cA z h)[k]? = some q → q.1 = z.1 + k := by
    intro k q hk
    unfold xw_ws at hk
    rw [List.getElem?_map] at hk
    cases hr : (List.range h.1.2)[k]? with
    | none => rw [hr] at hk; cases hk
    | some j =>
      rw [hr] at hk
      have hj : j = k := by
        obtain ⟨h1, h2⟩ := List.getElem?_eq_some_iff.mp hr
        rw [← h2]; simp
      subst hj
      cases hk
      rfl
  refine ⟨fun i j x y hi hj hxy => ?_, fun k q hk => ?_⟩
  · have := key i x hi
    have := key j y hj
    omega
  · have := key k q hk
    show z.1 ≤ q.1
    omega
theorem xw_S {Ω : xo_O} {H : Heap} {h : xh_H} {locs : List Loc} (w : xw Ω h H) (hl : ∀ q ∈ locs, xo_s Ω ≤ q.base) : va_S (fun q => xo_s Ω ≤ q) (xo_H Ω) H locs :=
  ⟨by have := w.2.1; have := w.2.2.1; omega, fun q h1 h2 => w.2.2.2.2 q (by have := w.2.1; omega), hl⟩
/-- the list of cells behind a change of one -/
theorem xw_set {cA : Nat → ClassId} {z : Nat × Nat} {h h' : xh_H} {i : Nat} {e : va_E} (hn : h'.1.2 = h.1.2) (hi : i < h.1.2) (he : xw_e cA z h' i (xz_k i) = e) (ho : ∀ j, j ≠ i → xw_e cA z h' j (xz_k j) = xw_e cA z h j (xz_k j)) :
    (xw_ws cA z h).set i (z.1 + i, e) = xw_ws cA z h' := by
  apply List.ext_getElem?
  intro j
  by_cases hj : j = i
  · subst hj
    rw [xw_at (h := h') (by omega), List.getElem?_set_self (by simpa [xw_ws] using hi), he]
  · rw [List.getElem?_set_ne (fun q => hj q.symm)]
    by_cases hl : j < h.1.2
    · rw [xw_at hl, xw_at (h := h') (by omega), ho j hj]
    · simp [xw_ws, hn, hl]
theorem xw_after {Ω : xo_O} {H H1 : Heap} {h h' : xh_H} {i : Nat} {e : va_E} {locs1 : List Loc} (w : xw Ω h H) (hf : h'.1 = h.1) (hi : i < h.1.2) (he : xw_e (xo_c Ω) (xo_z Ω) h' i (xz_k i) = e) (ho : ∀ j, j ≠ i → xw_e (xo_c Ω) (xo_z Ω) h' j (xz_k j) = xw_e (xo_c Ω) (xo_z Ω) h j (xz_k j))
    (hz : H1.size = H.size) (hP : va_P (xo_D Ω) vwCl ((xw_ws (xo_c Ω) (xo_z Ω) h).set i (xo_s Ω + i, e)) H1) (hS : va_S (fun q => xo_s Ω ≤ q) (xo_H Ω) H1 locs1) : xw Ω h' H1 := by
  rw [xw_set (h' := h') (by rw [hf]) hi he ho] at hP
  refine ⟨hP, w.2.1, ?_, ?_, fun q hq => hS.2.1 q (by have := w.2.1; omega) (by omega)⟩
  · rw [hz, hf]; exact w.2.2.1
  · rw [hz, hf]; exact w.2.2.2.1
/-! locals -/
def xl_l (sz : Nat × Nat) (L : List (Option Value)) : List (Nat × Value) := (List.range L.length).filterMap fun i => (L[i]?.join).map fun v => (i, xw_c sz v)
def xl (sz : Nat × Nat) (ls : Array Slot) (n : Nat) (L : List (Option Value)) : Prop := L.length = n ∧ lv_has ls n (xl_l sz L)
theorem xl_mem {sz : Nat × Nat} {L : List (Option Value)} {i : Nat} {v : Value} (h : L[i]? = some (some v)) : (i, xw_c sz v) ∈ xl_l sz L := by
  refine List.mem_filterMap.mpr ⟨i, List.mem_range.mpr (List.getElem?_eq_some_iff.mp h).1, ?_⟩
  rw [h]
  rfl
theorem xl_get {sz : Nat × Nat} {ls : Array Slot} {n : Nat} {L : List (Option Value)} {i : Nat} {v : Value} (h : xl sz ls n L) (hi : L[i]? = some (some v)) : ls[i]? = some (.val (xw_c sz v)) := h.2.2.2 _ (xl_mem hi)
theorem xw_cat (sz : Nat × Nat) (v : Value) : (xw_c sz v).category = v.category := by cases v <;> rfl
/-- may one slot at i be written: no long ends there -/
def xl_ok (L : List (Option Value)) (i : Nat) : Bool := match i with
  | 0 => true
  | j + 1 => match L[j]? with
    | some (some v) => v.category == 1
    | _ => true
theorem xl_put {sz : Nat × Nat} {ls' : Array Slot} {n : Nat} {L : List (Option Value)} {i : Nat} {v : Value} (hL : L.length = n) (hok : xl_ok L i = true) (h : lv_has ls' n ((i, xw_c sz v) :: (xl_l sz L).filter (fun q => !(q.1 == i) && !(q.1 + 1 == i && q.2.category == 2)))) : xl sz ls' n (L.set i (some v)) := by
  refine ⟨by simpa using hL, h.1, h.2.1, fun q hq => ?_⟩
  obtain ⟨j, hj, hjv⟩ := List.mem_filterMap.mp hq
  by_cases hji : j = i
  · subst hji
    have hlt : j < L.length := by simpa using List.mem_range.mp hj
    rw [List.getElem?_set_self hlt] at hjv
    cases hjv
    exact h.2.2 _ List.mem_cons_self
  · rw [List.getElem?_set_ne (fun z => hji z.symm)] at hjv
    cases hw : L[j]? with
    | none => rw [hw] at hjv; cases hjv
    | some o =>
      cases o with
      | none => rw [hw] at hjv; cases hjv
      | some w =>
        rw [hw] at hjv
        cases hjv
        refine h.2.2 _ (List.mem_cons_of_mem _ (List.mem_filter.mpr ⟨xl_mem hw, ?_⟩))
        have : ¬ (j + 1 = i ∧ (xw_c sz w).category = 2) := by
          rintro ⟨h1, h2⟩
          subst h1
          rw [xw_cat] at h2
          simp [xl_ok, hw, h2] at hok
        simp only [Bool.and_eq_true, Bool.not_eq_true', beq_eq_false_iff_ne, ne_eq, hji, not_false_eq_true, true_and, Bool.and_eq_false_iff]
        by_cases h1 : j + 1 = i
        · exact Or.inr (fun h2 => this ⟨h1, h2⟩)
        · exact Or.inl h1
