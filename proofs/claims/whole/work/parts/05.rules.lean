/-! the judgement: from here the run ends in r -/
abbrev xv_R : Type := (Option Value ⊕ String) × xh_H
def xv_Q (Ω : xo_O) (r : xv_R) : Array Value → State → Outcome → State → Prop := fun _ _ o t =>
  xw Ω r.2 t.heap ∧ match r.1 with
    | .inl v => o = .returned (v.map (xw_c (xo_z Ω)))
    | .inr C => ∃ (x : Addr) (cell : Cell), o = .threw x ∧ xo_s Ω ≤ x ∧ t.heap[x]? = some cell ∧ cell.vm = .none ∧ t.vm.findClass C = some cell.cls
def xv_T (Ω : xo_O) (U : State) : Prop := (∀ (A : Array Value), ∀ w ∈ xt, w.before A U = true) ∧ va_K (xo_D Ω) vwCl (xw_tys (xo_c Ω)) U ∧ va_X (xo_z Ω).2 (xo_n Ω) (xo_x Ω) U (xo_H Ω) ∧ xv_G Ω U
def xv_X (Ω : xo_O) (M : Nat) (p : Program) (e : Env) (s : State) (m : MethodId) (meth : Method) (c : Code) : Prop :=
  (p.tables.exec = Jvm.exec ∧ c.code = xm_c M ∧ c.maxLocals = xm_l M) ∧ meth.sig.returnType = xm_r M ∧ meth.locks = false ∧ c.exceptionTable.toList.map (fun h => (h.startPc, h.endPc, h.handlerPc, h.catchType)) = xm_h M ∧
  s.vm.findClass (xm_y M).cls = some m.cls ∧ meth.name = (xm_y M).name ∧ xv_T Ω s ∧ (∀ q : Nat, q < xo_s Ω → s.heap[q]? = (xo_H Ω)[q]?) ∧ xo_s Ω ≤ s.heap.size ∧ e.platform.stackTraces = false
def xv (l : Launch) (Ω : xo_O) (d kc ks M pc : Nat) (L : List (Option Value)) (K : List Value) (h : xh_H) (r : xv_R) : Prop :=
  ∀ (p : Program) (e : Env) (R : Room) (s : State) (m : MethodId) (args : Array Value) (below : List Frame) (meth : Method) (c : Code) (H : Heap) (locs : List Loc) (cells slots : Nat) (ls : Array Slot),
    xv_X Ω M p e s m meth c → xw Ω h H → (∀ q ∈ locs, xo_s Ω ≤ q.base) → (d ≤ R.frames ∧ 60 * d ≤ R.locals ∧ cells + kc ≤ R.cells ∧ slots + ks ≤ R.slots) → xl (xo_z Ω) ls (xm_l M) L →
    W p l e R s m args below meth c H locs cells slots (xk_Z below (xv_Q Ω r) args s (cells + kc) (slots + ks) (fun q => xo_s Ω ≤ q)) (F0 m pc ls (K.map (xw_c (xo_z Ω))))
section XvRules
variable {l : Launch} {Ω : xo_O} {d kc ks M pc len : Nat} {L : List (Option Value)} {K : List Value} {h : xh_H} {r : xv_R} {i : Instr}
/-- constants -/
def xs_const (ck : Nat) (i : Instr) (len : Nat) : Option Int32 := match i, len with
  | .iconst n, 1 => some (Int32.ofInt n)
  | .bipush n, 2 => some (Int8.ofInt n).toInt32
  | .sipush n, 3 => some (Int16.ofInt n).toInt32
  | .ldc k, 2 => xz_c ck k
  | .ldc_w k, 3 => xz_c ck k
  | _, _ => none
theorem xr_const {v : Int32} (hM : M < 217) (hd : decode (xm_c M) pc = .ok (i, len)) (hv : xs_const (xm_k M) i len = some v) (k : xv l Ω d kc ks M (pc + len) L (.int v :: K) h r) : xv l Ω d kc ks M pc L K h r := by
  intro p e R s m args below meth c H locs cells slots ls C w hlo hR hL
  have k := k p e R s m args below meth c H locs cells slots ls C w hlo hR hL
  obtain ⟨⟨hx, hb, hml⟩, hret, hlk, htab, hown, hnm, hT, hs0, hsz, htr⟩ := C
  unfold xs_const at hv
  split at hv
  · cases hv; exact lv_iconst hx hb hd rfl k
  · cases hv; exact lv_bipush hx hb hd rfl k
  · cases hv; exact lv_sipush hx hb hd rfl k
  · exact W.ldc hx hb hown (hT.1 args _ (xz_c_ok hM hv)) rfl hd k
  · exact lv_ldcw hx hb hown (hT.1 args _ (xz_c_ok hM hv)) hd k
  · cases hv
/-- loads -/
def xs_ld (i : Instr) (len : Nat) : Option (Nat × Nat) := match i, len with
  | .iload n, 2 => some (0, n)
  | .iload_n n, 1 => some (0, n.val)
  | .aload n, 2 => some (1, n)
  | .aload_n n, 1 => some (1, n.val)
  | .lload n, 2 => some (2, n)
  | .lload_n n, 1 => some (2, n.val)
  | _, _ => none
def xs_fit (k : Nat) (v : Value) : Bool := match k, v with
  | 0, .int _ => true
  | 1, .ref _ => true
  | 1, .retAddr _ => true
  | 2, .long _ => true
  | _, _ => false
theorem xs_fit0 {v : Value} (h : xs_fit 0 v = true) : ∃ x, v = .int x := by cases v <;> first | exact ⟨_, rfl⟩ | cases h
theorem xs_fit1 (z : Nat × Nat) {v : Value} (h : xs_fit 1 v = true) : ∃ x, xw_c z v = .ref x := by cases v <;> first | exact ⟨_, rfl⟩ | cases h
theorem xs_fit2 {v : Value} (h : xs_fit 2 v = true) : ∃ x, v = .long x := by cases v <;> first | exact ⟨_, rfl⟩ | cases h
theorem xr_ld {q : Nat × Nat} {v : Value} (hd : decode (xm_c M) pc = .ok (i, len)) (hv : xs_ld i len = some q) (hl : L[q.2]? = some (some v)) (hf : xs_fit q.1 v = true) (k : xv l Ω d kc ks M (pc + len) L (v :: K) h r) : xv l Ω d kc ks M pc L K h r := by
  intro p e R s m args below meth c H locs cells slots ls C w hlo hR hL
  have k := k p e R s m args below meth c H locs cells slots ls C w hlo hR hL
  obtain ⟨⟨hx, hb, hml⟩, hret, hlk, htab, hown, hnm, hT, hs0, hsz, htr⟩ := C
  have hg := xl_get hL hl
  rw [List.map_cons] at k
  unfold xs_ld at hv
  split at hv <;> cases hv
  · obtain ⟨x, rfl⟩ := xs_fit0 hf
    exact lv_iload hx hb hd hg k
  · obtain ⟨x, rfl⟩ := xs_fit0 hf
    exact lv_iload_n hx hb hd rfl hg k
  · obtain ⟨x, hx1⟩ := xs_fit1 (xo_z Ω) hf
    rw [hx1] at hg k
    exact lv_aload hx hb hd hg k
  · obtain ⟨x, hx1⟩ := xs_fit1 (xo_z Ω) hf
    rw [hx1] at hg k
    exact lv_aload_n hx hb hd rfl hg k
  · obtain ⟨x, rfl⟩ := xs_fit2 hf
    exact lv_lload hx hb hd hg k
  · obtain ⟨x, rfl⟩ := xs_fit2 hf
    exact lv_lload_n hx hb hd rfl hg k
/-- stores -/
def xs_st (i : Instr) (len : Nat) : Option (Nat × Nat) := match i, len with
  | .istore n, 2 => some (0, n)
  | .istore_n n, 1 => some (0, n.val)
  | .astore n, 2 => some (1, n)
  | .astore_n n, 1 => some (1, n.val)
  | _, _ => none
theorem xr_st {q : Nat × Nat} {v : Value} (hd : decode (xm_c M) pc = .ok (i, len)) (hv : xs_st i len = some q) (hf : xs_fit q.1 v = true) (hn : q.2 < L.length) (hok : xl_ok L q.2 = true) (k : xv l Ω d kc ks M (pc + len) (L.set q.2 (some v)) K h r) : xv l Ω d kc ks M pc L (v :: K) h r := by
  intro p e R s m args below meth c H locs cells slots ls C w hlo hR hL
  have k := fun ls' => k p e R s m args below meth c H locs cells slots ls' C w hlo hR
  obtain ⟨⟨hx, hb, hml⟩, hret, hlk, htab, hown, hnm, hT, hs0, hsz, htr⟩ := C
  have hn' : q.2 < xm_l M := by rw [← hL.1]; exact hn
  rw [List.map_cons]
  unfold xs_st at hv
  split at hv <;> cases hv
  · obtain ⟨x, rfl⟩ := xs_fit0 hf
    exact lv_istore hx hb hd hL.2 hn' rfl fun ls' h' => k ls' (xl_put (v := .int x) hL.1 hok h')
  · obtain ⟨x, rfl⟩ := xs_fit0 hf
    exact lv_istore_n hx hb hd rfl hL.2 hn' rfl fun ls' h' => k ls' (xl_put (v := .int x) hL.1 hok h')
  · obtain ⟨x, hx1⟩ := xs_fit1 (xo_z Ω) hf
    rw [hx1]
    exact lv_astore hx hb hd hL.2 hn' rfl fun ls' h' => k ls' (xl_put hL.1 hok (by rw [hx1]; exact h'))
  · obtain ⟨x, hx1⟩ := xs_fit1 (xo_z Ω) hf
    rw [hx1]
    exact lv_astore_n hx hb hd rfl hL.2 hn' rfl fun ls' h' => k ls' (xl_put hL.1 hok (by rw [hx1]; exact h'))
theorem xr_iinc {n : Nat} {z : Int} {x : Int32} (hd : decode (xm_c M) pc = .ok (.iinc n z, 3)) (hl : L[n]? = some (some (.int x))) (hok : xl_ok L n = true) (k : xv l Ω d kc ks M (pc + 3) (L.set n (some (.int (x + Int32.ofInt z)))) K h r) : xv l Ω d kc ks M pc L K h r := by
  intro p e R s m args below meth c H locs cells slots ls C w hlo hR hL
  have k := fun ls' => k p e R s m args below meth c H locs cells slots ls' C w hlo hR
  obtain ⟨⟨hx, hb, hml⟩, hret, hlk, htab, hown, hnm, hT, hs0, hsz, htr⟩ := C
  have hn' : n < xm_l M := by rw [← hL.1]; exact (List.getElem?_eq_some_iff.mp hl).1
  obtain ⟨j, hj⟩ := List.getElem?_of_mem (xl_mem (sz := xo_z Ω) hl)
  exact lv_iinc hx hb hd hL.2 hj rfl hn' rfl fun ls' h' => k ls' (xl_put (v := .int (x + Int32.ofInt z)) hL.1 hok h')
/-- two ints to one -/
def xs_bin (i : Instr) (x y : Int32) : Option Int32 := match i with
  | .iadd => some (x + y)
  | .isub => some (x - y)
  | .imul => some (x * y)
  | .iand => some (x &&& y)
  | .ior => some (x ||| y)
  | .ixor => some (x ^^^ y)
  | .ishl => some (x <<< (y &&& 31))
  | .ishr => some (x >>> (y &&& 31))
  | .iushr => some (x.toUInt32 >>> (y.toUInt32 &&& Int32.toUInt32 31)).toInt32
  | _ => none
theorem xr_bin {x y v : Int32} (hd : decode (xm_c M) pc = .ok (i, 1)) (hv : xs_bin i x y = some v) (k : xv l Ω d kc ks M (pc + 1) L (.int v :: K) h r) : xv l Ω d kc ks M pc L (.int y :: .int x :: K) h r := by
  intro p e R s m args below meth c H locs cells slots ls C w hlo hR hL
  have k := k p e R s m args below meth c H locs cells slots ls C w hlo hR hL
  obtain ⟨⟨hx, hb, hml⟩, hret, hlk, htab, hown, hnm, hT, hs0, hsz, htr⟩ := C
  unfold xs_bin at hv
  split at hv <;> cases hv
  · exact lv_iadd hx hb hd k
  · exact lv_isub hx hb hd k
  · exact lv_imul hx hb hd k
  · exact lv_iand hx hb hd k
  · exact lv_ior hx hb hd k
  · exact lv_ixor hx hb hd k
  · exact lv_ishl hx hb hd k
  · exact lv_ishr hx hb hd k
  · exact lv_iushr hx hb hd rfl k
def xs_div (i : Instr) (x y : Int32) : Option Int32 := match i with
  | .idiv => some (x / y)
  | .irem => some (x - x / y * y)
  | _ => none
theorem xr_div {x y v : Int32} (hd : decode (xm_c M) pc = .ok (i, 1)) (hv : xs_div i x y = some v) (hy : ¬ y = 0) (k : xv l Ω d kc ks M (pc + 1) L (.int v :: K) h r) : xv l Ω d kc ks M pc L (.int y :: .int x :: K) h r := by
  intro p e R s m args below meth c H locs cells slots ls C w hlo hR hL
  have k := k p e R s m args below meth c H locs cells slots ls C w hlo hR hL
  obtain ⟨⟨hx, hb, hml⟩, hret, hlk, htab, hown, hnm, hT, hs0, hsz, htr⟩ := C
  unfold xs_div at hv
  split at hv <;> cases hv
  · exact lv_idiv hx hb hd hy k
  · exact lv_irem hx hb hd hy k
/-- the stack turned, longs: by the stack's own form -/
def xs_stk (i : Instr) (K : List Value) : Option (List Value) := match i, K with
  | .dup, a :: K => bif a.category == 1 then some (a :: a :: K) else none
  | .pop, a :: K => bif a.category == 1 then some K else none
  | .dup_x1, a :: b :: K => bif a.category == 1 && b.category == 1 then some (a :: b :: a :: K) else none
  | .dup_x2, a :: b :: c :: K => bif a.category == 1 && (b.category == 1 && c.category == 1) then some (a :: b :: c :: a :: K) else none
  | .dup2, a :: b :: K => bif a.category == 1 && b.category == 1 then some (a :: b :: a :: b :: K) else none
  | .ineg, .int x :: K => some (.int (-x) :: K)
  | .i2l, .int x :: K => some (.long x.toInt64 :: K)
  | .l2i, .long x :: K => some (.int x.toInt32 :: K)
  | .land, .long y :: .long x :: K => some (.long (x &&& y) :: K)
  | .lor, .long y :: .long x :: K => some (.long (x ||| y) :: K)
  | .lshl, .int y :: .long x :: K => some (.long (x <<< (y.toInt64 &&& 63)) :: K)
  | .lushr, .int y :: .long x :: K => some (.long (x.toUInt64 >>> (y.toInt64.toUInt64 &&& Int64.toUInt64 63)).toInt64 :: K)
  | .lcmp, .long y :: .long x :: K => some (.int (lg_cmp x y) :: K)
  | _, _ => none
theorem xr_stk {K' : List Value} (hd : decode (xm_c M) pc = .ok (i, 1)) (hv : xs_stk i K = some K') (k : xv l Ω d kc ks M (pc + 1) L K' h r) : xv l Ω d kc ks M pc L K h r := by
  intro p e R s m args below meth c H locs cells slots ls C w hlo hR hL
  have k := k p e R s m args below meth c H locs cells slots ls C w hlo hR hL
  obtain ⟨⟨hx, hb, hml⟩, hret, hlk, htab, hown, hnm, hT, hs0, hsz, htr⟩ := C
  have ct : ∀ v : Value, (v.category == 1) = true → (xw_c (xo_z Ω) v).category = 1 := fun v hv => by rw [xw_cat]; simpa using hv
  unfold xs_stk at hv
  split at hv
  · rw [cond_eq_ite] at hv; split at hv
    · rename_i q; cases hv; exact lv_dup hx hb hd (ct _ q) k
    · cases hv
  · rw [cond_eq_ite] at hv; split at hv
    · rename_i q; cases hv; exact lv_pop hx hb hd (ct _ q) k
    · cases hv
  · rw [cond_eq_ite] at hv; split at hv
    · rename_i q; cases hv; rw [Bool.and_eq_true] at q; exact lv_dup_x1 hx hb hd (ct _ q.1) (ct _ q.2) k
    · cases hv
  · rw [cond_eq_ite] at hv; split at hv
    · rename_i q; cases hv; rw [Bool.and_eq_true, Bool.and_eq_true] at q; exact lv_dup_x2 hx hb hd (ct _ q.1) (ct _ q.2.1) (ct _ q.2.2) k
    · cases hv
  · rw [cond_eq_ite] at hv; split at hv
    · rename_i q; cases hv; rw [Bool.and_eq_true] at q; exact lv_dup2_11 hx hb hd (ct _ q.1) (ct _ q.2) k
    · cases hv
  · cases hv; exact lv_ineg hx hb hd k
  · cases hv; exact lv_i2l hx hb hd rfl k
  · cases hv; exact lv_l2i hx hb hd rfl k
  · cases hv; exact lv_land hx hb hd k
  · cases hv; exact lv_lor hx hb hd k
  · cases hv; exact lv_lshl hx hb hd rfl k
  · cases hv; exact lv_lushr hx hb hd rfl k
  · cases hv; exact W.lcmp hx hb hd k
  · cases hv
theorem xr_ldc2 {n : Nat} {v : Int64} (hM : M < 217) (hd : decode (xm_c M) pc = .ok (.ldc2_w n, 3)) (hv : xz_c2 (xm_k M) n = some v) (k : xv l Ω d kc ks M (pc + 3) L (.long v :: K) h r) : xv l Ω d kc ks M pc L K h r := by
  intro p e R s m args below meth c H locs cells slots ls C w hlo hR hL
  have k := k p e R s m args below meth c H locs cells slots ls C w hlo hR hL
  obtain ⟨⟨hx, hb, hml⟩, hret, hlk, htab, hown, hnm, hT, hs0, hsz, htr⟩ := C
  exact W.ldc2 hx hb hown (hT.1 args _ (xz_c2_ok hM hv)) rfl hd k
/-- jumps -/
theorem xr_goto {o : Int} {tgt : Nat} (hd : decode (xm_c M) pc = .ok (.goto o, 3)) (ht : (pc : Int) + o = (tgt : Int)) (k : xv l Ω d kc ks M tgt L K h r) : xv l Ω d kc ks M pc L K h r := by
  intro p e R s m args below meth c H locs cells slots ls C w hlo hR hL
  have k := k p e R s m args below meth c H locs cells slots ls C w hlo hR hL
  obtain ⟨⟨hx, hb, hml⟩, hret, hlk, htab, hown, hnm, hT, hs0, hsz, htr⟩ := C
  exact lv_goto hx hb hd ht k
def xs_if1 (i : Instr) (x : Int32) : Option (Prop × Prop) := match i with
  | .ifCond .eq _ => some (x = 0, ¬ x = 0)
  | .ifCond .ne _ => some (¬ x = 0, x = 0)
  | .ifCond .lt _ => some (x < 0, ¬ x < 0)
  | .ifCond .ge _ => some (0 ≤ x, ¬ 0 ≤ x)
  | .ifCond .gt _ => some (0 < x, ¬ 0 < x)
  | .ifCond .le _ => some (x ≤ 0, ¬ x ≤ 0)
  | _ => none
def xs_if2 (i : Instr) (x y : Int32) : Option (Prop × Prop) := match i with
  | .if_icmp .eq _ => some (x = y, ¬ x = y)
  | .if_icmp .ne _ => some (¬ x = y, x = y)
  | .if_icmp .lt _ => some (x < y, ¬ x < y)
  | .if_icmp .ge _ => some (y ≤ x, ¬ y ≤ x)
  | .if_icmp .gt _ => some (y < x, ¬ y < x)
  | .if_icmp .le _ => some (x ≤ y, ¬ x ≤ y)
  | _ => none
theorem xr_if1 {x : Int32} {P : Prop × Prop} {tgt : Nat} (hd : decode (xm_c M) pc = .ok (i, 3)) (hi : xs_if1 i x = some P) (ht : ∀ o, xs_off i = some o → (pc : Int) + o = (tgt : Int)) (kt : P.1 → xv l Ω d kc ks M tgt L K h r) (kf : P.2 → xv l Ω d kc ks M (pc + 3) L K h r) : xv l Ω d kc ks M pc L (.int x :: K) h r := by
  intro p e R s m args below meth c H locs cells slots ls C w hlo hR hL
  have kt := fun z => kt z p e R s m args below meth c H locs cells slots ls C w hlo hR hL
  have kf := fun z => kf z p e R s m args below meth c H locs cells slots ls C w hlo hR hL
  obtain ⟨⟨hx, hb, hml⟩, hret, hlk, htab, hown, hnm, hT, hs0, hsz, htr⟩ := C
  unfold xs_if1 at hi
  split at hi <;> cases hi
  · exact lv_if_eq hx hb hd (ht _ rfl) kt kf
  · exact lv_if_ne hx hb hd (ht _ rfl) kt kf
  · exact lv_if_lt hx hb hd (ht _ rfl) kt kf
  · exact lv_if_ge hx hb hd (ht _ rfl) kt kf
  · exact lv_if_gt hx hb hd (ht _ rfl) kt kf
  · exact lv_if_le hx hb hd (ht _ rfl) kt kf
theorem xr_if2 {x y : Int32} {P : Prop × Prop} {tgt : Nat} (hd : decode (xm_c M) pc = .ok (i, 3)) (hi : xs_if2 i x y = some P) (ht : ∀ o, xs_off i = some o → (pc : Int) + o = (tgt : Int)) (kt : P.1 → xv l Ω d kc ks M tgt L K h r) (kf : P.2 → xv l Ω d kc ks M (pc + 3) L K h r) : xv l Ω d kc ks M pc L (.int y :: .int x :: K) h r := by
  intro p e R s m args below meth c H locs cells slots ls C w hlo hR hL
  have kt := fun z => kt z p e R s m args below meth c H locs cells slots ls C w hlo hR hL
  have kf := fun z => kf z p e R s m args below meth c H locs cells slots ls C w hlo hR hL
  obtain ⟨⟨hx, hb, hml⟩, hret, hlk, htab, hown, hnm, hT, hs0, hsz, htr⟩ := C
  unfold xs_if2 at hi
  split at hi <;> cases hi
  · exact lv_icmp_eq hx hb hd (ht _ rfl) kt kf
  · exact lv_icmp_ne hx hb hd (ht _ rfl) kt kf
  · exact lv_icmp_lt hx hb hd (ht _ rfl) kt kf
  · exact lv_icmp_ge hx hb hd (ht _ rfl) kt kf
  · exact lv_icmp_gt hx hb hd (ht _ rfl) kt kf
  · exact lv_icmp_le hx hb hd (ht _ rfl) kt kf
theorem xs_if1_no {x : Int32} {P : Prop × Prop} (hi : xs_if1 i x = some P) : P.1 → ¬ P.2 := by
  unfold xs_if1 at hi
  split at hi <;> cases hi <;> intro a b <;> (first | exact b a | exact a b)
theorem xs_if2_no {x y : Int32} {P : Prop × Prop} (hi : xs_if2 i x y = some P) : P.1 → ¬ P.2 := by
  unfold xs_if2 at hi
  split at hi <;> cases hi <;> intro a b <;> (first | exact b a | exact a b)
end XvRules
