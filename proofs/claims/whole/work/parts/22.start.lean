/-! the start: the claim out of the law's judgement -/
def R_law : String := "AccessDeskLaw"
def lw_P (b : Addr) (xs : List Int32) (args : Array Value) (s : State) : Prop := args = #[.ref b] ∧ s.IntsAt b xs ∧ xs.length ≤ 2560 ∧ (Jvm.Cond.and given_1 narrow_1).before args s = true
def lw_Q (_ : Array Value) (s : State) (o : Outcome) (t : State) : Prop := o = .returned (some (.int 1)) ∧ Framed s o t [] 601024 7293034
def lw_Z (below : List Frame) (a : Array Value) (s : State) : State → Prop := fun t => ∃ o, t.status = .running ∧ Ended t below o ∧ lw_Q a s o t
def lw_At (p : Program) (s : State) (m : MethodId) (meth : Method) (c : Code) (b L : Nat) (xs : Nat → Int32) : Prop :=
  p.tables.exec = Jvm.exec ∧ c.code = code ∧ meth.sig.returnType = ret ∧ c.maxLocals = 7 ∧ s.vm.findClass R_law = some m.cls ∧ (∀ w ∈ lw_tbl, w.before #[Value.ref b] s = true) ∧ va_X b L xs s s.heap ∧ b < s.heap.size ∧ meth.locks = false ∧ (Jvm.Cond.and given_1 narrow_1).before #[Value.ref b] s = true
theorem xx_one {own : String} {n ci : Nat} (h : xg_N own n ci) : ∀ q : vw_C, vwCl[ci]? = some q → (∀ w ∈ u_ws q.1 q.2.1 q.2.2, w ∈ xt) ∧ Cond.instantiable q.1 q.2.2 ∈ xt := by
  intro q hq
  obtain ⟨C, T, N, hC, -, hi, -⟩ := h
  cases hq.symm.trans hC.1
  exact ⟨hC.2.1, hi⟩
theorem xx_cls : ∀ (c : Nat) (q : vw_C), vwCl[c]? = some q → (∀ w ∈ u_ws q.1 q.2.1 q.2.2, w ∈ xt) ∧ Cond.instantiable q.1 q.2.2 ∈ xt
  | 0 => xx_one (xg_nw0 (8, 0) (by decide))
  | 1 => xx_one (xg_nw1 (7, 1) (by decide))
  | 2 => xx_one (xg_nw1 (16, 2) (by decide))
  | 3 => xx_one (xg_nw1 (23, 3) (by decide))
  | 4 => xx_one (xg_nw1 (30, 4) (by decide))
  | 5 => xx_one (xg_nw1 (37, 5) (by decide))
  | 6 => xx_one (xg_nw1 (44, 6) (by decide))
  | 7 => xx_one (xg_nw7 (9, 7) (by decide))
  | 8 => xx_one (xg_nw7 (18, 8) (by decide))
  | 9 => xx_one (xg_nw1 (51, 9) (by decide))
  | 10 => xx_one (xg_nw10 (9, 10) (by decide))
  | 11 => xx_one (xg_nw1 (58, 11) (by decide))
  | 12 => xx_one (xg_nw0 (83, 12) (by decide))
  | c + 13 => fun q hq => by cases hq
theorem xx_K {A : Array Value} {s : State} (h : ∀ w ∈ xt, w.before A s = true) : ∃ (D : va_G) (cA : Nat → ClassId), va_K D vwCl (xw_tys cA) s := by
  have h1 : ∀ c : Nat, ∃ (cC : ClassId) (iS : Nat → Nat), ∀ q : vw_C, vwCl[c]? = some q → u_Kn s q.1 q.2.1 q.2.2 cC iS := by
    intro c
    cases hq : vwCl[c]? with
    | none => exact ⟨0, fun _ => 0, fun q hq' => by cases hq'⟩
    | some q =>
      obtain ⟨w1, w2⟩ := xx_cls c q hq
      obtain ⟨cC, iS, hk⟩ := u_known h w1 (h _ w2)
      exact ⟨cC, iS, fun q' hq' => by cases hq'; exact hk⟩
  obtain ⟨c1, k1, p1, f1, g1, z1⟩ := Cond.arrayClass_spec (h _ xz_a1)
  obtain ⟨c2, k2, p2, f2, g2, z2⟩ := Cond.arrayClass_spec (h _ xz_a2)
  obtain ⟨c3, k3, p3, f3, g3, z3⟩ := Cond.arrayClass_spec (h _ xz_a3)
  refine ⟨(fun c => Classical.choose (h1 c), fun c => Classical.choose (Classical.choose_spec (h1 c))), fun n => match n with | 0 => c1 | 1 => c2 | _ => c3, fun c q hq => Classical.choose_spec (Classical.choose_spec (h1 c)) q hq, fun k q hk => ?_⟩
  match k with
  | 0 => cases hk; exact ⟨fun n z => ⟨fun k h => (by cases h), k1, g1, p1, z1⟩, f1⟩
  | 1 => cases hk; exact ⟨fun n z => ⟨fun k h => (by cases h), k2, g2, p2, z2⟩, f2⟩
  | 2 => cases hk; exact ⟨fun n z => ⟨fun k h => (by cases h), k3, g3, p3, z3⟩, f3⟩
  | k + 3 => cases hk
theorem xx_str {b : Nat} {s : State} {tx : String} {k : Nat} {cC : ClassId} (hc : s.vm.findClass "AccessDesk" = some cC) (h : (Cond.stringRef "AccessDesk" k tx).before #[Value.ref b] s = true) : ∃ a, vk_R "AccessDesk" k tx a s := by
  obtain ⟨-, -, -, a, -, -, -, -, -, ha⟩ := Cond.stringRef_spec hc h
  exact ⟨a, vk_R.of h ha⟩
theorem xx_G {b : Nat} {s : State} (hts : ∀ w ∈ lw_tbl, w.before #[Value.ref b] s = true) (hgv : (Jvm.Cond.and given_1 narrow_1).before #[Value.ref b] s = true) {Ω : xo_O} (hH : xo_H Ω = s.heap) : xv_G Ω s := by
  have hs := flat_of_before _ hgv
  have tm : ∀ {w : Cond} (i : Nat), tables_1[i]? = some w → w.before #[Value.ref b] s = true := fun i h => hts _ (List.mem_append_right _ (List.mem_of_getElem? h))
  have e0 : ({ s with heap := xo_H Ω } : State) = s := by rw [hH]
  obtain ⟨cC, kC, hfc, -⟩ := Cond.instantiable_spec (tm (w := .instantiable "AccessDesk" 9) 24 (by decide +kernel))
  refine ⟨fun A w hw => ?_, xx_str hfc (tm 523 (by decide +kernel)), xx_str hfc (tm 927 (by decide +kernel)), fun A w hw => ?_, fun A w hw => ?_⟩
  · rw [e0]
    simp only [xg_sp, List.mem_cons, List.not_mem_nil, or_false] at hw
    rcases hw with rfl | rfl | rfl | rfl
    · exact tm (w := .laysStatic "java/lang/Throwable" "UNASSIGNED_STACK" "[Ljava/lang/StackTraceElement;") 413 (by decide +kernel)
    · exact tm (w := .laysStatic "java/lang/Throwable" "SUPPRESSED_SENTINEL" "Ljava/util/List;") 415 (by decide +kernel)
    · exact hs (.isRef (.static "java/lang/Throwable" "UNASSIGNED_STACK" "[Ljava/lang/StackTraceElement;")) (by decide +kernel)
    · exact hs (.isRef (.static "java/lang/Throwable" "SUPPRESSED_SENTINEL" "Ljava/util/List;")) (by decide +kernel)
  · simp only [xg_nc, List.mem_cons, List.not_mem_nil, or_false] at hw
    rcases hw with rfl | rfl | rfl | rfl
    · exact hs (.not (.castable "java/lang/IllegalStateException" "java/lang/IllegalArgumentException")) (by decide +kernel)
    · exact hs (.not (.castable "java/lang/UnsupportedOperationException" "java/lang/IllegalArgumentException")) (by decide +kernel)
    · exact hs (.not (.castable "java/lang/UnsupportedOperationException" "java/lang/IllegalStateException")) (by decide +kernel)
    · exact hs (.not (.castable "java/lang/IndexOutOfBoundsException" "java/lang/IllegalArgumentException")) (by decide +kernel)
  · simp only [xg_dc, List.mem_cons, List.not_mem_nil, or_false] at hw
    rcases hw with rfl | rfl | rfl | rfl | rfl | rfl
    · exact tm (w := .declares ⟨"java/lang/RuntimeException", "<init>", "()V"⟩) 389 (by decide +kernel)
    · exact tm (w := .declares ⟨"java/lang/RuntimeException", "<init>", "(Ljava/lang/String;)V"⟩) 390 (by decide +kernel)
    · exact tm (w := .declares ⟨"java/lang/Exception", "<init>", "()V"⟩) 391 (by decide +kernel)
    · exact tm (w := .declares ⟨"java/lang/Exception", "<init>", "(Ljava/lang/String;)V"⟩) 392 (by decide +kernel)
    · exact tm (w := .declares ⟨"java/lang/Throwable", "<init>", "()V"⟩) 393 (by decide +kernel)
    · exact tm (w := .declares ⟨"java/lang/Throwable", "<init>", "(Ljava/lang/String;)V"⟩) 394 (by decide +kernel)
/-- what the law's walk must give: over every script of at most n ints it returns true -/
def xx_h0 : xh_H := ((true, 0), (fun _ _ => 0), (fun _ _ => 0), fun _ _ => 0)
def xx_law (l : Launch) (n : Nat) : Prop := ∀ Ω : xo_O, xo_n Ω ≤ n → ∃ (d kc ks : Nat) (h' : xh_H), d ≤ 1400 ∧ kc ≤ 601024 ∧ ks ≤ 7293034 ∧ xv l Ω d kc ks 0 0 (xs_loc (xm_l 0) [.retAddr 0]) [] xx_h0 (.inl (some (.int 1)), h')
theorem xx_old {s t : State} {L : List Loc} {k n : Nat} (h : s.sameButNew t L k n) (hL : ∀ q ∈ L, s.heap.size ≤ q.base) {k' n' : Nat} (hk : k ≤ k') (hn : n ≤ n') : s.sameButNew t [] k' n' := by
  obtain ⟨h1, h2, h3, h4, h5, h6⟩ := h
  refine ⟨h1, h2, by omega, h4, by omega, fun a c hc => ?_⟩
  obtain ⟨c', e1, e2, e3, e4⟩ := h6 a c hc
  refine ⟨c', e1, e2, e3, fun i _ => e4 i (fun hm => ?_)⟩
  have h7 := hL _ hm
  have h8 := (Array.getElem?_eq_some_iff.mp hc).1
  have h9 : s.heap.size ≤ a := h7
  omega
theorem xx_walk {p : Program} {e : Env} {s : State} {m : MethodId} {below : List Frame} {meth : Method} {c : Code} {l : Launch} {b N L : Nat} {xs : Nat → Int32} (hlaw : xx_law l N) (hL : L ≤ N) (C0 : lw_At p s m meth c b L xs)
    (hex : c.exceptionTable.isEmpty = true) (hnm : meth.name = "law") (hst : e.platform.stackTraces = false) : W p l e room_1 s m #[Value.ref b] below meth c s.heap [] 0 0 (lw_Z below #[Value.ref b] s) (entryFrame m ([Value.ref b] : List Value).toArray 7) := by
  obtain ⟨hx, hb, hr, hml, hown, hts, hX, hbl, hlk, hgv⟩ := C0
  have hxt : ∀ (A : Array Value), ∀ w ∈ xt, w.before A s = true := fun A => xt_mv (A := #[Value.ref b]) (State.WarmedH.refl s) (fun w hw => hts w (List.mem_filter.mp hw).1)
  obtain ⟨D, cA, hK⟩ := xx_K (hxt #[])
  obtain ⟨d, kc, ks, h', hd, hkc, hks, hv⟩ := hlaw (D, cA, (s.heap.size, b), s.heap, L, xs) hL
  have k := hv p e room_1 s m #[Value.ref b] below meth c s.heap [] 0 0 _ ⟨⟨hx, hb, hml⟩, hr, hlk, by
      have : c.exceptionTable = #[] := by simpa using hex
      rw [this]; rfl, hown, hnm, ⟨hxt, hK, hX, xx_G hts hgv rfl⟩, fun q _ => rfl, Nat.le_refl _, hst⟩
    ⟨fun k q hq => by simp [xw_ws, xx_h0] at hq, rfl, Nat.le_refl _, fun _ => rfl, fun q _ => rfl⟩ (fun q hq => by cases hq)
    ⟨by show d ≤ 2048; omega, by show 60 * d ≤ 84000; omega, by show 0 + kc ≤ 601024; omega, by show 0 + ks ≤ 7293034; omega⟩ (xl_entry (s.heap.size, b) [.retAddr 0] (n := 7) (by decide))
  rw [lg_entry_eq]
  intro T hT X
  obtain ⟨t, a1, o, b1, b2, ⟨-, ho⟩, L9, hW, hsame, hfree⟩ := k T hT X
  refine ⟨t, a1, o, b1, b2, ho, ⟨_, ho⟩, hW, xx_old hsame hfree (by omega) (by omega)⟩
set_option maxHeartbeats 4000000 in
theorem lw_walk (l : Launch) (htr : ∀ e, l.admits e → e.platform.stackTraces = false) (hlaw : xx_law l 2560) (b : Addr) (xs : List Int32) : MetFree l x (headSpec (Jvm.Cond.code x code maxLocals ret :: tables_1) room_1) (lw_P b xs) (fun _ _ _ _ _ => True) lw_Q := by
  refine MetFree.of_bodyS (code := code) (maxLocals := maxLocals) (ret := ret) (by decide) ?_ ?_
  · intro args s m h hn
    obtain ⟨meth, c, h1, h2, h3, h4, h5, h6, -, -⟩ := Cond.code_spec hn (atoms_spec (ws := Jvm.Cond.code x code maxLocals ret :: tables_1) h _ List.mem_cons_self)
    exact ⟨meth, c, h1, h2, h3, h4, h5, h6⟩
  · intro p e s m args below meth c s₁ B hml0 hP _
    obtain ⟨rfl, hx, hbd, hgv⟩ := hP
    obtain ⟨scr, harrAt, hlist, hof, hsmall⟩ := hx
    obtain ⟨hcb, hkn, -, -⟩ := State.arrayAt?_spec harrAt
    have hown : s.vm.findClass R_law = some m.cls := findClass_of_methodNamed B.named
    have hts0 : ∀ c ∈ (Jvm.Cond.code x code maxLocals ret :: tables_1), c.before #[Value.ref b] s = true := atoms_spec (ws := Jvm.Cond.code x code maxLocals ret :: tables_1) B.pre
    have hts : ∀ w ∈ lw_tbl, w.before #[Value.ref b] s = true := k2_hts_sels lw_privs (fun w hw => hts0 w (List.mem_cons_of_mem _ hw)) lw_privs_ok
    have hml : c.maxLocals = 7 := B.maxLocals_eq (hts0 _ List.mem_cons_self)
    have X₀ : Stand p l e room_1 s m #[Value.ref b] below meth c s₁ [] 0 0 := Stand.of_body B
    have hh0 : s₁.heap = s.heap := by rw [B.state]; rfl
    have hsz : scr.slots.size = xs.length := by rw [← Array.length_toList, hlist, List.length_map]
    have hval : ∀ j : Nat, j < xs.length → scr.slots[j]? = some (.int (xs.getD j 0)) := fun j hj => by
      rw [← Array.getElem?_toList, hlist]
      simp [hj]
    have hbl : b < s.heap.size := (Array.getElem?_eq_some_iff.mp hcb).1
    have hX : va_X b xs.length (fun j => xs.getD j 0) s s.heap := ⟨scr, hcb, hof, hkn, hsz, hval⟩
    obtain ⟨meth9, c9, q1, q2, -, -, -, -, q7, -⟩ := Cond.code_spec B.named (hts0 _ List.mem_cons_self)
    cases B.method.symm.trans q1
    cases (Stand.of_body B).code.symm.trans q2
    have K : W p l e room_1 s m #[Value.ref b] below meth c s₁.heap [] 0 0 (lw_Z below #[Value.ref b] s) (entryFrame m ([Value.ref b] : List Value).toArray 7) := by
      rw [hh0]
      exact xx_walk hlaw hbd ⟨B.exec, B.bytes, B.returns, hml, hown, hts, hX, hbl, B.notSynchronized, hgv⟩ q7 (name_of_methodNamed B.named B.method).1 (htr e B.admits)
    obtain ⟨t, a1, o, b1, b2, b3⟩ := K s₁ rfl X₀
    exact ⟨t, o, a1, b1, b2, b3⟩
theorem lw_pre_spec {args : Array Value} {s : State} (h : (Jvm.Cond.and given_1 narrow_1).before args s = true) (hr : rest_1_c.before args s = true) : ∃ (b : Addr) (xs : List Int32), lw_P b xs args s := by
  have hs := flat_of_before _ h
  have hq := flat_of_before _ hr
  have hc : (Cond.count 1).before args s = true := hs _ (by decide +kernel)
  have harr : (Cond.arrayOf (.arg 0) .int).before args s = true := hs _ (by decide +kernel)
  have hle : (Cond.le (.length (.arg 0)) (.int 2560)).before args s = true := hs _ (by decide +kernel)
  have hlen : (Cond.isInt (.length (.arg 0))).before args s = true := hq _ (by decide +kernel)
  have hall : (Cond.all (.arg 0) (.isInt (.elem (.arg 0) (.index 0)))).before args s = true := hq _ (by decide +kernel)
  obtain ⟨b, xs, hb, hx⟩ := State.ints_of_pre rfl harr hlen hall
  have hsm : xs.length < 2 ^ 31 := hx.choose_spec.2.2.2
  have hev : (Term.length (.arg 0)).eval args s none [] s = some (.int xs.length.toInt32) := hx.length_eval hb
  have hv := Cond.le_ints hev (show (Term.int 2560).eval args s none [] s = some (.int 2560) from rfl)
  have hd : xs.length.toInt32 ≤ 2560 := by
    simpa [Cond.before, Cond.holds, hv] using hle
  have hN : xs.length ≤ 2560 := (Int32.ofNat_le_ofNat hsm (by decide)).mp (show Int32.ofNat xs.length ≤ Int32.ofNat 2560 from hd)
  exact ⟨b, xs, Cond.one_arg hc (show args[0]? = some (.ref b) from hb), hx, hN, h⟩
theorem lw_comes (l : Launch) (htr : ∀ e, l.admits e → e.platform.stackTraces = false) (hlaw : xx_law l 2560) : Comes l x (Jvm.Cond.code x code maxLocals ret :: tables_1) room_1 (fun tb e args s => Calls_1 tb e args s ∧ rest_1 tb e args s ∧ Pre_1 tb e args s)
    (fun _ _ args s o t => lw_Q args s o t) := by
  intro p e ha hc hk s m args below hf hfit hheap happ hpre
  obtain ⟨b, xs, hP⟩ := lw_pre_spec hpre.2.2 hpre.2.1
  obtain ⟨k, o, h1, h2, h3, hQ⟩ := lw_walk l htr hlaw b xs p e ha hc hk s m args below hf ((Spec.applies_iff_loose hf).mp happ).1 hP trivial
  exact ⟨k, o, h1, h2, h3, hQ⟩
theorem lw_frame {s t : State} {o : Outcome} {args : Array Value} (h : Framed s o t [] 601024 7293034) :
    Framed s o t (fieldLocs frame_1_writes args s ++ arrayLocs frame_1_arrays args s ++ staticLocs frame_1_statics s) 601024 7293034 := h
theorem lw_limb (H : ∀ l : Launch, (∀ e, l.admits e → e.platform.stackTraces = false) → xx_law l 2560) (L : Cond) (hL : ∀ (args : Array Value) (s t : State), L.after args s (.returned (some (.int 1))) t = true) :
    ArmFor flags0 classFile x code maxLocals ret World_1 tables_1 room_1 Calls_1 rest_1 Pre_1
      (fun tb e a s o t => postC L tb e a s o t ∧ Framed s o t (fieldLocs frame_1_writes a s ++ arrayLocs frame_1_arrays a s ++ staticLocs frame_1_statics s) 601024 7293034) := by
  intro l hfl _ _ p e ha hc hk s m args below hf hfit hheap happ hpre
  obtain ⟨k, o, h1, h2, h3, rfl, hF⟩ := lw_comes l (fun e he => Launch.traces_off hfl he) (H l (fun e he => Launch.traces_off hfl he)) p e ha hc hk s m args below hf hfit hheap happ hpre
  exact ⟨k, _, h1, h2, h3, hL args s _, lw_frame hF⟩
theorem xx_claim (H : ∀ l : Launch, (∀ e, l.admits e → e.platform.stackTraces = false) → xx_law l 2560) : Claimed_1_1 ∧ Claimed_1_2 := ⟨lw_limb H limb_1_1 (fun args s t => by simp [limb_1_1, Cond.after, Cond.holds, Cond.value]), lw_limb H limb_1_2 (fun args s t => Cond.after_iff.mpr (by
  first | (rw [show limb_1_2 = Cond.eq .result (.int 1) from rfl, Cond.eq_ints (x := 1) (y := 1) rfl rfl]; simp; done) | (simp [limb_1_2, Cond.value, Term.eval]; done)))⟩
