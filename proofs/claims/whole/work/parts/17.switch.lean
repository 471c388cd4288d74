/-! new arrays, switches -/
def xs_at (t : Nat) : ArrayType := match t with
  | 1 => .int
  | 2 => .boolean
  | _ => .long
section XvSw
variable {l : Launch} {Ω : xo_O} {d kc ks M pc len : Nat} {L : List (Option Value)} {K : List Value} {h : xh_H} {r : xv_R} {i : Instr}
theorem xr_newa {n : Int32} {t N : Nat} (hd : decode (xm_c M) pc = .ok (.newarray (xs_at t), 2)) (ht : t = 1 ∨ t = 2 ∨ t = 3) (hf : h.1.1 = true) (hk : xz_k h.1.2 = (t, N)) (hN : n.toNatClampNeg = N) (hn : ¬ n < 0) (hb : Nat.ble N 1000 = true) (k : xv l Ω d kc ks M (pc + 2) L (.ref h.1.2 :: K) (xh_new h) r) : xv l Ω d (kc + 1) (ks + N) M pc L (.int n :: K) h r := by
  intro p e R s m args below meth c H locs cells slots ls C0 w hlo hR hL
  have k := fun H1 w1 r1 => k p e R s m args below meth c H1 locs (cells + 1) (slots + N) ls C0 w1 hlo r1 hL
  obtain ⟨⟨hx, hbb, hml⟩, hret, hlk, htab, hown, hnm, hT, hs0, hsz, htr⟩ := C0
  have hz := w.2.2.2.1 hf
  have hb' := Nat.le_of_ble_eq_true hb
  have hst : Value.ref H.size = xw_c (xo_z Ω) (.ref h.1.2) := by
    show Value.ref H.size = .ref (xo_s Ω + h.1.2)
    rw [hz]
  have hbr : Nat.beq h.1.2 h.1.2 = true := by rw [Nat.beq_eq]
  have fin : ∀ {H1 : Heap} {e9 : va_E}, xw_e (xo_c Ω) (xo_z Ω) (xh_new h) h.1.2 (xz_k h.1.2) = e9 → H1.size = H.size + 1 → (∀ q, q < H.size → H1[q]? = H[q]?) → va_at (xo_D Ω) vwCl (H.size, e9) H1 → W p l e R s m args below meth c H1 locs (cells + 1) (slots + N) (xk_Z below (xv_Q Ω r) args s (cells + (kc + 1)) (slots + (ks + N)) (fun q => xo_s Ω ≤ q)) (F0 m (pc + 2) ls (.ref H.size :: K.map (xw_c (xo_z Ω)))) := by
    intro H1 e9 he z1 o1 hat
    have k1 := k H1 (xw_push w hf he z1 o1 hat) ⟨hR.1, hR.2.1, by have := hR.2.2.1; omega, by have := hR.2.2.2; omega⟩
    rw [show cells + 1 + kc = cells + (kc + 1) by omega, show slots + N + ks = slots + (ks + N) by omega] at k1
    rw [hst]
    exact k1
  have hA := hT.2.1.2
  rcases ht with rfl | rfl | rfl
  · refine va_newaK hx hbb (atype := .int) (hT.1 args _ xz_a1) rfl hd rfl hn hN (by show N * 4 ≤ _; omega) (by have := hR.2.2.1; omega) (by have := hR.2.2.2; omega) rfl fun H1 cA' e1 z1 o1 hAr hnm => ?_
    have hc : cA' = xo_c Ω 0 := by
      have := (hA 0 _ rfl).2
      exact Option.some.inj (hnm.symm.trans this)
    subst hc
    refine fin (e9 := .inl (xo_c Ω 0, N, .inl (fun _ => 0))) ?_ z1 o1 e1
    rw [hk]
    simp only [xw_e, xh_new, hbr, cond_true]
  · refine va_newaK hx hbb (atype := .boolean) (hT.1 args _ xz_a2) rfl hd rfl hn hN (by show N * 1 ≤ _; omega) (by have := hR.2.2.1; omega) (by have := hR.2.2.2; omega) rfl fun H1 cA' e1 z1 o1 hAr hnm => ?_
    have hc : cA' = xo_c Ω 1 := by
      have := (hA 1 _ rfl).2
      exact Option.some.inj (hnm.symm.trans this)
    subst hc
    refine fin (e9 := .inl (xo_c Ω 1, N, .inl (fun _ => 0))) ?_ z1 o1 e1
    rw [hk]
    simp only [xw_e, xh_new, hbr, cond_true]
  · refine va_newaK hx hbb (atype := .long) (hT.1 args _ xz_a3) rfl hd rfl hn hN (by show N * 8 ≤ _; omega) (by have := hR.2.2.1; omega) (by have := hR.2.2.2; omega) rfl fun H1 cA' e1 z1 o1 hAr hnm => ?_
    have hc : cA' = xo_c Ω 2 := by
      have := (hA 2 _ rfl).2
      exact Option.some.inj (hnm.symm.trans this)
    subst hc
    refine fin (e9 := .inl (xo_c Ω 2, N, .inr (.inl (fun _ => 0)))) ?_ z1 o1 e1
    rw [hk]
    simp only [xw_e, xh_new, hbr, cond_true]
/-- none of the keys -/
def xs_nk : List (Int × Int) → Int32 → Prop
  | [], _ => True
  | a :: t, x => ¬ x = Int32.ofInt a.1 ∧ xs_nk t x
def xs_kk (l : List (Int × Int)) : Bool := l.all fun a => decide ((Int32.ofInt a.1).toInt = a.1)
theorem xs_nk_off : ∀ (l : List (Int × Int)) (d : Int) (x : Int32), xs_kk l = true → xs_nk l x → Op.lookupswitch.offset l d x.toInt = d
  | [], d, x, _, _ => rfl
  | a :: t, d, x, hk, hn => by
    obtain ⟨a1, a2⟩ := a
    simp only [xs_kk, List.all_cons, Bool.and_eq_true, decide_eq_true_eq] at hk
    rw [lv_osw hn.1 hk.1]
    exact xs_nk_off t d x hk.2 hn.2
/-- a switch's road: the key, or none -/
def xs_sw (pc : Nat) (i : Instr) (x : Int32) (key : Option Int32) : Option (Prop × Nat) := match i with
  | .lookupswitch dflt ps => bif (ps.toList.zip (ps.toList.drop 1)).all (fun (a, next) => a.1 < next.1) && xs_kk ps.toList then (match key with
    | some k => bif decide (0 ≤ (pc : Int) + Op.lookupswitch.offset ps.toList dflt k.toInt) then some (x = k, ((pc : Int) + Op.lookupswitch.offset ps.toList dflt k.toInt).toNat) else none
    | none => bif decide (0 ≤ (pc : Int) + dflt) then some (xs_nk ps.toList x, ((pc : Int) + dflt).toNat) else none) else none
  | .tableswitch dflt lo hi offs => match key with
    | some k => match offs[(k.toInt - lo).toNat]? with
      | some off => bif decide (¬ k.toInt < lo) && decide (¬ hi < k.toInt) && decide (0 ≤ (pc : Int) + off) then some (x = k, ((pc : Int) + off).toNat) else none
      | none => none
    | none => bif decide (0 ≤ (pc : Int) + dflt) then some (x.toInt < lo ∨ hi < x.toInt, ((pc : Int) + dflt).toNat) else none
  | _ => none
theorem xr_sw {x : Int32} {key : Option Int32} {q : Prop × Nat} (hd : decode (xm_c M) pc = .ok (i, len)) (hv : xs_sw pc i x key = some q) (hq : q.1) (k : xv l Ω d kc ks M q.2 L K h r) : xv l Ω d kc ks M pc L (.int x :: K) h r := by
  intro p e R s m args below meth c H locs cells slots ls C0 w hlo hR hL
  have k := k p e R s m args below meth c H locs cells slots ls C0 w hlo hR hL
  obtain ⟨⟨hx, hb, hml⟩, hret, hlk, htab, hown, hnm, hT, hs0, hsz, htr⟩ := C0
  unfold xs_sw at hv
  split at hv
  · rw [cond_eq_ite] at hv
    split at hv
    · rename_i hs
      rw [Bool.and_eq_true] at hs
      split at hv
      · rw [cond_eq_ite] at hv
        split at hv
        · rename_i h0
          rw [decide_eq_true_eq] at h0
          cases hv
          have hq : x = _ := hq
          subst hq
          exact lv_lookup hx hb hd hs.1 rfl (Int.toNat_of_nonneg h0).symm k
        · cases hv
      · rw [cond_eq_ite] at hv
        split at hv
        · rename_i h0
          rw [decide_eq_true_eq] at h0
          cases hv
          exact lv_lookup hx hb hd hs.1 (xs_nk_off _ _ _ hs.2 hq) (Int.toNat_of_nonneg h0).symm k
        · cases hv
    · cases hv
  · split at hv
    · split at hv
      · rw [cond_eq_ite] at hv
        split at hv
        · rename_i ho h0
          simp only [Bool.and_eq_true, decide_eq_true_eq] at h0
          cases hv
          have hq : x = _ := hq
          subst hq
          exact lv_tableIn hx hb hd h0.1.1 h0.1.2 ho (Int.toNat_of_nonneg h0.2).symm k
        · cases hv
      · cases hv
    · rw [cond_eq_ite] at hv
      split at hv
      · rename_i h0
        rw [decide_eq_true_eq] at h0
        cases hv
        exact lv_tableOut hx hb hd hq (Int.toNat_of_nonneg h0).symm k
      · cases hv
  · cases hv
end XvSw
