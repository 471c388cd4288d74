/-! a path through a method, as a sentence: what must hold on it -/
/-- what happens on the way: a branch is taken or not | a switch's key | a call answers v and leaves h | .. making k cells of n slots | a call throws exception number c, leaving h, making k cells of n slots -/
abbrev xp_E : Type := Bool ⊕ (Option Int32 ⊕ ((Option Value × xh_H) ⊕ ((Option Value × xh_H × Nat × Nat) ⊕ (Nat × xh_H × Nat × Nat))))
abbrev eB (b : Bool) : xp_E := .inl b
abbrev eS (k : Option Int32) : xp_E := .inr (.inl k)
abbrev eC (v : Option Value) (h : xh_H) : xp_E := .inr (.inr (.inl (v, h)))
abbrev eN (v : Option Value) (h : xh_H) (k n : Nat) : xp_E := .inr (.inr (.inr (.inl (v, h, k, n))))
abbrev eT (c : Nat) (h : xh_H) (k n : Nat) : xp_E := .inr (.inr (.inr (.inr (c, h, k, n))))
/-- the callee, its values, the rest of the stack -/
def xs_cl (M : Nat) (K : List Value) (h : xh_H) (i : Instr) (n : Nat) : Option (Nat × List Value × List Value) := match xs_inv i with
  | some k => match xz_m (xm_k M) k with
    | some M' => match xs_take (bif xm_s M' then xm_p M' else xm_p M' + 1) K [] with
      | some (vs, K') => bif Nat.beq n 3 && xs_ik h i M' vs && Nat.ble (xs_fm vs).length (xm_l M') && Nat.ble (K'.map fun v => v.category).sum 8 then some (M', vs, K') else none
      | none => none
    | none => none
  | none => none
def xp (l : Launch) (Ω : xo_O) (r : xv_R) : Nat → Nat → Nat → Nat → List xp_E → Nat → Nat → List (Option Value) → List Value → xh_H → Prop
  | 0, d, kc, ks, _, M, pc, L, K, h => xv l Ω d kc ks M pc L K h r
  | n + 1, d, kc, ks, evs, M, pc, L, K, h => match xi M pc with
    | none => False
    | some (t, i, ln, tg) => match t with
      | 9 => match evs, K with
        | .inl b :: evs, .int x :: K => match xs_if1 i x with
          | some (Pt, Pf) => bif Nat.beq ln 3 then (bif b then Pt ∧ xp l Ω r n d kc ks evs M tg L K h else Pf ∧ xp l Ω r n d kc ks evs M (pc + 3) L K h) else False
          | none => False
        | _, _ => False
      | 10 => match evs, K with
        | .inl b :: evs, .int y :: .int x :: K => match xs_if2 i x y with
          | some (Pt, Pf) => bif Nat.beq ln 3 then (bif b then Pt ∧ xp l Ω r n d kc ks evs M tg L K h else Pf ∧ xp l Ω r n d kc ks evs M (pc + 3) L K h) else False
          | none => False
        | _, _ => False
      | 16 => match xs_rt i (xm_r M) K with
        | some (v, P) => bif Nat.beq ln 1 then P ∧ r = (.inl v, h) else False
        | none => False
      | 17 => match d, evs, xs_cl M K h i ln with
        | d + 1, .inr (.inr (.inl (v, h1))) :: evs, some (M', vs, K') => xv l Ω d 0 0 M' 0 (xs_loc (xm_l M') vs) [] h (.inl v, h1) ∧ xp l Ω r n (d + 1) kc ks evs M (pc + 3) L (v.toList ++ K') h1
        | d + 1, .inr (.inr (.inr (.inl (v, h1, k1, s1)))) :: evs, some (M', vs, K') => bif Nat.ble k1 kc && Nat.ble s1 ks then xv l Ω d k1 s1 M' 0 (xs_loc (xm_l M') vs) [] h (.inl v, h1) ∧ xp l Ω r n (d + 1) (kc - k1) (ks - s1) evs M (pc + 3) L (v.toList ++ K') h1 else False
        | d + 1, .inr (.inr (.inr (.inr (c, h1, k1, s1)))) :: evs, some (M', vs, K') => bif Nat.ble k1 kc && Nat.ble s1 ks then (match xm_h M with
          | [] => xv l Ω d k1 s1 M' 0 (xs_loc (xm_l M') vs) [] h (.inr (xq_C c), h1) ∧ r = (.inr (xq_C c), h1)
          | hh => match xs_hpl hh pc c with
            | some hp => bif Nat.beq (xm_k M) 0 then xv l Ω d k1 s1 M' 0 (xs_loc (xm_l M') vs) [] h (.inr (xq_C c), h1) ∧ ∀ a, xp l Ω r n (d + 1) (kc - k1) (ks - s1) evs M hp L [.ref a] h1 else False
            | none => False) else False
        | _, _, _ => False
      | 18 => match evs, K with
        | .inr (.inl key) :: evs, .int x :: K => match xs_sw pc i x key with
          | some (P, tg) => P ∧ xp l Ω r n d kc ks evs M tg L K h
          | none => False
        | _, _ => False
      | 19 => match i with
        | .new k => match xz_n (xm_k M) k with
          | some ci => bif h.1.1 && Nat.beq (xz_k h.1.2).1 0 && Nat.beq (xz_k h.1.2).2 ci && Nat.beq ln 3 && Nat.ble 1 kc && Nat.ble (xz_f ci).length ks then xp l Ω r n d (kc - 1) (ks - (xz_f ci).length) evs M (pc + 3) L (.ref h.1.2 :: K) (xh_new h) else False
          | none => False
        | _ => False
      | 20 => match K with
        | .int k :: K => bif h.1.1 && Nat.ble 1 (xz_k h.1.2).1 && Nat.ble (xz_k h.1.2).1 3 && decide (i = .newarray (xs_at (xz_k h.1.2).1)) && Nat.beq ln 2 && Nat.beq k.toNatClampNeg (xz_k h.1.2).2 && decide (¬ k < 0) && Nat.ble (xz_k h.1.2).2 1000 && Nat.ble 1 kc && Nat.ble (xz_k h.1.2).2 ks then
            xp l Ω r n d (kc - 1) (ks - (xz_k h.1.2).2) evs M (pc + 2) L (.ref h.1.2 :: K) (xh_new h) else False
        | _ => False
      | 22 => match d, i, K with
        | d + 1, .invokespecial k, .ref _ :: K => match (xz_ol (xm_k M)).lookup k with
          | some _ => bif Nat.beq ln 3 && Nat.ble (K.map fun v => v.category).sum 8 then xp l Ω r n (d + 1) kc ks evs M (pc + 3) L K h else False
          | none => False
        | _, _, _ => False
      | 24 => match xz_th M pc with
        | some c => bif xs_th h d kc ks K then r = (.inr (xq_C c), h) else False
        | none => False
      | t => match xs_step Ω M pc L K h t i ln tg with
        | some (P, pc', L', K', h') => xs_ob P (xp l Ω r n d kc ks evs M pc' L' K' h')
        | none => False
section XpAll
variable {l : Launch} {Ω : xo_O} {r : xv_R}
theorem xs_cl_ok {M n : Nat} {K : List Value} {h : xh_H} {i : Instr} {z : Nat × List Value × List Value} (hz : xs_cl M K h i n = some z) : ∃ k, n = 3 ∧ xs_inv i = some k ∧ xz_m (xm_k M) k = some z.1 ∧ xs_ik h i z.1 z.2.1 = true ∧ Nat.ble (xs_fm z.2.1).length (xm_l z.1) = true ∧ Nat.ble (z.2.2.map fun v => v.category).sum 8 = true ∧ K = z.2.1.reverse ++ z.2.2 := by
  unfold xs_cl at hz
  split at hz
  · split at hz
    · split at hz
      · rw [cond_eq_ite] at hz
        split at hz
        · rename_i hb
          have ht := ‹xs_take _ _ _ = some _›
          have hm := ‹xz_m _ _ = some _›
          have hk := ‹xs_inv _ = some _›
          simp only [Bool.and_eq_true, Nat.beq_eq] at hb
          obtain ⟨⟨⟨h3, h4⟩, h5⟩, h6⟩ := hb
          obtain ⟨u, e1, e2⟩ := xs_take_ok _ _ _ _ _ ht
          rw [List.append_nil] at e1
          cases hz
          exact ⟨_, h3, hk, hm, h4, h5, h6, by rw [e2, ← e1]⟩
        · cases hz
      · cases hz
    · cases hz
  · cases hz
theorem xp_ok (htr : ∀ e, l.admits e → e.platform.stackTraces = false) : ∀ (n d kc ks : Nat) (evs : List xp_E) (M pc : Nat) (L : List (Option Value)) (K : List Value) (h : xh_H), xp l Ω r n d kc ks evs M pc L K h → xv l Ω d kc ks M pc L K h r := by
  intro n
  induction n with
  | zero => intro d kc ks evs M pc L K h H; exact H
  | succ n ih =>
    intro d kc ks evs M pc L K h H
    unfold xp at H
    split at H
    · exact H.elim
    · rename_i hq
      obtain ⟨hM, hd, ht⟩ := xi_ok hq
      dsimp only at hd ht
      split at H
      · split at H
        · split at H
          · rename_i hP
            rw [cond_eq_ite] at H
            split at H
            · rename_i h3
              rw [Nat.beq_eq] at h3
              rw [h3] at hd
              rw [cond_eq_ite] at H
              split at H
              · exact xr_if1 hd hP ht (fun _ => ih _ _ _ _ _ _ _ _ _ H.2) (fun z => absurd z (xs_if1_no hP H.1))
              · exact xr_if1 hd hP ht (fun z => absurd H.1 (xs_if1_no hP z)) (fun _ => ih _ _ _ _ _ _ _ _ _ H.2)
            · exact H.elim
          · exact H.elim
        · exact H.elim
      · split at H
        · split at H
          · rename_i hP
            rw [cond_eq_ite] at H
            split at H
            · rename_i h3
              rw [Nat.beq_eq] at h3
              rw [h3] at hd
              rw [cond_eq_ite] at H
              split at H
              · exact xr_if2 hd hP ht (fun _ => ih _ _ _ _ _ _ _ _ _ H.2) (fun z => absurd z (xs_if2_no hP H.1))
              · exact xr_if2 hd hP ht (fun z => absurd H.1 (xs_if2_no hP z)) (fun _ => ih _ _ _ _ _ _ _ _ _ H.2)
            · exact H.elim
          · exact H.elim
        · exact H.elim
      · split at H
        · rename_i hz
          rw [cond_eq_ite] at H
          split at H
          · rename_i h3
            rw [Nat.beq_eq] at h3
            rw [h3] at hd
            exact xr_rt hd hz H.1 H.2
          · exact H.elim
        · exact H.elim
      · split at H
        · have hz := ‹xs_cl _ _ _ _ _ = some _›
          obtain ⟨k, h3, hi, hm, hk, h5, h6, hK⟩ := xs_cl_ok hz
          rw [h3] at hd
          rw [hK]
          have := xr_call (k1 := 0) (s1 := 0) (kc := kc) (ks := ks) htr hM hd hi hm hk h5 h6 H.1 (ih _ _ _ _ _ _ _ _ _ H.2)
          simpa using this
        · have hz := ‹xs_cl _ _ _ _ _ = some _›
          obtain ⟨k, h3, hi, hm, hk, h5, h6, hK⟩ := xs_cl_ok hz
          rw [h3] at hd
          rw [cond_eq_ite] at H
          split at H
          · rename_i hb
            rw [Bool.and_eq_true] at hb
            have b1 := Nat.le_of_ble_eq_true hb.1
            have b2 := Nat.le_of_ble_eq_true hb.2
            rw [hK]
            have := xr_call htr hM hd hi hm hk h5 h6 H.1 (ih _ _ _ _ _ _ _ _ _ H.2)
            rw [Nat.add_sub_cancel' b1, Nat.add_sub_cancel' b2] at this
            exact this
          · exact H.elim
        · have hz := ‹xs_cl _ _ _ _ _ = some _›
          obtain ⟨k, h3, hi, hm, hk, h5, h6, hK⟩ := xs_cl_ok hz
          rw [h3] at hd
          rw [cond_eq_ite] at H
          split at H
          · rename_i hb
            rw [Bool.and_eq_true] at hb
            have b1 := Nat.le_of_ble_eq_true hb.1
            have b2 := Nat.le_of_ble_eq_true hb.2
            rw [hK]
            split at H
            · have hh := ‹xm_h _ = []›
              rw [H.2]
              exact xr_callT htr hM hd hi hm hk h5 h6 hh b1 b2 H.1
            · split at H
              · have hhp := ‹xs_hpl _ _ _ = some _›
                rw [cond_eq_ite] at H
                split at H
                · rename_i hk0
                  rw [Nat.beq_eq] at hk0
                  have hcn : (xm_y M).cls = "AccessDeskLaw" := by rw [xm_cls M hM, hk0]; rfl
                  have := xr_callC htr hM hd hi hm hk h5 h6 (fun args s hT => by rw [hcn]; exact xs_hpl_ok hT _ hhp) H.1 (fun a => ih _ _ _ _ _ _ _ _ _ (H.2 a))
                  rw [Nat.add_sub_cancel' b1, Nat.add_sub_cancel' b2] at this
                  exact this
                · exact H.elim
              · exact H.elim
          · exact H.elim
        · exact H.elim
      · split at H
        · split at H
          · have hz := ‹xs_sw _ _ _ _ = some _›
            exact xr_sw hd hz H.1 (ih _ _ _ _ _ _ _ _ _ H.2)
          · exact H.elim
        · exact H.elim
      · split at H
        · split at H
          · have hz := ‹xz_n _ _ = some _›
            rw [cond_eq_ite] at H
            split at H
            · rename_i hb
              simp only [Bool.and_eq_true, Nat.beq_eq] at hb
              obtain ⟨⟨⟨⟨⟨g1, g2⟩, g3⟩, g4⟩, g5⟩, g6⟩ := hb
              rw [g4] at hd
              have := xr_new hM hd hz g1 (Prod.ext g2 g3) (ih _ _ _ _ _ _ _ _ _ H)
              rw [Nat.sub_add_cancel (Nat.le_of_ble_eq_true g5), Nat.sub_add_cancel (Nat.le_of_ble_eq_true g6)] at this
              exact this
            · exact H.elim
          · exact H.elim
        · exact H.elim
      · split at H
        · rw [cond_eq_ite] at H
          split at H
          · rename_i hb
            simp only [Bool.and_eq_true, Nat.beq_eq, decide_eq_true_eq] at hb
            obtain ⟨⟨⟨⟨⟨⟨⟨⟨⟨g1, g2⟩, g3⟩, g4⟩, g5⟩, g6⟩, g7⟩, g8⟩, g9⟩, g10⟩ := hb
            rw [g5, g4] at hd
            have g2 := Nat.le_of_ble_eq_true g2
            have g3 := Nat.le_of_ble_eq_true g3
            have := xr_newa (t := (xz_k h.1.2).1) (N := (xz_k h.1.2).2) hd (by omega) g1 (Prod.eta _).symm g6 g7 g8 (ih _ _ _ _ _ _ _ _ _ H)
            rw [Nat.sub_add_cancel (Nat.le_of_ble_eq_true g9), Nat.sub_add_cancel (Nat.le_of_ble_eq_true g10)] at this
            exact this
          · exact H.elim
        · exact H.elim
      · split at H
        · split at H
          · have hz := ‹List.lookup _ _ = some _›
            rw [cond_eq_ite] at H
            split at H
            · rename_i hb
              rw [Bool.and_eq_true, Nat.beq_eq] at hb
              rw [hb.1] at hd
              exact xr_obj hM hd hz hb.2 (ih _ _ _ _ _ _ _ _ _ H)
            · exact H.elim
          · exact H.elim
        · exact H.elim
      · split at H
        · have hz := ‹xz_th _ _ = some _›
          rw [cond_eq_ite] at H
          split at H
          · rename_i hb
            rw [H]
            exact xz_th_ok hz hb
          · exact H.elim
        · exact H.elim
      · split at H
        · rename_i hz
          refine xs_step_ok hq hz ?_
          unfold xs_ob at H ⊢
          split at H
          · exact ih _ _ _ _ _ _ _ _ _ H
          · exact ⟨H.1, ih _ _ _ _ _ _ _ _ _ H.2⟩
        · exact H.elim
end XpAll
