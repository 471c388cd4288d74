theorem xs_take_ok : ∀ (n : Nat) (K acc vs K' : List Value), xs_take n K acc = some (vs, K') → ∃ u, vs = u ++ acc ∧ K = u.reverse ++ K'
  | 0, K, acc, vs, K', h => by
    cases h
    exact ⟨[], rfl, rfl⟩
  | n + 1, v :: K, acc, vs, K', h => by
    obtain ⟨u, h1, h2⟩ := xs_take_ok n K (v :: acc) vs K' h
    exact ⟨u ++ [v], by rw [h1]; simp, by rw [h2]; simp⟩
  | n + 1, [], acc, vs, K', h => by cases h
theorem xs_obj_ok {h : xh_H} {a ci : Nat} (hb : xs_obj h a ci = true) : a < h.1.2 ∧ xz_k a = (0, ci) := by
  unfold xs_obj at hb
  simp only [Bool.and_eq_true, Nat.blt_eq, Nat.beq_eq] at hb
  exact ⟨hb.1.1, Prod.ext hb.1.2 hb.2⟩
theorem xs_wr_ok {M n : Nat} {q : Nat × Nat × Nat} (hM : M < 217) (hg : xg_F (xm_y M).cls n q) (hw : xs_wr M q = true) : xg_W (xm_y M).cls (xm_y M).name q := by
  intro C T N hc
  obtain ⟨C', T', N', ⟨hc', -⟩, hk, -⟩ := hg
  cases hc.symm.trans hc'
  have hq : q.1 < 13 := (List.getElem?_eq_some_iff.mp hc).1
  have hf := xz_fn_ok q.1 hq
  rw [hc] at hf
  have hf : (List.range N).map (fun k => (T k).2.2.2) = xz_fn q.1 := Option.some.inj hf
  have hv : (xz_fn q.1).getD q.2.1 true = (T q.2.1).2.2.2 := by
    rw [← hf, List.getD_eq_getElem?_getD, List.getElem?_map, List.getElem?_range hk]
    rfl
  unfold xs_wr at hw
  rw [hv] at hw
  cases hb : (T q.2.1).2.2.2 with
  | false => exact Or.inl rfl
  | true =>
    rw [hb] at hw
    simp only [Bool.not_true, Bool.false_or, Nat.beq_eq] at hw
    have h13 : xm_i M < 13 := by rw [hw]; exact hq
    obtain ⟨h1, h2⟩ := xm_i_ok M hM h13
    rw [hw, hc] at h2
    exact Or.inr ⟨rfl, h1, Option.some.inj h2⟩
section XpOk
variable {l : Launch} {Ω : xo_O} {d kc ks M pc : Nat} {L : List (Option Value)} {K : List Value} {h : xh_H} {r : xv_R}
theorem xr_sld {a : Nat} {x : Int32} (hd : decode (xm_c M) pc = .ok (.iaload, 1)) (hin : vp_in x (xo_n Ω)) (k : xv l Ω d kc ks M (pc + 1) L (.int (xo_x Ω x.toNatClampNeg) :: K) h r) : xv l Ω d kc ks M pc L (.int x :: .retAddr a :: K) h r := by
  intro p e R s m args below meth c H locs cells slots ls C0 w hlo hR hL
  have k := k p e R s m args below meth c H locs cells slots ls C0 w hlo hR hL
  obtain ⟨⟨hx, hb, hml⟩, hret, hlk, htab, hown, hnm, hT, hs0, hsz, htr⟩ := C0
  have hX := hT.2.2.1
  have hbl : (xo_z Ω).2 < (xo_H Ω).size := by
    obtain ⟨scr, h1, -⟩ := hX
    exact (Array.getElem?_eq_some_iff.mp h1).1
  exact va_sld hx hb hX hbl (A := fun q => xo_s Ω ≤ q) (by have := w.2.1; show ¬ xo_s Ω ≤ _; omega) (xw_S w hlo) hin hd k
theorem xr_slen {a : Nat} (hd : decode (xm_c M) pc = .ok (.arraylength, 1)) (k : xv l Ω d kc ks M (pc + 1) L (.int (Int32.ofNat (xo_n Ω)) :: K) h r) : xv l Ω d kc ks M pc L (.retAddr a :: K) h r := by
  intro p e R s m args below meth c H locs cells slots ls C0 w hlo hR hL
  have k := k p e R s m args below meth c H locs cells slots ls C0 w hlo hR hL
  obtain ⟨⟨hx, hb, hml⟩, hret, hlk, htab, hown, hnm, hT, hs0, hsz, htr⟩ := C0
  have hX := hT.2.2.1
  have hbl : (xo_z Ω).2 < (xo_H Ω).size := by
    obtain ⟨scr, h1, -⟩ := hX
    exact (Array.getElem?_eq_some_iff.mp h1).1
  exact va_slen hx hb hX hbl (A := fun q => xo_s Ω ≤ q) (by have := w.2.1; show ¬ xo_s Ω ≤ _; omega) (xw_S w hlo) hd k
theorem xs_step_ok {t n tg : Nat} {i : Instr} {z : xp_S} (hi : xi M pc = some (t, i, n, tg)) (hz : xs_step Ω M pc L K h t i n tg = some z) (hP : xs_ob z.1 (xv l Ω d kc ks M z.2.1 z.2.2.1 z.2.2.2.1 z.2.2.2.2 r)) : xv l Ω d kc ks M pc L K h r := by
  obtain ⟨hM, hd, ht⟩ := xi_ok hi
  dsimp only at hd ht
  unfold xs_step at hz
  split at hz
  · unfold xs_s0 at hz
    split at hz
    · cases hz; exact xr_const hM hd (by assumption) hP
    · cases hz
  · unfold xs_s1 at hz
    split at hz
    · split at hz
      · rw [cond_eq_ite] at hz
        split at hz
        · cases hz; exact xr_ld hd (by assumption) (by assumption) (by assumption) hP
        · cases hz
      · cases hz
    · cases hz
  · unfold xs_s2 at hz
    split at hz
    · split at hz
      · rw [cond_eq_ite] at hz
        split at hz
        · rename_i hb
          simp only [Bool.and_eq_true, Nat.blt_eq] at hb
          have hst := ‹xs_st _ _ = some _›
          cases hz; exact xr_st hd hst hb.1.1 hb.1.2 hb.2 hP
        · cases hz
      · cases hz
    · cases hz
  · rw [cond_eq_ite] at hz
    split at hz
    · rename_i hb
      rw [Nat.beq_eq] at hb
      split at hz
      · have hb : n = 3 := hb
        subst hb
        unfold xs_s3 at hz
        split at hz
        · split at hz
          · rw [cond_eq_ite] at hz
            split at hz
            · cases hz; exact xr_iinc hd (by assumption) (by assumption) hP
            · cases hz
          · cases hz
        · cases hz
      · have hb : n = 1 := hb
        subst hb
        unfold xs_s4 at hz
        split at hz
        · split at hz
          · cases hz; exact xr_bin hd (by assumption) hP
          · cases hz
        · cases hz
      · have hb : n = 1 := hb
        subst hb
        unfold xs_s5 at hz
        split at hz
        · split at hz
          · cases hz; exact xr_div hd (by assumption) hP.1 hP.2
          · cases hz
        · cases hz
      · have hb : n = 1 := hb
        subst hb
        unfold xs_s6 at hz
        split at hz
        · cases hz; exact xr_stk hd (by assumption) hP
        · cases hz
      · have hb : n = 3 := hb
        subst hb
        unfold xs_s7 at hz
        split at hz
        · split at hz
          · cases hz; exact xr_ldc2 hM hd (by assumption) hP
          · cases hz
        · cases hz
      · have hb : n = 3 := hb
        subst hb
        unfold xs_s8 at hz
        split at hz
        · cases hz; exact xr_goto hd (ht _ rfl) hP
        · cases hz
      · have hb : n = 3 := hb
        subst hb
        unfold xs_s11 at hz
        split at hz
        · split at hz
          · split at hz
            · rw [cond_eq_ite] at hz
              split at hz
              · have hg := ‹xz_g _ _ = some _›
                have ho := ‹xs_obj _ _ _ = true›
                obtain ⟨h1, h2⟩ := xs_obj_ok ho
                cases hz; exact xr_get hd (xz_g_ok hM hg) h1 h2 hP
              · cases hz
            · cases hz
          · cases hz
        · cases hz
      · have hb : n = 3 := hb
        subst hb
        unfold xs_s12 at hz
        split at hz
        · split at hz
          · split at hz
            · rw [cond_eq_ite] at hz
              split at hz
              · split at hz
                · have hg := ‹xz_g _ _ = some _›
                  have ho := ‹(_ && _) = true›
                  have hh := ‹xs_pf _ _ _ _ _ = some _›
                  rw [Bool.and_eq_true] at ho
                  obtain ⟨h1, h2⟩ := xs_obj_ok ho.1
                  have hgf := xz_g_ok hM hg
                  cases hz
                  dsimp only at hP
                  rw [cond_eq_ite] at hP
                  split at hP
                  · exact xr_put hd hgf (xs_wr_ok hM hgf ho.2) h1 h2 hh hP.1 hP.2
                  · rename_i hne
                    rw [Nat.beq_eq] at hne
                    refine xr_put hd hgf (xs_wr_ok hM hgf ho.2) h1 h2 hh ?_ hP
                    unfold xs_po
                    split
                    · exact (hne (by assumption)).elim
                    · trivial
                · cases hz
              · cases hz
            · cases hz
          · cases hz
        · cases hz
      · have hb : n = 1 := hb
        subst hb
        unfold xs_s13 at hz
        split at hz
        · rw [cond_eq_ite] at hz
          split at hz
          · split at hz
            · have ha := ‹Nat.blt _ _ = true›
              have hv := ‹xs_al _ _ _ _ = some _›
              rw [Nat.blt_eq] at ha
              cases hz; exact xr_al hd hv ha hP.1 hP.2
            · cases hz
          · cases hz
        · split at hz
          · cases hz; exact xr_sld hd hP.1 hP.2
          · cases hz
        · cases hz
      · have hb : n = 1 := hb
        subst hb
        unfold xs_s14 at hz
        split at hz
        · rw [cond_eq_ite] at hz
          split at hz
          · split at hz
            · have ha := ‹Nat.blt _ _ = true›
              have hv := ‹xs_as _ _ _ _ _ = some _›
              rw [Nat.blt_eq] at ha
              cases hz; exact xr_as hd hv ha hP.1 hP.2
            · cases hz
          · cases hz
        · cases hz
      · have hb : n = 1 := hb
        subst hb
        unfold xs_s15 at hz
        split at hz
        · split at hz
          · rw [cond_eq_ite] at hz
            split at hz
            · rename_i ho
              rw [Bool.and_eq_true, Nat.blt_eq, Nat.beq_eq] at ho
              cases hz; exact xr_len hd ho.1 (Prod.ext ho.2 rfl) hP
            · cases hz
          · cases hz; exact xr_slen hd hP
          · cases hz
        · cases hz
      · cases hz
    · cases hz
end XpOk
