/-! where the class throws; which handler catches -/
def xq_C (c : Nat) : String := match c with
  | 0 => "java/lang/IllegalArgumentException"
  | 1 => "java/lang/IllegalStateException"
  | 2 => "java/lang/UnsupportedOperationException"
  | _ => "java/lang/IndexOutOfBoundsException"
def xq_n : List String := ["java/lang/RuntimeException", "java/lang/Exception"]
theorem xq_fit : ∀ n ∈ xq_n, Bundle.fit n = true := by decide +kernel
theorem xq_at {l : List Cond} (h : ∀ a ∈ l, (a ∈ tables_1 ∧ xg_g a = true) ∨ a ∈ xg_sp ∨ a ∈ xg_dc) : ∀ a ∈ l, a ∈ xt ∨ a ∈ xg_sp ∨ a ∈ xg_dc := fun a ha => (h a ha).imp (fun z => List.mem_filter.mpr ⟨List.mem_append_right _ z.1, z.2⟩) id
theorem xq_a0 : ∀ a ∈ Bundle.ownAtoms0 "AccessDesk" 247 "java/lang/IllegalArgumentException" xq_n, (a ∈ tables_1 ∧ xg_g a = true) ∨ a ∈ xg_sp ∨ a ∈ xg_dc := by decide +kernel
theorem xq_a1 : ∀ a ∈ Bundle.ownAtoms0 "AccessDesk" 248 "java/lang/IllegalStateException" xq_n, (a ∈ tables_1 ∧ xg_g a = true) ∨ a ∈ xg_sp ∨ a ∈ xg_dc := by decide +kernel
theorem xq_a3 : ∀ a ∈ Bundle.ownAtoms0 "AccessDesk" 254 "java/lang/IndexOutOfBoundsException" xq_n, (a ∈ tables_1 ∧ xg_g a = true) ∨ a ∈ xg_sp ∨ a ∈ xg_dc := by decide +kernel
theorem xq_s1 : ∀ a ∈ Bundle.ownAtoms "AccessDesk" 102 "java/lang/IllegalStateException" xq_n, (a ∈ tables_1 ∧ xg_g a = true) ∨ a ∈ xg_sp ∨ a ∈ xg_dc := by decide +kernel
theorem xq_s2 : ∀ a ∈ Bundle.ownAtoms "AccessDesk" 223 "java/lang/UnsupportedOperationException" xq_n, (a ∈ tables_1 ∧ xg_g a = true) ∨ a ∈ xg_sp ∨ a ∈ xg_dc := by decide +kernel
theorem xq_i0 : Cond.instantiable "java/lang/IllegalArgumentException" 6 ∈ xt := xt_m 387 (by decide +kernel)
theorem xq_u0 : Cond.initialized "java/lang/IllegalArgumentException" ∈ xt := xt_m 17 (by decide +kernel)
theorem xq_k0 : Cond.castable "java/lang/IllegalArgumentException" "java/lang/IllegalArgumentException" ∈ xt := xt_m 388 (by decide +kernel)
theorem xq_i1 : Cond.instantiable "java/lang/IllegalStateException" 6 ∈ xt := xt_m 470 (by decide +kernel)
theorem xq_u1 : Cond.initialized "java/lang/IllegalStateException" ∈ xt := xt_m 18 (by decide +kernel)
theorem xq_k1 : Cond.castable "java/lang/IllegalStateException" "java/lang/IllegalStateException" ∈ xt := xt_m 471 (by decide +kernel)
theorem xq_i2 : Cond.instantiable "java/lang/UnsupportedOperationException" 6 ∈ xt := xt_m 919 (by decide +kernel)
theorem xq_u2 : Cond.initialized "java/lang/UnsupportedOperationException" ∈ xt := xt_m 21 (by decide +kernel)
theorem xq_k2 : Cond.castable "java/lang/UnsupportedOperationException" "java/lang/UnsupportedOperationException" ∈ xt := xt_m 920 (by decide +kernel)
theorem xq_i3 : Cond.instantiable "java/lang/IndexOutOfBoundsException" 6 ∈ xt := xt_m 955 (by decide +kernel)
theorem xq_u3 : Cond.initialized "java/lang/IndexOutOfBoundsException" ∈ xt := xt_m 22 (by decide +kernel)
theorem xq_k3 : Cond.castable "java/lang/IndexOutOfBoundsException" "java/lang/IndexOutOfBoundsException" ∈ xt := xt_m 956 (by decide +kernel)
theorem xq_l245 : Cond.classLink "AccessDesk" 245 "java/lang/IllegalArgumentException" ∈ xt := xt_m 386 (by decide +kernel)
theorem xq_l98 : Cond.classLink "AccessDesk" 98 "java/lang/IllegalStateException" ∈ xt := xt_m 469 (by decide +kernel)
theorem xq_l219 : Cond.classLink "AccessDesk" 219 "java/lang/UnsupportedOperationException" ∈ xt := xt_m 918 (by decide +kernel)
theorem xq_l252 : Cond.classLink "AccessDesk" 252 "java/lang/IndexOutOfBoundsException" ∈ xt := xt_m 954 (by decide +kernel)
theorem xq_w13 : Cond.classLink "AccessDeskLaw" 13 "java/lang/IllegalArgumentException" ∈ xt := xt_m 371 (by decide +kernel)
theorem xq_w15 : Cond.classLink "AccessDeskLaw" 15 "java/lang/IllegalStateException" ∈ xt := xt_m 372 (by decide +kernel)
theorem xq_w70 : Cond.classLink "AccessDeskLaw" 70 "java/lang/UnsupportedOperationException" ∈ xt := xt_m 902 (by decide +kernel)
theorem xq_w76 : Cond.classLink "AccessDeskLaw" 76 "java/lang/IndexOutOfBoundsException" ∈ xt := xt_m 941 (by decide +kernel)
section XvSites
variable {l : Launch} {Ω : xo_O} {d kc ks : Nat} {L : List (Option Value)} {K : List Value} {h : xh_H}
/-- what throwing wants: no cell is counted exactly, room, frames, a short stack -/
def xs_th (h : xh_H) (d kc ks : Nat) (K : List Value) : Bool := !h.1.1 && Nat.ble 1 kc && Nat.ble 6 ks && Nat.ble 6 d && Nat.ble (K.map fun v => v.category).sum 8
theorem xs_th_ok (hb : xs_th h d kc ks K = true) : h.1.1 = false ∧ 1 ≤ kc ∧ 6 ≤ ks ∧ 6 ≤ d ∧ Nat.ble (K.map fun v => v.category).sum 8 = true := by
  unfold xs_th at hb
  simp only [Bool.and_eq_true, Bool.not_eq_true'] at hb
  exact ⟨hb.1.1.1.1, Nat.le_of_ble_eq_true hb.1.1.1.2, Nat.le_of_ble_eq_true hb.1.1.2, Nat.le_of_ble_eq_true hb.1.2, hb.2⟩
theorem xq_t23 (hb : xs_th h d kc ks K = true) : xv l Ω d kc ks 23 84 L K h (.inr (xq_C 1), h) := by
  obtain ⟨h1, h2, h3, h4, h5⟩ := xs_th_ok hb
  exact xr_throwS xq_n (xi_ok (M := 23) (pc := 84) rfl).2.1 (xi_ok (M := 23) (pc := 87) rfl).2.1 (xi_ok (M := 23) (pc := 88) rfl).2.1 (xi_ok (M := 23) (pc := 90) rfl).2.1 (xi_ok (M := 23) (pc := 93) rfl).2.1 (fun U g => g.2.1) xq_l98 xq_i1 xq_u1 (xq_at xq_s1) (by decide +kernel) xq_fit rfl h1 h2 h3 h4 h5
theorem xq_t26 (hb : xs_th h d kc ks K = true) : xv l Ω d kc ks 26 4 L K h (.inr (xq_C 0), h) := by
  obtain ⟨h1, h2, h3, h4, h5⟩ := xs_th_ok hb
  exact xr_throw0 xq_n (xi_ok (M := 26) (pc := 4) rfl).2.1 (xi_ok (M := 26) (pc := 7) rfl).2.1 (xi_ok (M := 26) (pc := 8) rfl).2.1 (xi_ok (M := 26) (pc := 11) rfl).2.1 xq_l245 xq_i0 xq_u0 (xq_at xq_a0) (by decide +kernel) xq_fit rfl h1 h2 h3 h4 h5
theorem xq_t31 (hb : xs_th h d kc ks K = true) : xv l Ω d kc ks 31 4 L K h (.inr (xq_C 1), h) := by
  obtain ⟨h1, h2, h3, h4, h5⟩ := xs_th_ok hb
  exact xr_throw0 xq_n (xi_ok (M := 31) (pc := 4) rfl).2.1 (xi_ok (M := 31) (pc := 7) rfl).2.1 (xi_ok (M := 31) (pc := 8) rfl).2.1 (xi_ok (M := 31) (pc := 11) rfl).2.1 xq_l98 xq_i1 xq_u1 (xq_at xq_a1) (by decide +kernel) xq_fit rfl h1 h2 h3 h4 h5
theorem xq_t46 (hb : xs_th h d kc ks K = true) : xv l Ω d kc ks 46 67 L K h (.inr (xq_C 1), h) := by
  obtain ⟨h1, h2, h3, h4, h5⟩ := xs_th_ok hb
  exact xr_throwS xq_n (xi_ok (M := 46) (pc := 67) rfl).2.1 (xi_ok (M := 46) (pc := 70) rfl).2.1 (xi_ok (M := 46) (pc := 71) rfl).2.1 (xi_ok (M := 46) (pc := 73) rfl).2.1 (xi_ok (M := 46) (pc := 76) rfl).2.1 (fun U g => g.2.1) xq_l98 xq_i1 xq_u1 (xq_at xq_s1) (by decide +kernel) xq_fit rfl h1 h2 h3 h4 h5
theorem xq_t71 (hb : xs_th h d kc ks K = true) : xv l Ω d kc ks 71 45 L K h (.inr (xq_C 1), h) := by
  obtain ⟨h1, h2, h3, h4, h5⟩ := xs_th_ok hb
  exact xr_throwS xq_n (xi_ok (M := 71) (pc := 45) rfl).2.1 (xi_ok (M := 71) (pc := 48) rfl).2.1 (xi_ok (M := 71) (pc := 49) rfl).2.1 (xi_ok (M := 71) (pc := 51) rfl).2.1 (xi_ok (M := 71) (pc := 54) rfl).2.1 (fun U g => g.2.1) xq_l98 xq_i1 xq_u1 (xq_at xq_s1) (by decide +kernel) xq_fit rfl h1 h2 h3 h4 h5
theorem xq_t136 (hb : xs_th h d kc ks K = true) : xv l Ω d kc ks 136 141 L K h (.inr (xq_C 2), h) := by
  obtain ⟨h1, h2, h3, h4, h5⟩ := xs_th_ok hb
  exact xr_throwS xq_n (xi_ok (M := 136) (pc := 141) rfl).2.1 (xi_ok (M := 136) (pc := 144) rfl).2.1 (xi_ok (M := 136) (pc := 145) rfl).2.1 (xi_ok (M := 136) (pc := 147) rfl).2.1 (xi_ok (M := 136) (pc := 150) rfl).2.1 (fun U g => g.2.2.1) xq_l219 xq_i2 xq_u2 (xq_at xq_s2) (by decide +kernel) xq_fit rfl h1 h2 h3 h4 h5
theorem xq_t143 (hb : xs_th h d kc ks K = true) : xv l Ω d kc ks 143 11 L K h (.inr (xq_C 3), h) := by
  obtain ⟨h1, h2, h3, h4, h5⟩ := xs_th_ok hb
  exact xr_throw0 xq_n (xi_ok (M := 143) (pc := 11) rfl).2.1 (xi_ok (M := 143) (pc := 14) rfl).2.1 (xi_ok (M := 143) (pc := 15) rfl).2.1 (xi_ok (M := 143) (pc := 18) rfl).2.1 xq_l252 xq_i3 xq_u3 (xq_at xq_a3) (by decide +kernel) xq_fit rfl h1 h2 h3 h4 h5
def xz_th (M pc : Nat) : Option Nat := bif Nat.beq M 23 && Nat.beq pc 84 then some 1 else bif Nat.beq M 26 && Nat.beq pc 4 then some 0 else bif Nat.beq M 31 && Nat.beq pc 4 then some 1 else bif Nat.beq M 46 && Nat.beq pc 67 then some 1 else bif Nat.beq M 71 && Nat.beq pc 45 then some 1 else bif Nat.beq M 136 && Nat.beq pc 141 then some 2 else bif Nat.beq M 143 && Nat.beq pc 11 then some 3 else none
theorem xz_th_ok {M pc c : Nat} (hs : xz_th M pc = some c) (hb : xs_th h d kc ks K = true) : xv l Ω d kc ks M pc L K h (.inr (xq_C c), h) := by
  unfold xz_th at hs
  simp only [cond_eq_ite, Bool.and_eq_true, Nat.beq_eq] at hs
  split at hs
  · rename_i hq; obtain ⟨rfl, rfl⟩ := hq; cases hs; exact xq_t23 hb
  split at hs
  · rename_i hq; obtain ⟨rfl, rfl⟩ := hq; cases hs; exact xq_t26 hb
  split at hs
  · rename_i hq; obtain ⟨rfl, rfl⟩ := hq; cases hs; exact xq_t31 hb
  split at hs
  · rename_i hq; obtain ⟨rfl, rfl⟩ := hq; cases hs; exact xq_t46 hb
  split at hs
  · rename_i hq; obtain ⟨rfl, rfl⟩ := hq; cases hs; exact xq_t71 hb
  split at hs
  · rename_i hq; obtain ⟨rfl, rfl⟩ := hq; cases hs; exact xq_t136 hb
  split at hs
  · rename_i hq; obtain ⟨rfl, rfl⟩ := hq; cases hs; exact xq_t143 hb
  cases hs
end XvSites
def xs_hn (ct : Nat) : Nat := match ct with
  | 13 => 0
  | 15 => 1
  | 70 => 2
  | 76 => 3
  | _ => 9
def xs_nca (c e : Nat) : Bool := match c, e with
  | 1, 0 => true
  | 2, 0 => true
  | 2, 1 => true
  | 3, 0 => true
  | _, _ => false
def xs_hpl : List (Nat × Nat × Nat × Nat) → Nat → Nat → Option Nat
  | [], _, _ => none
  | x :: t, pc, c => bif Nat.ble x.1 pc && Nat.blt pc x.2.1 && Nat.blt c 4 then (bif Nat.beq (xs_hn x.2.2.2) c then some x.2.2.1 else bif xs_nca c (xs_hn x.2.2.2) then xs_hpl t pc c else none) else none
theorem xs_hn_ok {ct c : Nat} (h : xs_hn ct = c) (hc : c < 4) : ct ≠ 0 ∧ Cond.classLink "AccessDeskLaw" ct (xq_C c) ∈ xt := by
  unfold xs_hn at h
  split at h <;> subst h
  · exact ⟨by decide, xq_w13⟩
  · exact ⟨by decide, xq_w15⟩
  · exact ⟨by decide, xq_w70⟩
  · exact ⟨by decide, xq_w76⟩
  · exact absurd hc (by decide)
theorem xq_k {c : Nat} (hc : c < 4) : Cond.castable (xq_C c) (xq_C c) ∈ xt := by
  match c, hc with
  | 0, _ => exact xq_k0
  | 1, _ => exact xq_k1
  | 2, _ => exact xq_k2
  | 3, _ => exact xq_k3
theorem xs_nca_ok {c e : Nat} (h : xs_nca c e = true) : e < 4 ∧ Cond.not (.castable (xq_C c) (xq_C e)) ∈ xg_nc := by
  unfold xs_nca at h
  split at h
  · exact ⟨by decide, by simp [xg_nc, xq_C]⟩
  · exact ⟨by decide, by simp [xg_nc, xq_C]⟩
  · exact ⟨by decide, by simp [xg_nc, xq_C]⟩
  · exact ⟨by decide, by simp [xg_nc, xq_C]⟩
  · cases h
theorem xs_hpl_ok {Ω : xo_O} {args : Array Value} {s : State} (hT : xv_T Ω s) {pc c hp : Nat} : ∀ hh : List (Nat × Nat × Nat × Nat), xs_hpl hh pc c = some hp → xh_ok args s "AccessDeskLaw" (xq_C c) hh pc hp
  | [], h => by cases h
  | x :: t, h => by
    unfold xs_hpl at h
    simp only [cond_eq_ite, Bool.and_eq_true, Nat.blt_eq] at h
    split at h
    · rename_i hb
      obtain ⟨⟨h1, h2⟩, h3⟩ := hb
      have h1 := Nat.le_of_ble_eq_true h1
      split at h
      · rename_i he
        rw [Nat.beq_eq] at he
        cases h
        obtain ⟨g1, g2⟩ := xs_hn_ok he h3
        exact ⟨⟨h1, h2, g1⟩, xq_C c, hT.1 args _ g2, Or.inl ⟨hT.1 args _ (xq_k h3), rfl⟩⟩
      · split at h
        · rename_i hn
          obtain ⟨g1, g2⟩ := xs_nca_ok hn
          obtain ⟨g3, g4⟩ := xs_hn_ok rfl g1
          exact ⟨⟨h1, h2, g3⟩, _, hT.1 args _ g4, Or.inr ⟨hT.2.2.2.2.2.2.1 args _ g2, xs_hpl_ok hT t h⟩⟩
        · cases h
    · cases h
