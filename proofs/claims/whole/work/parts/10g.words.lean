/-! Object.<init> and new: what the words say -/
def xz_ol0 : List (Nat × Nat) := []
def xz_ol1 : List (Nat × Nat) := [(1, 0)]
def xz_ol2 : List (Nat × Nat) := [(3, 0)]
def xz_ol3 : List (Nat × Nat) := [(3, 0)]
def xz_ol4 : List (Nat × Nat) := [(3, 0)]
def xz_ol5 : List (Nat × Nat) := [(3, 0)]
def xz_ol6 : List (Nat × Nat) := [(3, 0)]
def xz_ol7 : List (Nat × Nat) := [(3, 0)]
def xz_ol8 : List (Nat × Nat) := [(1, 0)]
def xz_ol9 : List (Nat × Nat) := [(3, 0)]
def xz_ol10 : List (Nat × Nat) := [(3, 0)]
def xz_ol11 : List (Nat × Nat) := [(3, 0)]
def xz_ol12 : List (Nat × Nat) := [(1, 0)]
def xz_ol13 : List (Nat × Nat) := [(1, 0)]
def xz_ol14 : List (Nat × Nat) := []
def xz_ol15 : List (Nat × Nat) := []
def xz_ol (c : Nat) : List (Nat × Nat) := (bif Nat.blt c 8 then (bif Nat.blt c 4 then (bif Nat.blt c 2 then (bif Nat.blt c 1 then xz_ol0 else xz_ol1) else (bif Nat.blt c 3 then xz_ol2 else xz_ol3)) else (bif Nat.blt c 6 then (bif Nat.blt c 5 then xz_ol4 else xz_ol5) else (bif Nat.blt c 7 then xz_ol6 else xz_ol7))) else (bif Nat.blt c 12 then (bif Nat.blt c 10 then (bif Nat.blt c 9 then xz_ol8 else xz_ol9) else (bif Nat.blt c 11 then xz_ol10 else xz_ol11)) else (bif Nat.blt c 14 then (bif Nat.blt c 13 then xz_ol12 else xz_ol13) else (bif Nat.blt c 15 then xz_ol14 else xz_ol15))))
theorem xz_ow0 : ∀ q ∈ xz_ol0, Cond.methodLink (xz_cn 0) q.1 objectInit ∈ xt := fun _ h => absurd h List.not_mem_nil
theorem xz_ow1 : ∀ q ∈ xz_ol1, Cond.methodLink (xz_cn 1) q.1 objectInit ∈ xt := List.forall_mem_cons.mpr ⟨xt_m 28 (by decide +kernel), fun _ h => absurd h List.not_mem_nil⟩
theorem xz_ow2 : ∀ q ∈ xz_ol2, Cond.methodLink (xz_cn 2) q.1 objectInit ∈ xt := List.forall_mem_cons.mpr ⟨xt_m 36 (by decide +kernel), fun _ h => absurd h List.not_mem_nil⟩
theorem xz_ow3 : ∀ q ∈ xz_ol3, Cond.methodLink (xz_cn 3) q.1 objectInit ∈ xt := List.forall_mem_cons.mpr ⟨xt_m 47 (by decide +kernel), fun _ h => absurd h List.not_mem_nil⟩
theorem xz_ow4 : ∀ q ∈ xz_ol4, Cond.methodLink (xz_cn 4) q.1 objectInit ∈ xt := List.forall_mem_cons.mpr ⟨xt_m 67 (by decide +kernel), fun _ h => absurd h List.not_mem_nil⟩
theorem xz_ow5 : ∀ q ∈ xz_ol5, Cond.methodLink (xz_cn 5) q.1 objectInit ∈ xt := List.forall_mem_cons.mpr ⟨xt_m 85 (by decide +kernel), fun _ h => absurd h List.not_mem_nil⟩
theorem xz_ow6 : ∀ q ∈ xz_ol6, Cond.methodLink (xz_cn 6) q.1 objectInit ∈ xt := List.forall_mem_cons.mpr ⟨xt_m 108 (by decide +kernel), fun _ h => absurd h List.not_mem_nil⟩
theorem xz_ow7 : ∀ q ∈ xz_ol7, Cond.methodLink (xz_cn 7) q.1 objectInit ∈ xt := List.forall_mem_cons.mpr ⟨xt_m 130 (by decide +kernel), fun _ h => absurd h List.not_mem_nil⟩
theorem xz_ow8 : ∀ q ∈ xz_ol8, Cond.methodLink (xz_cn 8) q.1 objectInit ∈ xt := List.forall_mem_cons.mpr ⟨xt_m 136 (by decide +kernel), fun _ h => absurd h List.not_mem_nil⟩
theorem xz_ow9 : ∀ q ∈ xz_ol9, Cond.methodLink (xz_cn 9) q.1 objectInit ∈ xt := List.forall_mem_cons.mpr ⟨xt_m 151 (by decide +kernel), fun _ h => absurd h List.not_mem_nil⟩
theorem xz_ow10 : ∀ q ∈ xz_ol10, Cond.methodLink (xz_cn 10) q.1 objectInit ∈ xt := List.forall_mem_cons.mpr ⟨xt_m 227 (by decide +kernel), fun _ h => absurd h List.not_mem_nil⟩
theorem xz_ow11 : ∀ q ∈ xz_ol11, Cond.methodLink (xz_cn 11) q.1 objectInit ∈ xt := List.forall_mem_cons.mpr ⟨xt_m 233 (by decide +kernel), fun _ h => absurd h List.not_mem_nil⟩
theorem xz_ow12 : ∀ q ∈ xz_ol12, Cond.methodLink (xz_cn 12) q.1 objectInit ∈ xt := List.forall_mem_cons.mpr ⟨xt_m 290 (by decide +kernel), fun _ h => absurd h List.not_mem_nil⟩
theorem xz_ow13 : ∀ q ∈ xz_ol13, Cond.methodLink (xz_cn 13) q.1 objectInit ∈ xt := List.forall_mem_cons.mpr ⟨xt_m 986 (by decide +kernel), fun _ h => absurd h List.not_mem_nil⟩
theorem xz_ow14 : ∀ q ∈ xz_ol14, Cond.methodLink (xz_cn 14) q.1 objectInit ∈ xt := fun _ h => absurd h List.not_mem_nil
theorem xz_ow15 : ∀ q ∈ xz_ol15, Cond.methodLink (xz_cn 15) q.1 objectInit ∈ xt := fun _ h => absurd h List.not_mem_nil
theorem xz_ow_a : ∀ c, c < 16 → ∀ q ∈ xz_ol c, Cond.methodLink (xz_cn c) q.1 objectInit ∈ xt := lt_s (p := fun c => ∀ q ∈ xz_ol c, Cond.methodLink (xz_cn c) q.1 objectInit ∈ xt) (lt_s (p := fun c => ∀ q ∈ xz_ol c, Cond.methodLink (xz_cn c) q.1 objectInit ∈ xt) (lt_s (p := fun c => ∀ q ∈ xz_ol c, Cond.methodLink (xz_cn c) q.1 objectInit ∈ xt) (lt_s (p := fun c => ∀ q ∈ xz_ol c, Cond.methodLink (xz_cn c) q.1 objectInit ∈ xt) (lt_s (p := fun c => ∀ q ∈ xz_ol c, Cond.methodLink (xz_cn c) q.1 objectInit ∈ xt) (lt_s (p := fun c => ∀ q ∈ xz_ol c, Cond.methodLink (xz_cn c) q.1 objectInit ∈ xt) (lt_s (p := fun c => ∀ q ∈ xz_ol c, Cond.methodLink (xz_cn c) q.1 objectInit ∈ xt) (lt_s (p := fun c => ∀ q ∈ xz_ol c, Cond.methodLink (xz_cn c) q.1 objectInit ∈ xt) (lt_s (p := fun c => ∀ q ∈ xz_ol c, Cond.methodLink (xz_cn c) q.1 objectInit ∈ xt) (lt_s (p := fun c => ∀ q ∈ xz_ol c, Cond.methodLink (xz_cn c) q.1 objectInit ∈ xt) (lt_s (p := fun c => ∀ q ∈ xz_ol c, Cond.methodLink (xz_cn c) q.1 objectInit ∈ xt) (lt_s (p := fun c => ∀ q ∈ xz_ol c, Cond.methodLink (xz_cn c) q.1 objectInit ∈ xt) (lt_s (p := fun c => ∀ q ∈ xz_ol c, Cond.methodLink (xz_cn c) q.1 objectInit ∈ xt) (lt_s (p := fun c => ∀ q ∈ xz_ol c, Cond.methodLink (xz_cn c) q.1 objectInit ∈ xt) (lt_s (p := fun c => ∀ q ∈ xz_ol c, Cond.methodLink (xz_cn c) q.1 objectInit ∈ xt) (lt_s (p := fun c => ∀ q ∈ xz_ol c, Cond.methodLink (xz_cn c) q.1 objectInit ∈ xt) (lt_0 (p := fun c => ∀ q ∈ xz_ol c, Cond.methodLink (xz_cn c) q.1 objectInit ∈ xt)) xz_ow0) xz_ow1) xz_ow2) xz_ow3) xz_ow4) xz_ow5) xz_ow6) xz_ow7) xz_ow8) xz_ow9) xz_ow10) xz_ow11) xz_ow12) xz_ow13) xz_ow14) xz_ow15
theorem xz_oi : Cond.instanceMethod objectInit ∈ xt := xt_m 29 (by decide +kernel)
theorem xz_oc : Cond.code objectInit ⟨#[0xb1]⟩ 1 none ∈ xt := xt_m 30 (by decide +kernel)
def xg_N (own : String) (n ci : Nat) : Prop := ∃ (C : String) (T : u_T) (N : Nat), xg_C ci C T N ∧ Cond.classLink own n C ∈ xt ∧ Cond.instantiable C N ∈ xt ∧ Cond.initialized C ∈ xt
theorem xg_nw0 : ∀ q ∈ xz_nl0, xg_N (xz_cn 0) q.1 q.2 := List.forall_mem_cons.mpr ⟨⟨"AccessDesk", xT0, 9, xg_c0, xt_m 23 (by decide +kernel), xt_m 24 (by decide +kernel), xt_m 1 (by decide +kernel)⟩, List.forall_mem_cons.mpr ⟨⟨"AccessDeskModel", xT12, 53, xg_c12, xt_m 981 (by decide +kernel), xt_m 982 (by decide +kernel), xt_m 13 (by decide +kernel)⟩, fun _ h => absurd h List.not_mem_nil⟩⟩
theorem xg_nw1 : ∀ q ∈ xz_nl1, xg_N (xz_cn 1) q.1 q.2 := List.forall_mem_cons.mpr ⟨⟨"AccessDesk$Hierarchy", xT1, 1, xg_c1, xt_m 31 (by decide +kernel), xt_m 32 (by decide +kernel), xt_m 2 (by decide +kernel)⟩, List.forall_mem_cons.mpr ⟨⟨"AccessDesk$Users", xT2, 3, xg_c2, xt_m 42 (by decide +kernel), xt_m 43 (by decide +kernel), xt_m 3 (by decide +kernel)⟩, List.forall_mem_cons.mpr ⟨⟨"AccessDesk$Sessions", xT3, 3, xg_c3, xt_m 62 (by decide +kernel), xt_m 63 (by decide +kernel), xt_m 4 (by decide +kernel)⟩, List.forall_mem_cons.mpr ⟨⟨"AccessDesk$Bounds", xT4, 4, xg_c4, xt_m 80 (by decide +kernel), xt_m 81 (by decide +kernel), xt_m 5 (by decide +kernel)⟩, List.forall_mem_cons.mpr ⟨⟨"AccessDesk$Things", xT5, 4, xg_c5, xt_m 103 (by decide +kernel), xt_m 104 (by decide +kernel), xt_m 6 (by decide +kernel)⟩, List.forall_mem_cons.mpr ⟨⟨"AccessDesk$Reader", xT6, 5, xg_c6, xt_m 125 (by decide +kernel), xt_m 126 (by decide +kernel), xt_m 7 (by decide +kernel)⟩, List.forall_mem_cons.mpr ⟨⟨"AccessDesk$Judge", xT9, 6, xg_c9, xt_m 222 (by decide +kernel), xt_m 223 (by decide +kernel), xt_m 10 (by decide +kernel)⟩, List.forall_mem_cons.mpr ⟨⟨"AccessDesk$Book", xT11, 4, xg_c11, xt_m 285 (by decide +kernel), xt_m 286 (by decide +kernel), xt_m 12 (by decide +kernel)⟩, fun _ h => absurd h List.not_mem_nil⟩⟩⟩⟩⟩⟩⟩⟩
theorem xg_nw2 : ∀ q ∈ xz_nl2, xg_N (xz_cn 2) q.1 q.2 := fun _ h => absurd h List.not_mem_nil
theorem xg_nw3 : ∀ q ∈ xz_nl3, xg_N (xz_cn 3) q.1 q.2 := fun _ h => absurd h List.not_mem_nil
theorem xg_nw4 : ∀ q ∈ xz_nl4, xg_N (xz_cn 4) q.1 q.2 := fun _ h => absurd h List.not_mem_nil
theorem xg_nw5 : ∀ q ∈ xz_nl5, xg_N (xz_cn 5) q.1 q.2 := fun _ h => absurd h List.not_mem_nil
theorem xg_nw6 : ∀ q ∈ xz_nl6, xg_N (xz_cn 6) q.1 q.2 := fun _ h => absurd h List.not_mem_nil
theorem xg_nw7 : ∀ q ∈ xz_nl7, xg_N (xz_cn 7) q.1 q.2 := List.forall_mem_cons.mpr ⟨⟨"AccessDesk$Tape", xT7, 2, xg_c7, xt_m 131 (by decide +kernel), xt_m 132 (by decide +kernel), xt_m 8 (by decide +kernel)⟩, List.forall_mem_cons.mpr ⟨⟨"AccessDesk$Plan", xT8, 12, xg_c8, xt_m 146 (by decide +kernel), xt_m 147 (by decide +kernel), xt_m 9 (by decide +kernel)⟩, fun _ h => absurd h List.not_mem_nil⟩⟩
theorem xg_nw8 : ∀ q ∈ xz_nl8, xg_N (xz_cn 8) q.1 q.2 := fun _ h => absurd h List.not_mem_nil
theorem xg_nw9 : ∀ q ∈ xz_nl9, xg_N (xz_cn 9) q.1 q.2 := fun _ h => absurd h List.not_mem_nil
theorem xg_nw10 : ∀ q ∈ xz_nl10, xg_N (xz_cn 10) q.1 q.2 := List.forall_mem_cons.mpr ⟨⟨"AccessDesk$Facts", xT10, 9, xg_c10, xt_m 228 (by decide +kernel), xt_m 229 (by decide +kernel), xt_m 11 (by decide +kernel)⟩, List.forall_mem_cons.mpr ⟨⟨"AccessDesk$Plan", xT8, 12, xg_c8, xt_m 262 (by decide +kernel), xt_m 147 (by decide +kernel), xt_m 9 (by decide +kernel)⟩, fun _ h => absurd h List.not_mem_nil⟩⟩
theorem xg_nw11 : ∀ q ∈ xz_nl11, xg_N (xz_cn 11) q.1 q.2 := fun _ h => absurd h List.not_mem_nil
theorem xg_nw12 : ∀ q ∈ xz_nl12, xg_N (xz_cn 12) q.1 q.2 := fun _ h => absurd h List.not_mem_nil
theorem xg_nw13 : ∀ q ∈ xz_nl13, xg_N (xz_cn 13) q.1 q.2 := fun _ h => absurd h List.not_mem_nil
theorem xg_nw14 : ∀ q ∈ xz_nl14, xg_N (xz_cn 14) q.1 q.2 := fun _ h => absurd h List.not_mem_nil
theorem xg_nw15 : ∀ q ∈ xz_nl15, xg_N (xz_cn 15) q.1 q.2 := fun _ h => absurd h List.not_mem_nil
theorem xg_nw_a : ∀ c, c < 16 → ∀ q ∈ xz_nl c, xg_N (xz_cn c) q.1 q.2 := lt_s (p := fun c => ∀ q ∈ xz_nl c, xg_N (xz_cn c) q.1 q.2) (lt_s (p := fun c => ∀ q ∈ xz_nl c, xg_N (xz_cn c) q.1 q.2) (lt_s (p := fun c => ∀ q ∈ xz_nl c, xg_N (xz_cn c) q.1 q.2) (lt_s (p := fun c => ∀ q ∈ xz_nl c, xg_N (xz_cn c) q.1 q.2) (lt_s (p := fun c => ∀ q ∈ xz_nl c, xg_N (xz_cn c) q.1 q.2) (lt_s (p := fun c => ∀ q ∈ xz_nl c, xg_N (xz_cn c) q.1 q.2) (lt_s (p := fun c => ∀ q ∈ xz_nl c, xg_N (xz_cn c) q.1 q.2) (lt_s (p := fun c => ∀ q ∈ xz_nl c, xg_N (xz_cn c) q.1 q.2) (lt_s (p := fun c => ∀ q ∈ xz_nl c, xg_N (xz_cn c) q.1 q.2) (lt_s (p := fun c => ∀ q ∈ xz_nl c, xg_N (xz_cn c) q.1 q.2) (lt_s (p := fun c => ∀ q ∈ xz_nl c, xg_N (xz_cn c) q.1 q.2) (lt_s (p := fun c => ∀ q ∈ xz_nl c, xg_N (xz_cn c) q.1 q.2) (lt_s (p := fun c => ∀ q ∈ xz_nl c, xg_N (xz_cn c) q.1 q.2) (lt_s (p := fun c => ∀ q ∈ xz_nl c, xg_N (xz_cn c) q.1 q.2) (lt_s (p := fun c => ∀ q ∈ xz_nl c, xg_N (xz_cn c) q.1 q.2) (lt_s (p := fun c => ∀ q ∈ xz_nl c, xg_N (xz_cn c) q.1 q.2) (lt_0 (p := fun c => ∀ q ∈ xz_nl c, xg_N (xz_cn c) q.1 q.2)) xg_nw0) xg_nw1) xg_nw2) xg_nw3) xg_nw4) xg_nw5) xg_nw6) xg_nw7) xg_nw8) xg_nw9) xg_nw10) xg_nw11) xg_nw12) xg_nw13) xg_nw14) xg_nw15
theorem xz_n_ok {M n ci : Nat} (hM : M < 217) (h : xz_n (xm_k M) n = some ci) : xg_N (xm_y M).cls n ci := by
  rw [xm_cls M hM]
  exact xg_nw_a _ (xm_kl M hM) _ (xt_lk h)
theorem xz_o_ok {M n v : Nat} (hM : M < 217) (h : (xz_ol (xm_k M)).lookup n = some v) : Cond.methodLink (xm_y M).cls n objectInit ∈ xt := by
  rw [xm_cls M hM]
  exact xz_ow_a _ (xm_kl M hM) _ (xt_lk h)
theorem xz_a1 : Cond.arrayClass .int ∈ xt := xt_m 41 (by decide +kernel)
theorem xz_a2 : Cond.arrayClass .boolean ∈ xt := xt_m 61 (by decide +kernel)
theorem xz_a3 : Cond.arrayClass .long ∈ xt := xt_m 1415 (by decide +kernel)
