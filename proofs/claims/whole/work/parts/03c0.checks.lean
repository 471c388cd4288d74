def xs_off (i : Instr) : Option Int := match i with
  | .goto o => some o
  | .ifCond _ o => some o
  | .if_icmp _ o => some o
  | _ => none
def xi_chk (cc : ByteArray) (pc : Nat) (q : Option xi_I) : Bool := match q with
  | none => true
  | some q => decide (decode cc pc = .ok (q.2.1, q.2.2.1)) && (match xs_off q.2.1 with
    | some o => decide ((pc : Int) + o = (q.2.2.2 : Int))
    | none => true)
def xi_P (M : Nat) : Prop := ∀ pc, pc < xm_n M → xi_chk (xm_c M) pc (xi_t M pc) = true
theorem xi_r {P : Nat → Prop} {lo hi : Nat} (n : Nat) (h : ∀ pc, pc < lo → P pc) (h2 : ∀ k, k < n → P (lo + k)) (hn : lo + n = hi) : ∀ pc, pc < hi → P pc := fun pc hp => by
  by_cases hl : pc < lo
  · exact h pc hl
  · have := h2 (pc - lo) (by omega)
    rwa [show lo + (pc - lo) = pc by omega] at this
