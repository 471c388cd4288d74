/-! how many bits -/
def wb (x : Int32) : Int32 := match g37 x (fun _ _ => 0) with
  | some (.inl v, _) => v
  | _ => 0
theorem g37_eq (x : Int32) (σ : xS) : g37 x σ = some (.inl (wb x), σ) := rfl
theorem wb_wm_0 : (List.range 4096).all (fun n => decide (wb (Int32.ofNat n) = wm (Int32.ofNat n))) = true := by decide +kernel
/-- the JDK's count is the reference's, on every set of roles -/
theorem wb_wm : ∀ n, n < 4096 → wb (Int32.ofNat n) = wm (Int32.ofNat n) := fun n hn => of_decide_eq_true (List.all_eq_true.mp wb_wm_0 n (List.mem_range.mpr hn))
