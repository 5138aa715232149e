def ld_Z0 : ld_M := fun i => if (6 < i ∧ i < 11) ∨ (17 < i ∧ i < 28) ∨ (34 < i ∧ i < 45) then (fun _ => (-1)) else if i = 11 ∨ i = 28 then (fun j => if j = 7 then (-1) else 0) else if i = 78 then upd (upd (fun _ => 0) (0 : Int32).toNatClampNeg (-1)) (1 : Int32).toNatClampNeg (-1) else fun _ => 0
theorem ld_pure (L : Nat) (xs : Nat → Int32) (hL : L ≤ 2560) : kL_law_23 L xs 600 ld_Z0 0 = some 1 := by
  sorry
