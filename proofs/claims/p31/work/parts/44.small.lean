/-! ===== small things ===== -/
theorem doF_y {g : Nat → Int} {T z : Int} (h : 0 ≤ z ∧ z < T) : doF g T z = g z.toNat := by unfold doF; rw [if_pos h]
theorem rcN_0 {x : Int} (h : x = 1) : rcN x = 0 := by unfold rcN; rw [if_neg (by omega)]
theorem rcN_1 {x : Int} (h : ¬ x = 1) : rcN x = 1 := by unfold rcN; rw [if_pos h]
