/-! TO DO: these calls -/
section BsTodo
variable {x0 s0 : Nat} {Y : bs_Ly} {S : Mem} {M : MS}
theorem bs_op_exercise (h : bs_Rel x0 s0 Y S M) (x y : Int32) : bs_OK x0 s0 Y (c_X5_exercise S (Y 0 0) x y) (m_X6_exercise M x y) := by
  sorry
end BsTodo
