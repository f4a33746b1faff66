/-! comparisons of written numbers -/
def z_cb (c : ClassFile.Cond) (x y : Int32) : Bool := match c with
  | .eq => decide (x = y)
  | .ne => decide (x ≠ y)
  | .lt => decide (x < y)
  | .ge => decide (y ≤ x)
  | .gt => decide (y < x)
  | .le => decide (x ≤ y)
theorem zd_iff (c : ClassFile.Cond) (x y : Int32) : z_cond c x y ↔ z_cb c x y = true := by
  cases c <;> simp [z_cond, z_cb]
