/-! BALLS, on both sides in step -/
theorem rt1 (a x y : Int32) : a + (x + 1) + y = a + x + y + 1 := by ac_rfl
theorem rt2 (x : Int32) : 2 * (x + 1) = 2 * x + 2 := by rw [Int32.mul_add]; rfl
theorem rt3 (a b c : Int32) : a + b - c = a - c + b := by rw [Int32.sub_eq_add_neg, Int32.sub_eq_add_neg]; ac_rfl
theorem rt4 (z1 z2 z3 z4 z6 : Int32) : z1 + 2 * (z2 + 1) + 3 * z3 + 4 * z4 + 6 * z6 = z1 + 2 * z2 + 3 * z3 + 4 * z4 + 6 * z6 + 2 := by grind
