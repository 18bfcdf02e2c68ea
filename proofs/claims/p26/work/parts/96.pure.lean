/-! the law over the pure state -/
theorem pure_law {sl : Int} {sx : Int → Int} (hsl : 0 ≤ sl) (hsx : ∀ j, rgI (sx j)) : PureL sl sx := by
  sorry
