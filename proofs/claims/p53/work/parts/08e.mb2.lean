/-! the tables of the methods, stretch 2 -/
theorem mBQ_84 : (List.range' 84 6).all mB = true := by decide +kernel
theorem mBQ_90 : (List.range' 90 6).all mB = true := by decide +kernel
theorem mBQ_96 : (List.range' 96 6).all mB = true := by decide +kernel
theorem mBQ_102 : (List.range' 102 6).all mB = true := by decide +kernel
theorem mBQ_108 : (List.range' 108 6).all mB = true := by decide +kernel
theorem mBQ_114 : (List.range' 114 6).all mB = true := by decide +kernel
theorem mBQ_120 : (List.range' 120 6).all mB = true := by decide +kernel
