/-! more constants -/
theorem kI_191 : (191 : Int32).toInt = 191 := by decide
theorem kI_2800 : (2800 : Int32).toInt = 2800 := by decide
theorem kI_4001 : (4001 : Int32).toInt = 4001 := by decide
theorem kI_2147483647 : (2147483647 : Int32).toInt = 2147483647 := by decide
