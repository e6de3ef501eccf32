theorem kI_0 : (0 : Int32).toInt = 0 := by decide
theorem kI_1 : (1 : Int32).toInt = 1 := by decide
theorem kI_2 : (2 : Int32).toInt = 2 := by decide
theorem kI_3 : (3 : Int32).toInt = 3 := by decide
theorem kI_120 : (120 : Int32).toInt = 120 := by decide
