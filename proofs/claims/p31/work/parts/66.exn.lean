/-! names of what is thrown -/
def xI : String := "java/lang/IndexOutOfBoundsException"
def xA : String := "java/lang/IllegalArgumentException"
def xS : String := "java/lang/IllegalStateException"
theorem one0 : ¬ (1 : Int32) = 0 := by decide
