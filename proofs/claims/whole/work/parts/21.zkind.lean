/-- FordQuestions$Reader.kindOf(C)I -/
def f_X2_kindOf (a0 : Int32) (t : Mm) : Option (Int32 × Mm) := some (if a0 = 112 then 0 else if a0 = 115 then 1 else if a0 = 114 then 2 else if a0 = 100 then 3 else if a0 = 103 then 4 else -4, t)
theorem hd_X2_kindOf : x_hd yX2_kindOf 1 := by decide +kernel
theorem c_X2_kindOf (l : Launch) (g : Ly) (hG : XG shC g) (a0 : Int32) (t : Mm) {r : Int32} {t' : Mm} (h : f_X2_kindOf a0 t = some (r, t')) : MI l yX2_kindOf cX2_kindOf 2 (some .int) 4 shC g [.int a0] t (XQi shC g r t') := by
  sorry
