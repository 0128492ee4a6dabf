theorem op_text {M : Mem} (h : Inv M) : OK2 f_X9_text f_X10_text M := by sorry
