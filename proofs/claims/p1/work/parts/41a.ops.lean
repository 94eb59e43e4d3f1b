/-! The runs of the opcodes from 0 on, by program (wip/genop.py) -/
theorem x_op0 : x_op 0 0 = true := by decide +kernel
theorem x_op1 : x_op 1 1 = true := by decide +kernel
theorem x_op2 : x_op 2 2 = true := by decide +kernel
theorem x_op3 : x_op 3 3 = true := by decide +kernel
theorem x_op4 : x_op 4 4 = true := by decide +kernel
theorem x_op5 : x_op 5 5 = true := by decide +kernel
theorem x_op6 : x_op 6 6 = true := by decide +kernel
theorem x_op7 : x_op 7 7 = true := by decide +kernel
