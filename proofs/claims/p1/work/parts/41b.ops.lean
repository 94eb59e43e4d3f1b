/-! The runs of the opcodes from 8 on, by program (wip/genop.py) -/
theorem x_op8 : x_op 8 8 = true := by decide +kernel
theorem x_op9 : x_op 9 9 = true := by decide +kernel
theorem x_op10 : x_op 10 10 = true := by decide +kernel
theorem x_op11 : x_op 11 11 = true := by decide +kernel
theorem x_op12 : x_op 12 12 = true := by decide +kernel
theorem x_op13 : x_op 13 13 = true := by decide +kernel
theorem x_op14 : x_op 14 14 = true := by decide +kernel
theorem x_op15 : x_op 15 15 = true := by decide +kernel
