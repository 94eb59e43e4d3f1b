/-! The runs of the opcodes from 24 on, by program (wip/genop.py) -/
theorem x_op24 : x_op 24 24 = true := by decide +kernel
theorem x_op25 : x_op 25 25 = true := by decide +kernel
theorem x_op26 : x_op 26 26 = true := by decide +kernel
theorem x_op27 : x_op 27 27 = true := by decide +kernel
theorem x_op28 : x_op 28 28 = true := by decide +kernel
theorem x_op29 : x_op 29 29 = true := by decide +kernel
theorem x_op30 : x_op 30 30 = true := by decide +kernel
theorem x_op31 : x_op 31 31 = true := by decide +kernel
