/-! The runs of the opcodes from 16 on, by program (wip/genop.py) -/
theorem x_op16 : x_op 16 16 = true := by decide +kernel
theorem x_op17 : x_op 17 17 = true := by decide +kernel
theorem x_op18 : x_op 18 18 = true := by decide +kernel
theorem x_op19 : x_op 19 19 = true := by decide +kernel
theorem x_op20 : x_op 20 20 = true := by decide +kernel
theorem x_op21 : x_op 21 21 = true := by decide +kernel
theorem x_op22 : x_op 22 22 = true := by decide +kernel
theorem x_op23 : x_op 23 23 = true := by decide +kernel
