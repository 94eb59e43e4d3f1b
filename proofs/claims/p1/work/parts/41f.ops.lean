/-! The runs of the opcodes from 40 on, by program (wip/genop.py) -/
theorem x_op40 : x_op 40 40 = true := by decide +kernel
theorem x_op41 : x_op 41 41 = true := by decide +kernel
theorem x_op42 : x_op 42 42 = true := by decide +kernel
theorem x_op43 : x_op 43 43 = true := by decide +kernel
theorem x_op44 : x_op 44 44 = true := by decide +kernel
theorem x_op45 : x_op 45 45 = true := by decide +kernel
theorem x_op46 : x_op 46 46 = true := by decide +kernel
theorem x_op47 : x_op 47 47 = true := by decide +kernel
