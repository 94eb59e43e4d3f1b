/-! The runs of the opcodes from 32 on, by program (wip/genop.py) -/
theorem x_op32 : x_op 32 32 = true := by decide +kernel
theorem x_op33 : x_op 33 33 = true := by decide +kernel
theorem x_op34 : x_op 34 34 = true := by decide +kernel
theorem x_op35 : x_op 35 35 = true := by decide +kernel
theorem x_op36 : x_op 36 36 = true := by decide +kernel
theorem x_op37 : x_op 37 37 = true := by decide +kernel
theorem x_op38 : x_op 38 38 = true := by decide +kernel
theorem x_op39 : x_op 39 39 = true := by decide +kernel
