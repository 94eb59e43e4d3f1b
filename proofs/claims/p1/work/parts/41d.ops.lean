/-! The runs of the opcodes from 24 on, by program (wip/genop.py) -/
theorem x_op24_0 : x_opr 24 (-2147483648) 0 = true := by decide +kernel
theorem x_op24_1 : x_opr 24 1 10 = true := by decide +kernel
theorem x_op24_2 : x_opr 24 11 20 = true := by decide +kernel
theorem x_op24_3 : x_opr 24 21 30 = true := by decide +kernel
theorem x_op24_4 : x_opr 24 31 40 = true := by decide +kernel
theorem x_op24_5 : x_opr 24 41 50 = true := by decide +kernel
theorem x_op24_6 : x_opr 24 51 2147483647 = true := by decide +kernel
theorem x_op25 : x_op 25 25 = true := by decide +kernel
theorem x_op26 : x_op 26 26 = true := by decide +kernel
theorem x_op27 : x_op 27 27 = true := by decide +kernel
theorem x_op28 : x_op 28 28 = true := by decide +kernel
theorem x_op29 : x_op 29 29 = true := by decide +kernel
theorem x_op30 : x_op 30 30 = true := by decide +kernel
theorem x_op31 : x_op 31 31 = true := by decide +kernel
