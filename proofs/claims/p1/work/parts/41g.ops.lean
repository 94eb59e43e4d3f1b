/-! The runs of the opcodes from 48 on, by program (wip/genop.py) -/
theorem x_op48 : x_op 48 63 = true := by decide +kernel
theorem x_sh0 : x_sh 0 = true := by decide +kernel
theorem x_sh1 : x_sh 1 = true := by decide +kernel
theorem x_sh2 : x_sh 2 = true := by decide +kernel
theorem x_sh3 : x_sh 3 = true := by decide +kernel
theorem x_sh4 : x_sh 4 = true := by decide +kernel
theorem x_sh5 : x_sh 5 = true := by decide +kernel
