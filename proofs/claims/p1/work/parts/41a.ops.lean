/-! The runs of the opcodes from 0 on, by program (wip/genop.py) -/
theorem x_op0 : x_op 0 0 = true := by decide +kernel
