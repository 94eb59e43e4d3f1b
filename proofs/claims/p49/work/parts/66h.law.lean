/-! The law's loop, the opcodes' places from the 48th on, by program (wip/law3.py) -/
def c_lawS48 : BSg := ((300, 2028), ([some (2, 0, 0), some (2, 1, 0), some (2, 365, 0), some (2, 770, 0), some (2, 771, 0), some (1, 0, 0), none, none, none], [], ([(0, 0, 3072), (0, 0, 3072)], [((2, 0, 0), (9, 0, 0), (1, 1, 0))], [(0, 1, (-6))])), [], [
  (.inr (28, [some (2, 0, 0), some (2, 1, 0), some (2, 365, 0), some (2, 770, 0), some (2, 771, 0), some (1, 0, 6), none, none, none], []), ([], [((2, 0, 0), (9, 0, 0), (1, 1, 0))], [(0, 1, -6)]), (0, 0))])
theorem c_lawC48 : b_sgc c_K (b_orc c_K [] 3000 12) c_lawS48 [28] 3000 = true := by decide +kernel
