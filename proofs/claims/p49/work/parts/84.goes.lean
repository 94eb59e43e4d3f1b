/-! canShowNow and goesBy: what they answer -/
def c_r200r : BRw := (200, 2, ([(2, 365, 0), (1, 0, 0), (1, 1, 0), (1, 2, 0)], ([(0, 0, 19), (0, 0, 3), (0, 0, 50), (0, 0, 49)], [((2, 373, 0), (1, 0, 0), (0, 0, 114)), ((2, 374, 0), (1, 0, 0), (1, 3, 0)), ((2, 427, 0), (1, 1, 0), (0, 0, 1))], [(3, 2, 0)])), [], [(.inl (some (0, 0, 1)), ([], [], []), (0, 0))])
def c_c200r : List BCu := [(51, [some (2, 365, 0), some (1, 0, 0), some (1, 1, 0), some (1, 2, 0), some (0, 0, 1), some (1, 4, 0)], ([(0, 0, 19), (0, 0, 3), (0, 0, 50), (0, 0, 49), (0, 0, 60)], [((2, 373, 0), (1, 0, 0), (0, 0, 114)), ((2, 374, 0), (1, 0, 0), (1, 3, 0)), ((2, 427, 0), (1, 1, 0), (0, 0, 1))], [(3, 2, 0)]), ([(4, (-1))], 70), none)]
theorem c_v200r : b_valid c_K c_r200r := b_chk_ok c_hJ (d := 1) (F := 3000) (R := c_r200r) (cuts := c_c200r) (b_orc_ok c_hJ (tab := []) (fun _ h => absurd h List.not_mem_nil) 3000 1) rfl (by decide +kernel)
def c_r200d : BRw := (200, 2, ([(2, 365, 0), (1, 0, 0), (1, 1, 0), (1, 2, 0)], ([(0, 0, 19), (0, 0, 3), (0, 0, 50), (0, 0, 49), (0, 1, 60), (0, 0, 59), (77, 0, 0), (0, 0, 49), (0, 0, 49)], [((2, 373, 0), (1, 0, 0), (0, 0, 100)), ((2, 374, 0), (1, 0, 0), (1, 3, 0)), ((2, 365, 0), (0, 0, 48), (1, 4, 0)), ((2, 428, 0), (1, 5, 0), (3, 6, 0)), ((3, 6, 0), (0, 0, 0), (1, 0, 0)), ((3, 6, 0), (0, 0, 1), (1, 1, 0)), ((3, 6, 0), (0, 0, 2), (1, 7, 0)), ((3, 6, 0), (0, 0, 3), (1, 8, 0))], [(3, 2, 0), (5, 4, (-1)), (7, 2, 0), (2, 8, 0)])), [], [(.inl (some (0, 0, 1)), ([], [], []), (0, 0))])
def c_c200d : List BCu := [(51, [some (2, 365, 0), some (1, 0, 0), some (1, 1, 0), some (1, 2, 0), some (1, 9, 0), some (1, 10, 0)], ([(0, 0, 19), (0, 0, 3), (0, 0, 50), (0, 0, 49), (0, 1, 60), (0, 0, 59), (77, 0, 0), (0, 0, 49), (0, 0, 49), (0, 0, 1), (0, 0, 59)], [((2, 373, 0), (1, 0, 0), (0, 0, 100)), ((2, 374, 0), (1, 0, 0), (1, 3, 0)), ((2, 365, 0), (0, 0, 48), (1, 4, 0)), ((2, 428, 0), (1, 5, 0), (3, 6, 0)), ((3, 6, 0), (0, 0, 0), (1, 0, 0)), ((3, 6, 0), (0, 0, 1), (1, 1, 0)), ((3, 6, 0), (0, 0, 2), (1, 7, 0)), ((3, 6, 0), (0, 0, 3), (1, 8, 0))], [(3, 2, 0), (5, 4, (-1)), (7, 2, 0), (2, 8, 0), (10, 5, 0), (10, 4, (-1))]), ([(10, (-1))], 70), some (10, 5)),
  (51, [some (2, 365, 0), some (1, 0, 0), some (1, 1, 0), some (1, 2, 0), some (0, 0, 1), some (1, 9, 0)], ([(0, 0, 19), (0, 0, 3), (0, 0, 50), (0, 0, 49), (0, 1, 60), (0, 0, 59), (77, 0, 0), (0, 0, 49), (0, 0, 49), (0, 0, 60)], [((2, 373, 0), (1, 0, 0), (0, 0, 100)), ((2, 374, 0), (1, 0, 0), (1, 3, 0)), ((2, 365, 0), (0, 0, 48), (1, 4, 0)), ((2, 428, 0), (1, 5, 0), (3, 6, 0)), ((3, 6, 0), (0, 0, 0), (1, 0, 0)), ((3, 6, 0), (0, 0, 1), (1, 1, 0)), ((3, 6, 0), (0, 0, 2), (1, 7, 0)), ((3, 6, 0), (0, 0, 3), (1, 8, 0))], [(3, 2, 0), (5, 4, (-1)), (7, 2, 0), (2, 8, 0)]), ([(9, (-1))], 70), none)]
theorem c_v200d : b_valid c_K c_r200d := b_chk_ok c_hJ (d := 1) (F := 3000) (R := c_r200d) (cuts := c_c200d) (b_orc_ok c_hJ (tab := []) (fun _ h => absurd h List.not_mem_nil) 3000 1) rfl (by decide +kernel)
theorem vO : b_cal c_K (b_lim 1) (b_orc c_K [] 3000 1) := b_orc_ok c_hJ (fun _ h => absurd h List.not_mem_nil) 3000 1
def vA : BSg := ((200, 0), ([some (2, 365, 0), some (1, 0, 0), some (1, 1, 0), some (1, 2, 0), none, none], [], ([(0, 0, 19), (0, 0, 3), (0, 0, 50)], [], [])), [], [
  (.inl (.inl (some (0, 0, 0))), ([], [], []), (0, 0)),
  (.inr (51, [some (2, 365, 0), some (1, 0, 0), some (1, 1, 0), some (1, 2, 0), some (0, 0, 1), some (0, 0, 0)], []), ([(0, 114, 114), (0, 0, 49), (0, 1, 1)], [((2, 373, 0), (1, 0, 0), (1, 3, 0)), ((2, 374, 0), (1, 0, 0), (1, 4, 0)), ((2, 427, 0), (1, 1, 0), (1, 5, 0))], [(4, 2, 0)]), (0, 0)),
  (.inr (51, [some (2, 365, 0), some (1, 0, 0), some (1, 1, 0), some (1, 2, 0), some (0, 0, 0), some (0, 0, 0)], []), ([(0, 1, 150), (0, 0, 49)], [((2, 373, 0), (1, 0, 0), (1, 3, 0)), ((2, 374, 0), (1, 0, 0), (1, 4, 0))], [(4, 2, 0)]), (0, 0))])
theorem vAC : b_sgc c_K (b_orc c_K [] 3000 1) vA [51] 3000 = true := by decide +kernel
def vB : BSg := ((200, 51), ([some (2, 365, 0), some (1, 0, 0), some (1, 1, 0), some (1, 2, 0), some (1, 5, 0), some (1, 6, 0)], [], ([(0, 0, 19), (0, 0, 3), (0, 0, 50), (0, 1, 150), (0, 0, 49), (0, 0, 1), (0, 0, 60)], [((2, 373, 0), (1, 0, 0), (1, 3, 0)), ((2, 374, 0), (1, 0, 0), (1, 4, 0))], [(4, 2, 0)])), [], [
  (.inl (.inl (some (1, 5, 0))), ([], [], []), (0, 0)),
  (.inr (51, [some (2, 365, 0), some (1, 0, 0), some (1, 1, 0), some (1, 2, 0), some (1, 5, 0), some (1, 7, 0)], []), ([(0, 0, 60)], [((2, 373, 0), (1, 0, 0), (1, 3, 0)), ((2, 374, 0), (1, 0, 0), (1, 4, 0))], [(4, 2, 0), (7, 6, 1), (6, 7, (-1))]), (0, 0)),
  (.inr (51, [some (2, 365, 0), some (1, 0, 0), some (1, 1, 0), some (1, 2, 0), some (0, 0, 1), some (1, 7, 0)], []), ([(0, 0, 60), (0, 1, 60), (77, 0, 0), (0, 0, 49), (0, 0, 49), (0, 0, 49), (0, 0, 49), (0, 100, 100)], [((2, 373, 0), (1, 0, 0), (1, 3, 0)), ((2, 374, 0), (1, 0, 0), (1, 4, 0)), ((2, 373, 0), (1, 0, 0), (1, 14, 0)), ((2, 365, 0), (0, 0, 48), (1, 8, 0)), ((2, 428, 0), (1, 6, 0), (3, 9, 0)), ((3, 9, 0), (0, 0, 0), (1, 10, 0)), ((3, 9, 0), (0, 0, 1), (1, 11, 0)), ((3, 9, 0), (0, 0, 2), (1, 12, 0)), ((3, 9, 0), (0, 0, 3), (1, 13, 0))], [(4, 2, 0), (10, 0, 0), (0, 10, 0), (11, 1, 0), (1, 11, 0), (12, 2, 0), (2, 13, 0), (6, 8, (-1)), (7, 6, 1), (6, 7, (-1))]), (0, 0))])
theorem vBC : b_sgc c_K (b_orc c_K [] 3000 1) vB [51] 3000 = true := by decide +kernel
theorem uO : b_cal c_K (b_lim 3) (b_orc c_K [] 3000 3) := b_orc_ok c_hJ (fun _ h => absurd h List.not_mem_nil) 3000 3
def uA1 : BSg := ((218, 0), ([some (2, 365, 0), some (1, 0, 0), some (1, 1, 0), some (1, 2, 0), none, none], [], ([(0, 0, 59), (0, (-1), 9), (0, (-1), 19), (0, 1, 115)], [((2, 492, 0), (1, 0, 0), (1, 3, 0))], [])), [], [
  (.inl (.inl (some (0, 0, 0))), ([], [], []), (0, 0))])
theorem uA1C : b_sgc c_K (b_orc c_K [] 3000 3) uA1 [12] 3000 = true := by decide +kernel
def uA2 : BSg := ((218, 0), ([some (2, 365, 0), some (1, 0, 0), some (1, 1, 0), some (1, 2, 0), none, none], [], ([(0, 0, 59), (0, (-1), 9), (0, (-1), 19), (0, 117, 150)], [((2, 492, 0), (1, 0, 0), (1, 3, 0))], [])), [], [
  (.inl (.inl (some (0, 0, 0))), ([], [], []), (0, 0))])
theorem uA2C : b_sgc c_K (b_orc c_K [] 3000 3) uA2 [12] 3000 = true := by decide +kernel
def uA3 : BSg := ((218, 0), ([some (2, 365, 0), some (1, 0, 0), some (1, 1, 0), some (1, 2, 0), none, none], [], ([(0, 0, 59), (0, (-1), 9), (0, (-1), 19), (0, 116, 116)], [((2, 492, 0), (1, 0, 0), (1, 3, 0))], [])), [], [
  (.inr (12, [some (2, 365, 0), some (1, 0, 0), some (1, 1, 0), some (1, 2, 0), none, none], []), ([], [], []), (0, 0))])
theorem uA3C : b_sgc c_K (b_orc c_K [] 3000 3) uA3 [12] 3000 = true := by decide +kernel
def uA4 : BSg := ((218, 0), ([some (2, 365, 0), some (1, 0, 0), some (1, 1, 0), some (1, 2, 0), none, none], [], ([(0, 0, 59), (0, (-1), 9), (0, (-1), 19), (0, 0, 0)], [((2, 492, 0), (1, 0, 0), (1, 3, 0))], [])), [], [
  (.inl (.inl (some (0, 0, 0))), ([(0, 0, 49), (0, 0, 50)], [((2, 491, 0), (1, 0, 0), (1, 4, 0)), ((2, 365, 0), (0, 0, 54), (1, 5, 0))], [(4, 5, 0)]), (0, 0)),
  (.inl (.inl (some (0, 0, 0))), ([(0, 0, 49), (0, 0, 50)], [((2, 491, 0), (1, 0, 0), (1, 4, 0)), ((2, 365, 0), (0, 0, 54), (1, 5, 0))], [(4, 5, (-1))]), (0, 0)),
  (.inr (12, [some (2, 365, 0), some (1, 0, 0), some (1, 1, 0), some (1, 2, 0), none, none], []), ([(0, 0, 49), (0, 0, 50)], [((2, 491, 0), (1, 0, 0), (1, 4, 0)), ((2, 365, 0), (0, 0, 54), (1, 5, 0))], [(5, 4, (-1))]), (0, 0))])
theorem uA4C : b_sgc c_K (b_orc c_K [] 3000 3) uA4 [12] 3000 = true := by decide +kernel
def uB : BSg := ((218, 12), ([some (2, 365, 0), some (1, 0, 0), some (1, 1, 0), some (1, 2, 0), none, none], [], ([(0, 0, 59), (0, (-1), 9), (0, (-1), (-1))], [], [])), [], [
  (.inr (23, [some (2, 365, 0), some (1, 0, 0), some (1, 1, 0), some (1, 2, 0), none, none], [(0, 0, 5), (1, 3, 0)]), ([(0, 0, 49)], [((2, 491, 0), (1, 0, 0), (1, 3, 0))], []), (0, 0))])
theorem uBC : b_sgc c_K (b_orc c_K [] 3000 3) uB [23] 3000 = true := by decide +kernel
def uC1 : BSg := ((218, 24), ([some (2, 365, 0), some (1, 0, 0), some (1, 1, 0), some (1, 2, 0), none, none], [(1, 3, 0)], ([(0, 0, 59), (0, (-1), 9), (0, (-1), 19), (0, (-2147483648), 2147483647)], [], [(0, 0, 0), (3, 1, 0), (1, 3, 0)])), [], [
  (.inl (.inl (some (0, 0, 1))), ([], [], []), (0, 0))])
theorem uC1C : b_sgc c_K (b_orc c_K [] 3000 3) uC1 [] 3000 = true := by decide +kernel
def uC2 : BSg := ((218, 24), ([some (2, 365, 0), some (1, 0, 0), some (1, 1, 0), some (1, 2, 0), none, none], [(1, 3, 0)], ([(0, 0, 59), (0, (-1), 9), (0, (-1), 19), (0, (-2147483648), 2147483647)], [], [(0, 0, 0), (3, 1, (-1))])), [], [
  (.inl (.inl (some (0, 0, 0))), ([], [], []), (0, 0))])
theorem uC2C : b_sgc c_K (b_orc c_K [] 3000 3) uC2 [] 3000 = true := by decide +kernel
def uC3 : BSg := ((218, 24), ([some (2, 365, 0), some (1, 0, 0), some (1, 1, 0), some (1, 2, 0), none, none], [(1, 3, 0)], ([(0, 0, 59), (0, (-1), 9), (0, (-1), 19), (0, (-2147483648), 2147483647)], [], [(0, 0, 0), (1, 3, (-1))])), [], [
  (.inl (.inl (some (0, 0, 0))), ([], [], []), (0, 0))])
theorem uC3C : b_sgc c_K (b_orc c_K [] 3000 3) uC3 [] 3000 = true := by decide +kernel
def uD : BSg := ((218, 12), ([some (2, 365, 0), some (1, 0, 0), some (1, 1, 0), some (1, 2, 0), none, none], [], ([(0, 0, 59), (0, (-1), 9), (0, 0, 19)], [], [])), [], [
  (.inr (45, [some (2, 365, 0), some (1, 0, 0), some (1, 1, 0), some (1, 2, 0), some (0, 0, 1), some (1, 3, 0)], []), ([(0, 0, 49)], [((2, 491, 0), (1, 0, 0), (1, 3, 0))], []), (0, 0))])
theorem uDC : b_sgc c_K (b_orc c_K [] 3000 3) uD [45] 3000 = true := by decide +kernel
def uE : BSg := ((218, 45), ([some (2, 365, 0), some (1, 0, 0), some (1, 1, 0), some (1, 2, 0), some (1, 3, 0), some (1, 4, 0)], [], ([(0, 0, 59), (0, (-1), 9), (0, 0, 19), (0, 0, 1), (0, 0, 51)], [], [])), [], [
  (.inr (79, [some (2, 365, 0), some (1, 0, 0), some (1, 1, 0), some (1, 2, 0), some (1, 3, 0), none], []), ([(0, 0, 49), (0, 0, 19), (0, 0, 150)], [((2, 491, 0), (1, 0, 0), (1, 5, 0)), ((2, 489, 0), (1, 0, 0), (1, 6, 0)), ((2, 367, 0), (1, 6, 0), (1, 7, 0))], [(5, 4, (-1))]), (0, 0)),
  (.inr (67, [some (2, 365, 0), some (1, 0, 0), some (1, 1, 0), some (1, 2, 0), some (1, 3, 0), some (1, 8, 0)], [(1, 8, 0), (1, 9, 0), (1, 2, 0), (2, 365, 0), (1, 3, 0)]), ([(0, 0, 49), (0, 0, 19), (0, 0, 150), (0, 0, 50), (0, 0, 3)], [((2, 491, 0), (1, 0, 0), (1, 5, 0)), ((2, 489, 0), (1, 0, 0), (1, 6, 0)), ((2, 367, 0), (1, 6, 0), (1, 7, 0)), ((2, 490, 0), (1, 0, 0), (1, 9, 0))], [(8, 4, 0), (4, 8, 0), (4, 5, 0)]), (0, 0)),
  (.inr (79, [some (2, 365, 0), some (1, 0, 0), some (1, 1, 0), some (1, 2, 0), some (1, 3, 0), none], []), ([(0, 0, 49), (0, 0, 19), (0, 151, 300)], [((2, 491, 0), (1, 0, 0), (1, 5, 0)), ((2, 489, 0), (1, 0, 0), (1, 6, 0)), ((2, 367, 0), (1, 6, 0), (1, 7, 0))], [(5, 4, (-2))]), (0, 0)),
  (.inr (67, [some (2, 365, 0), some (1, 0, 0), some (1, 1, 0), some (1, 2, 0), some (1, 3, 0), some (1, 8, 0)], [(1, 8, 0), (1, 9, 0), (1, 2, 0), (2, 365, 0), (1, 3, 0)]), ([(0, 0, 49), (0, 0, 19), (0, 151, 300), (0, 0, 50), (0, 0, 3)], [((2, 491, 0), (1, 0, 0), (1, 5, 0)), ((2, 489, 0), (1, 0, 0), (1, 6, 0)), ((2, 367, 0), (1, 6, 0), (1, 7, 0)), ((2, 490, 0), (1, 0, 0), (1, 9, 0))], [(8, 4, 0), (4, 8, 0), (4, 5, 1)]), (0, 0))])
theorem uEC : b_sgc c_K (b_orc c_K [] 3000 3) uE [79, 67] 3000 = true := by decide +kernel
def uF0 : BSg := ((218, 70), ([some (2, 365, 0), some (1, 0, 0), some (1, 1, 0), some (1, 2, 0), some (1, 3, 0), some (1, 4, 0)], [(0, 0, 0), (1, 3, 0)], ([(0, 0, 59), (0, (-1), 9), (0, 0, 19), (0, 0, 1), (0, 0, 50)], [], [])), [], [
  (.inr (45, [some (2, 365, 0), some (1, 0, 0), some (1, 1, 0), some (1, 2, 0), some (0, 0, 0), some (1, 4, 1)], []), ([], [], []), (0, 0))])
theorem uF0C : b_sgc c_K (b_orc c_K [] 3000 3) uF0 [45] 3000 = true := by decide +kernel
def uF1 : BSg := ((218, 70), ([some (2, 365, 0), some (1, 0, 0), some (1, 1, 0), some (1, 2, 0), some (1, 3, 0), some (1, 4, 0)], [(0, 0, 1), (1, 3, 0)], ([(0, 0, 59), (0, (-1), 9), (0, 0, 19), (0, 0, 1), (0, 0, 50)], [], [])), [], [
  (.inr (45, [some (2, 365, 0), some (1, 0, 0), some (1, 1, 0), some (1, 2, 0), some (1, 3, 0), some (1, 4, 1)], []), ([], [], []), (0, 0))])
theorem uF1C : b_sgc c_K (b_orc c_K [] 3000 3) uF1 [45] 3000 = true := by decide +kernel
def uG1 : BSg := ((218, 79), ([some (2, 365, 0), some (1, 0, 0), some (1, 1, 0), some (1, 2, 0), some (1, 3, 0), none], [], ([(0, 0, 59), (0, (-1), 9), (0, 0, 19), (0, 0, 0), (0, 0, 19)], [((2, 489, 0), (1, 0, 0), (1, 4, 0))], [(0, 0, 0), (4, 2, 0), (2, 4, 0)])), [], [
  (.inl (.inl (some (0, 0, 1))), ([], [], []), (0, 0))])
theorem uG1C : b_sgc c_K (b_orc c_K [] 3000 3) uG1 [] 3000 = true := by decide +kernel
def uG2 : BSg := ((218, 79), ([some (2, 365, 0), some (1, 0, 0), some (1, 1, 0), some (1, 2, 0), some (1, 3, 0), none], [], ([(0, 0, 59), (0, (-1), 9), (0, 0, 19), (0, 0, 1), (0, 0, 19)], [((2, 489, 0), (1, 0, 0), (1, 4, 0))], [(0, 0, 0), (4, 2, (-1))])), [], [
  (.inl (.inl (some (0, 0, 0))), ([], [], []), (0, 0))])
theorem uG2C : b_sgc c_K (b_orc c_K [] 3000 3) uG2 [] 3000 = true := by decide +kernel
def uG3 : BSg := ((218, 79), ([some (2, 365, 0), some (1, 0, 0), some (1, 1, 0), some (1, 2, 0), some (1, 3, 0), none], [], ([(0, 0, 59), (0, (-1), 9), (0, 0, 19), (0, 0, 1), (0, 0, 19)], [((2, 489, 0), (1, 0, 0), (1, 4, 0))], [(0, 0, 0), (2, 4, (-1))])), [], [
  (.inl (.inl (some (0, 0, 0))), ([], [], []), (0, 0))])
theorem uG3C : b_sgc c_K (b_orc c_K [] 3000 3) uG3 [] 3000 = true := by decide +kernel
def uG4 : BSg := ((218, 79), ([some (2, 365, 0), some (1, 0, 0), some (1, 1, 0), some (1, 2, 0), some (1, 3, 0), none], [], ([(0, 0, 59), (0, (-1), 9), (0, 0, 19), (0, 1, 1)], [], [])), [], [
  (.inl (.inl (some (0, 0, 0))), ([], [], []), (0, 0))])
theorem uG4C : b_sgc c_K (b_orc c_K [] 3000 3) uG4 [] 3000 = true := by decide +kernel
/-- an int fact at a known place of a row -/
theorem b_G.rdC {K : BH} {ν : BN} {h0 h : AH} {G : BG} (g : b_G K ν h0 h G) {p j m : Nat} (hm : G.2.1.contains ((3, p, 0), (0, 0, (j : Int)), (1, m, 0)) = true) : ∃ (a : Nat) (x : Int32), (a : Int) = ν p ∧ c_at h a j = some (.int x) ∧ x.toInt = ν m := by
  have f := g.fa _ hm
  obtain ⟨b, i, q0, q⟩ := f.ne9 (by show 0 < 2; decide)
  obtain ⟨x, x1, x2⟩ := f.atI (a := b) (j := j) q0 (Or.inl ⟨rfl, rfl⟩) (by show 1 < 2; decide)
  exact ⟨b, x, q0.v, x1, by have := x2.v; omega⟩
/-- a key lets a film be shown -/
def kyM (h : AH) (f s : Nat) (t : Int) (i : Nat) : Prop := ∃ (row : Nat) (kn x0 x1 x2 x3 : Int32), c_at h 365 48 = some (.int kn) ∧ (i : Int) < kn.toInt ∧ c_at h 428 i = some (.ref row) ∧ c_K.1 row = some 76 ∧ c_at h row 0 = some (.int x0) ∧ c_at h row 1 = some (.int x1) ∧ c_at h row 2 = some (.int x2) ∧ c_at h row 3 = some (.int x3) ∧ x0.toInt = f ∧ x1.toInt = s ∧ x2.toInt ≤ t ∧ t ≤ x3.toInt
/-- a film may be shown -/
def CS (h : AH) (f s : Nat) (t : Int) : Prop := ∃ p ph : Int32, c_at h 373 f = some (.int p) ∧ c_at h 374 f = some (.int ph) ∧ ph.toInt ≤ t ∧ ((p.toInt = 114 ∧ c_at h 427 s = some (.int 1)) ∨ (p.toInt = 100 ∧ ∃ i, kyM h f s t i))
def gW : BW := [(58, 0), (59, 0), (74, 0), (50, 48), (75, 0), (76, 0), (80, 0), (79, 0), (50, 54), (77, 0), (78, 0), (52, 0)]
theorem kyM_frm {W : BW} {h h' : AH} (H : b_H c_K h) (fr : b_frm c_K W h h') (w : c_nin gW W = true) {f s : Nat} {t : Int} {i : Nat} (p : kyM h f s t i) : kyM h' f s t i := by
  obtain ⟨row, kn, x0, x1, x2, x3, p1, p2, p3, p4, p5, p6, p7, p8, p9⟩ := p
  refine ⟨row, kn, x0, x1, x2, x3, ?_, p2, ?_, p4, ?_, ?_, ?_, ?_, p9⟩
  · rw [fr.kF H c_a365 c_q50 rfl (c_nin_at w _ rfl)]; exact p1
  · rw [fr.k H c_a428 c_q75 (by decide) (c_nin_at w _ rfl)]; exact p3
  · rw [fr.k H p4 c_q76 (by decide) (c_nin_at w _ rfl)]; exact p5
  · rw [fr.k H p4 c_q76 (by decide) (c_nin_at w _ rfl)]; exact p6
  · rw [fr.k H p4 c_q76 (by decide) (c_nin_at w _ rfl)]; exact p7
  · rw [fr.k H p4 c_q76 (by decide) (c_nin_at w _ rfl)]; exact p8
theorem kyM_rev {W : BW} {h h' : AH} (H : b_H c_K h) (fr : b_frm c_K W h h') (w : c_nin gW W = true) {f s : Nat} {t : Int} {i : Nat} (p : kyM h' f s t i) : kyM h f s t i := by
  obtain ⟨row, kn, x0, x1, x2, x3, p1, p2, p3, p4, p5, p6, p7, p8, p9⟩ := p
  rw [fr.kF H c_a365 c_q50 rfl (c_nin_at w _ rfl)] at p1
  rw [fr.k H c_a428 c_q75 (by decide) (c_nin_at w _ rfl)] at p3
  rw [fr.k H p4 c_q76 (by decide) (c_nin_at w _ rfl)] at p5 p6 p7 p8
  exact ⟨row, kn, x0, x1, x2, x3, p1, p2, p3, p4, p5, p6, p7, p8, p9⟩
theorem CS_iff {W : BW} {h h' : AH} (H : b_H c_K h) (fr : b_frm c_K W h h') (w : c_nin gW W = true) {f s : Nat} {t : Int} : CS h' f s t ↔ CS h f s t := by
  have e1 : c_at h' 373 f = c_at h 373 f := fr.k H c_a373 c_q58 (by decide) (c_nin_at w _ rfl) f
  have e2 : c_at h' 374 f = c_at h 374 f := fr.k H c_a374 c_q59 (by decide) (c_nin_at w _ rfl) f
  have e3 : c_at h' 427 s = c_at h 427 s := fr.k H c_a427 c_q74 (by decide) (c_nin_at w _ rfl) s
  have e4 : (∃ i, kyM h' f s t i) ↔ ∃ i, kyM h f s t i := ⟨fun p => p.imp fun i => kyM_rev H fr w, fun p => p.imp fun i => kyM_frm H fr w⟩
  unfold CS
  rw [e1, e2, e3, e4]
def csP (h : AH) (f s : Nat) (t : Int) (r : AR) : Prop := ∃ (x : Int32) (h' : AH), r = (.inl (some (.int x)), h', 0, 0) ∧ (x.toInt = 0 ∨ x.toInt = 1) ∧ b_H c_K h' ∧ b_frm c_K [] h h' ∧ (x.toInt = 1 → CS h f s t)
theorem frm0 {h h1 h2 : AH} (a : b_frm c_K [] h h1) (b : b_frm c_K [] h1 h2) : b_frm c_K [] h h2 := b_frm.tr a b (fun w hw => hw) (fun w hw => hw)
theorem vL {h : AH} (H : b_H c_K h) {f s t : Int} (hf : 0 ≤ f ∧ f ≤ 19) (hs : 0 ≤ s ∧ s ≤ 3) : ∀ (m : Nat) (ν : BN) (h1 : AH), b_frm c_K [] h h1 → b_G c_K ν h1 h1 (vB.2.1.2.2.1, vB.2.1.2.2.2.1, vB.2.1.2.2.2.2, [], []) → ν 0 = f → ν 1 = s → ν 2 = t → (60 - ν 6).toNat < m → (ν 5 = 1 → CS h f.toNat s.toNat t) → b_ge 1 200 51 vB.2.1.1 [] vB.2.1.2.2.1.length ν h1 0 0 (csP h f.toNat s.toNat t)
  | 0, ν, h1, _, _, _, _, _, hm, _ => absurd hm (Nat.not_lt_zero _)
  | m + 1, ν, h1, fr, g, e0, e1, e2, hm, hc => by
    have iv6 := g.iv 6 (lo := 0) (hi := 60) rfl
    have iv5 := g.iv 5 (lo := 0) (hi := 1) rfl
    refine b_ge.sg c_hJ vO vBC g (b_al.c ?_ (b_al.c ?_ (b_al.c ?_ b_al.n)))
    · intro ν1 h2 x1 g1
      refine b_pe.int rfl (by show 1 < 2; decide) (fun x hx => ?_)
      have hx := hx.v
      have m5 := x1.2 5 (by decide)
      exact ⟨x, h2, rfl, by omega, g1.2.2.2.2.1, frm0 fr g1.2.2.2.2.2, fun q => hc (by omega)⟩
    · intro ν1 h2 x1 g1
      refine b_pe.to rfl ?_
      have m0 := x1.2 0 (by decide)
      have m1 := x1.2 1 (by decide)
      have m2 := x1.2 2 (by decide)
      have m5 := x1.2 5 (by decide)
      have m6 := x1.2 6 (by decide)
      have k1 : ν1 7 ≤ ν1 6 + 1 := g1.co (by decide)
      have k2 : ν1 6 ≤ ν1 7 + (-1) := g1.co (by decide)
      have iv7 := g1.iv 7 (lo := 0) (hi := 60) rfl
      refine b_ge.cv (T := (vB.2.1.2.2.1, vB.2.1.2.2.2.1, vB.2.1.2.2.2.2)) (bl := vB.2.1.1) (bs := []) (σ := [(1, 0, 0), (1, 1, 0), (1, 2, 0), (1, 3, 0), (1, 4, 0), (1, 5, 0), (1, 7, 0)]) (by decide +kernel) g1 (fun g2 => ?_)
      exact vL H hf hs m _ h2 (frm0 fr g1.2.2.2.2.2) g2 (by show ν1 0 + 0 = _; omega) (by show ν1 1 + 0 = _; omega) (by show ν1 2 + 0 = _; omega) (by show (60 - (ν1 7 + 0)).toNat < m; omega) (fun q => hc (by have q : ν1 5 + 0 = 1 := q; omega))
    · intro ν1 h2 x1 g1
      refine b_pe.to rfl ?_
      have m0 := x1.2 0 (by decide)
      have m1 := x1.2 1 (by decide)
      have m2 := x1.2 2 (by decide)
      have m6 := x1.2 6 (by decide)
      have k1 : ν1 7 ≤ ν1 6 + 1 := g1.co (by decide)
      have k2 : ν1 6 ≤ ν1 7 + (-1) := g1.co (by decide)
      have k3 : ν1 4 ≤ ν1 2 + 0 := g1.co (by decide)
      have k4 : ν1 10 ≤ ν1 0 + 0 := g1.co (by decide)
      have k5 : ν1 0 ≤ ν1 10 + 0 := g1.co (by decide)
      have k6 : ν1 11 ≤ ν1 1 + 0 := g1.co (by decide)
      have k7 : ν1 1 ≤ ν1 11 + 0 := g1.co (by decide)
      have k8 : ν1 12 ≤ ν1 2 + 0 := g1.co (by decide)
      have k9 : ν1 2 ≤ ν1 13 + 0 := g1.co (by decide)
      have k10 : ν1 6 ≤ ν1 8 + (-1) := g1.co (by decide)
      have iv7 := g1.iv 7 (lo := 0) (hi := 60) rfl
      have iv14 := g1.iv 14 (lo := 100) (hi := 100) rfl
      have fr2 := frm0 fr g1.2.2.2.2.2
      have cs : CS h f.toNat s.toNat t := by
        refine (CS_iff H fr2 (by decide)).mp ?_
        obtain ⟨p, p1, p2⟩ := g1.rd (a := 373) (n := 0) (m := 14) (k := 0) (k' := 0) (by rfl) (j := f.toNat) (by omega)
        obtain ⟨ph, ph1, ph2⟩ := g1.rd (a := 374) (n := 0) (m := 4) (k := 0) (k' := 0) (by rfl) (j := f.toNat) (by omega)
        obtain ⟨kn, kn1, kn2⟩ := g1.rdF (a := 365) (j := 48) (m := 8) (k' := 0) (by rfl)
        obtain ⟨b, b1, b2⟩ := g1.rdA (a := 428) (n := 6) (m := 9) (k := 0) (by rfl) (j := (ν 6).toNat) (by omega)
        obtain ⟨a, a1, a2⟩ := g1.1.rf (n := 9) (g := 76) rfl
        obtain ⟨c0, y0, d0, f0, w0⟩ := g1.rdC (p := 9) (j := 0) (m := 10) (by rfl)
        obtain ⟨c1, y1, d1, f1, w1⟩ := g1.rdC (p := 9) (j := 1) (m := 11) (by rfl)
        obtain ⟨c2, y2, d2, f2, w2⟩ := g1.rdC (p := 9) (j := 2) (m := 12) (by rfl)
        obtain ⟨c3, y3, d3, f3, w3⟩ := g1.rdC (p := 9) (j := 3) (m := 13) (by rfl)
        rw [show b = a by omega] at b1
        rw [show c0 = a by omega] at f0
        rw [show c1 = a by omega] at f1
        rw [show c2 = a by omega] at f2
        rw [show c3 = a by omega] at f3
        exact ⟨p, ph, p1, ph1, by omega, Or.inr ⟨by omega, (ν 6).toNat, a, kn, y0, y1, y2, y3, kn1, by omega, b1, a2, f0, f1, f2, f3, by omega, by omega, by omega, by omega⟩⟩
      refine b_ge.cv (T := (vB.2.1.2.2.1, vB.2.1.2.2.2.1, vB.2.1.2.2.2.2)) (bl := vB.2.1.1) (bs := []) (σ := [(1, 0, 0), (1, 1, 0), (1, 2, 0), (1, 3, 0), (1, 4, 0), (0, 0, 1), (1, 7, 0)]) (by decide +kernel) g1 (fun g2 => ?_)
      exact vL H hf hs m _ h2 fr2 g2 (by show ν1 0 + 0 = _; omega) (by show ν1 1 + 0 = _; omega) (by show ν1 2 + 0 = _; omega) (by show (60 - (ν1 7 + 0)).toNat < m; omega) (fun _ => cs)
/-- what canShowNow answers -/
theorem cs {h : AH} (H : b_H c_K h) {f s t : Int32} (hf : 0 ≤ f.toInt ∧ f.toInt ≤ 19) (hs : 0 ≤ s.toInt ∧ s.toInt ≤ 3) (ht : 0 ≤ t.toInt ∧ t.toInt ≤ 50) : ∃ (x : Int32) (h' : AH), b_lim 2 200 [.ref 365, .int f, .int s, .int t] h = some (.inl (some (.int x)), h', 0, 0) ∧ (x.toInt = 0 ∨ x.toInt = 1) ∧ b_H c_K h' ∧ b_frm c_K [] h h' ∧ (x.toInt = 1 ↔ CS h f.toInt.toNat s.toInt.toNat t.toInt) := by
  have hA : ∀ (N : Nat) (ν : BN), 3 ≤ N → ν 0 = f.toInt → ν 1 = s.toInt → ν 2 = t.toInt → b_S N ν [(2, 365, 0), (1, 0, 0), (1, 1, 0), (1, 2, 0)] [.ref 365, .int f, .int s, .int t] := fun N ν hN e0 e1 e2 => b_S.cons (Or.inl ⟨rfl, rfl⟩) (b_S.cons (Or.inr ⟨rfl, by show 0 < N; omega, by show f.toInt = ν 0 + 0; omega⟩) (b_S.cons (Or.inr ⟨rfl, by show 1 < N; omega, by show s.toInt = ν 1 + 0; omega⟩) (b_S.cons (Or.inr ⟨rfl, by show 2 < N; omega, by show t.toInt = ν 2 + 0; omega⟩) b_S.nil)))
  have g0 : b_G c_K (fun n => match n with | 0 => f.toInt | 1 => s.toInt | _ => t.toInt) h h (vA.2.1.2.2.1, [], [], [], []) := ⟨(fun n q hq => by
    rcases n with _ | _ | _ | n
    · cases hq; exact b_q.i hf.1 hf.2
    · cases hq; exact b_q.i hs.1 hs.2
    · cases hq; exact b_q.i ht.1 ht.2
    · cases hq), (fun f hf => by cases hf), (fun f hf => by cases hf), (fun f hf => by cases hf), H, b_frm.rf⟩
  obtain ⟨r, r1, x, h', e, x1, x2, x3, x4⟩ : ∃ r, b_lim 2 200 [.ref 365, .int f, .int s, .int t] h = some r ∧ csP h f.toInt.toNat s.toInt.toNat t.toInt r := by
    refine b_ge.lim (N := 3) (ν := fun n => match n with | 0 => f.toInt | 1 => s.toInt | _ => t.toInt) (bas := [(2, 365, 0), (1, 0, 0), (1, 1, 0), (1, 2, 0)]) (by decide +kernel) (hA _ _ (by decide) rfl rfl rfl) ?_
    refine b_ge.sg (S := vA) c_hJ vO vAC g0 (b_al.c ?_ (b_al.c ?_ (b_al.c ?_ b_al.n)))
    · intro ν1 h1 x1 g1
      refine b_pe.int rfl (by show 0 < 2; decide) (fun x hx => ?_)
      have hx := hx.k
      exact ⟨x, h1, rfl, Or.inl hx, g1.2.2.2.2.1, g1.2.2.2.2.2, fun q => by omega⟩
    · intro ν1 h1 x1 g1
      refine b_pe.to rfl ?_
      have m0 : ν1 0 = f.toInt := x1.2 0 (by decide)
      have m1 : ν1 1 = s.toInt := x1.2 1 (by decide)
      have m2 : ν1 2 = t.toInt := x1.2 2 (by decide)
      have k3 : ν1 4 ≤ ν1 2 + 0 := g1.co (by decide)
      have iv3 := g1.iv 3 (lo := 114) (hi := 114) rfl
      have iv5 := g1.iv 5 (lo := 1) (hi := 1) rfl
      have fr1 := g1.2.2.2.2.2
      have cs : CS h f.toInt.toNat s.toInt.toNat t.toInt := by
        refine (CS_iff H fr1 (by decide)).mp ?_
        obtain ⟨p, p1, p2⟩ := g1.rd (a := 373) (n := 0) (m := 3) (k := 0) (k' := 0) (by rfl) (j := f.toInt.toNat) (by omega)
        obtain ⟨ph, ph1, ph2⟩ := g1.rd (a := 374) (n := 0) (m := 4) (k := 0) (k' := 0) (by rfl) (j := f.toInt.toNat) (by omega)
        obtain ⟨ge, ge1, ge2⟩ := g1.rd (a := 427) (n := 1) (m := 5) (k := 0) (k' := 0) (by rfl) (j := s.toInt.toNat) (by omega)
        have e : ge = 1 := c_is1 (by omega)
        exact ⟨p, ph, p1, ph1, by omega, Or.inl ⟨by omega, by rw [ge1, e]⟩⟩
      refine b_ge.cv (T := (vB.2.1.2.2.1, vB.2.1.2.2.2.1, vB.2.1.2.2.2.2)) (bl := vB.2.1.1) (bs := []) (σ := [(1, 0, 0), (1, 1, 0), (1, 2, 0), (1, 3, 0), (1, 4, 0), (0, 0, 1), (0, 0, 0)]) (by decide +kernel) g1 (fun g2 => ?_)
      exact vL H hf hs _ _ h1 fr1 g2 (by show ν1 0 + 0 = _; omega) (by show ν1 1 + 0 = _; omega) (by show ν1 2 + 0 = _; omega) (Nat.lt_succ_self _) (fun _ => cs)
    · intro ν1 h1 x1 g1
      refine b_pe.to rfl ?_
      have m0 : ν1 0 = f.toInt := x1.2 0 (by decide)
      have m1 : ν1 1 = s.toInt := x1.2 1 (by decide)
      have m2 : ν1 2 = t.toInt := x1.2 2 (by decide)
      refine b_ge.cv (T := (vB.2.1.2.2.1, vB.2.1.2.2.2.1, vB.2.1.2.2.2.2)) (bl := vB.2.1.1) (bs := []) (σ := [(1, 0, 0), (1, 1, 0), (1, 2, 0), (1, 3, 0), (1, 4, 0), (0, 0, 0), (0, 0, 0)]) (by decide +kernel) g1 (fun g2 => ?_)
      exact vL H hf hs _ _ h1 g1.2.2.2.2.2 g2 (by show ν1 0 + 0 = _; omega) (by show ν1 1 + 0 = _; omega) (by show ν1 2 + 0 = _; omega) (Nat.lt_succ_self _) (fun q => by have q : (0 : Int) = 1 := q; omega)
  subst e
  refine ⟨x, h', r1, x1, x2, x3, x4, fun c => ?_⟩
  obtain ⟨p, ph, c1, c2, c3, c4⟩ := c
  have tph : 0 ≤ ph.toInt ∧ ph.toInt ≤ 49 := by
    obtain ⟨z, z1, z2⟩ := H.rdI (j := f.toInt.toNat) (lo := 0) (hi := 49) c_a374 c_q59 (by decide) (by show f.toInt.toNat < 20; omega) rfl
    rw [c2] at z1
    cases z1
    exact z2
  rcases c4 with ⟨c4, c5⟩ | ⟨c4, i, row, kn, x0, y1, y2, y3, d1, d2, d3, d4, d5, d6, d7, d8, d9, d10, d11, d12⟩
  · obtain ⟨r', s1, s2⟩ := c_v200r.use (h := h) (as := [.ref 365, .int f, .int s, .int t]) (fun n => match n with | 0 => f.toInt | 1 => s.toInt | 2 => t.toInt | _ => ph.toInt) H ⟨b_q.i hf.1 hf.2, b_q.i hs.1 hs.2, b_q.i ht.1 ht.2, b_q.i tph.1 tph.2, trivial⟩
      ⟨b_fa.mk c1 (Or.inl ⟨rfl, rfl⟩) (Or.inr ⟨rfl, by decide, by show (f.toInt.toNat : Int) = f.toInt + 0; omega⟩) (Or.inl ⟨rfl, c4⟩), b_fa.mk c2 (Or.inl ⟨rfl, rfl⟩) (Or.inr ⟨rfl, by decide, by show (f.toInt.toNat : Int) = f.toInt + 0; omega⟩) (Or.inr ⟨rfl, by decide, by show ph.toInt = ph.toInt + 0; omega⟩), b_fa.mk c5 (Or.inl ⟨rfl, rfl⟩) (Or.inr ⟨rfl, by decide, by show (s.toInt.toNat : Int) = s.toInt + 0; omega⟩) (Or.inl ⟨rfl, by decide⟩), trivial⟩
      ⟨⟨by decide, by decide, by show ph.toInt ≤ t.toInt + 0; omega⟩, trivial⟩ (hA _ _ (by decide) rfl rfl rfl)
    obtain ⟨x', h2, ν2, e', -, z2, -⟩ := s2.intS rfl (by show 0 < 2; decide)
    subst e'
    have s1 : b_lim 2 200 [.ref 365, .int f, .int s, .int t] h = _ := s1
    rw [r1] at s1
    cases s1
    exact z2.k
  · have tkn : kn.toInt ≤ 60 := by
      obtain ⟨z, z1, z2, z3⟩ := H.rdI (j := 48) (lo := 0) (hi := 60) c_a365 c_q50 (by decide) (by decide) rfl
      rw [d1] at z1
      cases z1
      exact z3
    have ty2 : 0 ≤ y2.toInt ∧ y2.toInt ≤ 49 := by
      obtain ⟨z, z1, z2⟩ := H.rdI (j := 2) (lo := 0) (hi := 49) d4 c_q76 (by decide) (by decide) rfl
      rw [d7] at z1
      cases z1
      exact z2
    have ty3 : 0 ≤ y3.toInt ∧ y3.toInt ≤ 49 := by
      obtain ⟨z, z1, z2⟩ := H.rdI (j := 3) (lo := 0) (hi := 49) d4 c_q76 (by decide) (by decide) rfl
      rw [d8] at z1
      cases z1
      exact z2
    obtain ⟨r', s1, s2⟩ := c_v200d.use (h := h) (as := [.ref 365, .int f, .int s, .int t]) (fun n => match n with | 0 => f.toInt | 1 => s.toInt | 2 => t.toInt | 3 => ph.toInt | 4 => kn.toInt | 5 => (i : Int) | 6 => (row : Int) | 7 => y2.toInt | _ => y3.toInt) H
      ⟨b_q.i hf.1 hf.2, b_q.i hs.1 hs.2, b_q.i ht.1 ht.2, b_q.i tph.1 tph.2, b_q.i (by show (1 : Int) ≤ kn.toInt; omega) tkn, b_q.i (by show (0 : Int) ≤ (i : Int); omega) (by show (i : Int) ≤ 59; omega), b_q.r d4, b_q.i ty2.1 ty2.2, b_q.i ty3.1 ty3.2, trivial⟩
      ⟨b_fa.mk c1 (Or.inl ⟨rfl, rfl⟩) (Or.inr ⟨rfl, by decide, by show (f.toInt.toNat : Int) = f.toInt + 0; omega⟩) (Or.inl ⟨rfl, c4⟩), b_fa.mk c2 (Or.inl ⟨rfl, rfl⟩) (Or.inr ⟨rfl, by decide, by show (f.toInt.toNat : Int) = f.toInt + 0; omega⟩) (Or.inr ⟨rfl, by decide, by show ph.toInt = ph.toInt + 0; omega⟩),
       b_fa.mk d1 (Or.inl ⟨rfl, rfl⟩) (Or.inl ⟨rfl, rfl⟩) (Or.inr ⟨rfl, by decide, by show kn.toInt = kn.toInt + 0; omega⟩),
       b_fa.mk d3 (Or.inl ⟨rfl, rfl⟩) (Or.inr ⟨rfl, by decide, by show (i : Int) = (i : Int) + 0; omega⟩) (Or.inr ⟨rfl, by decide, rfl⟩),
       b_fa.mk d5 (Or.inr ⟨rfl, by decide, rfl⟩) (Or.inl ⟨rfl, rfl⟩) (Or.inr ⟨rfl, by decide, by show x0.toInt = f.toInt + 0; omega⟩),
       b_fa.mk d6 (Or.inr ⟨rfl, by decide, rfl⟩) (Or.inl ⟨rfl, rfl⟩) (Or.inr ⟨rfl, by decide, by show y1.toInt = s.toInt + 0; omega⟩),
       b_fa.mk d7 (Or.inr ⟨rfl, by decide, rfl⟩) (Or.inl ⟨rfl, rfl⟩) (Or.inr ⟨rfl, by decide, by show y2.toInt = y2.toInt + 0; omega⟩),
       b_fa.mk d8 (Or.inr ⟨rfl, by decide, rfl⟩) (Or.inl ⟨rfl, rfl⟩) (Or.inr ⟨rfl, by decide, by show y3.toInt = y3.toInt + 0; omega⟩), trivial⟩
      ⟨⟨by decide, by decide, by show ph.toInt ≤ t.toInt + 0; omega⟩, ⟨by decide, by decide, by show (i : Int) ≤ kn.toInt + (-1); omega⟩, ⟨by decide, by decide, by show y2.toInt ≤ t.toInt + 0; omega⟩, ⟨by decide, by decide, by show t.toInt ≤ y3.toInt + 0; omega⟩, trivial⟩ (hA _ _ (by decide) rfl rfl rfl)
    obtain ⟨x', h2, ν2, e', -, z2, -⟩ := s2.intS rfl (by show 0 < 2; decide)
    subst e'
    have s1 : b_lim 2 200 [.ref 365, .int f, .int s, .int t] h = _ := s1
    rw [r1] at s1
    cases s1
    exact z2.k
