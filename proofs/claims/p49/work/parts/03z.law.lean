/-! part 03z.law -/
section
/-! The law's own code as a list, by program (wip/genlaw.py) -/
def a_law_0 : List (Nat × Instr × Nat) := [(0, .new 8, 3), (3, .dup, 1), (4, .invokespecial 170, 3), (7, .astore_n 1, 1), (8, .new 171, 3), (11, .dup, 1), (12, .invokespecial 173, 3), (15, .astore_n 2, 1), (16, .iconst 1, 1), (17, .newarray .long, 2), (19, .astore_n 3, 1), (20, .iconst 1, 1), (21, .newarray .double, 2), (23, .astore 4, 2), (25, .iconst 0, 1), (26, .istore 5, 2), (28, .iload 5, 2), (30, .aload_n 0, 1), (31, .arraylength, 1), (32, .bipush 6, 2), (34, .isub, 1), (35, .if_icmp .gt 1999, 3), (38, .aload_n 0, 1), (39, .iload 5, 2), (41, .iaload, 1), (42, .bipush 63, 2), (44, .iand, 1), (45, .tableswitch 1983 0 47 #[207, 261, 289, 329, 369, 421, 461, 489, 517, 559, 639, 667, 695, 723, 751, 779, 835, 889, 953, 1005, 1057, 1085, 1127, 1155, 1195, 1223, 1236, 1264, 1304, 1332, 1360, 1400, 1428, 1468, 1508, 1550, 1602, 1630, 1643, 1683, 1711, 1739, 1815, 1867, 1923, 1936, 1953, 1970], 207), (252, .aload_n 1, 1), (253, .aload_n 0, 1), (254, .iload 5, 2), (256, .iconst 1, 1), (257, .iadd, 1), (258, .iaload, 1), (259, .i2c, 1), (260, .aload_n 0, 1), (261, .iload 5, 2), (263, .iconst 2, 1), (264, .iadd, 1), (265, .iaload, 1)]
theorem a_chk_law_0 : a_chk [(code, a_law_0)] = true := f_chkA (p := 0) (by decide +kernel)
def a_law_1 : List (Nat × Instr × Nat) := [(266, .aload_n 0, 1), (267, .iload 5, 2), (269, .iconst 3, 1), (270, .iadd, 1), (271, .iaload, 1), (272, .aload_n 3, 1), (273, .invokestatic 174, 3), (276, .istore 6, 2), (278, .aload_n 2, 1), (279, .aload_n 0, 1), (280, .iload 5, 2), (282, .iconst 1, 1), (283, .iadd, 1), (284, .iaload, 1), (285, .i2c, 1), (286, .aload_n 0, 1), (287, .iload 5, 2), (289, .iconst 2, 1), (290, .iadd, 1), (291, .iaload, 1), (292, .aload_n 0, 1), (293, .iload 5, 2), (295, .iconst 3, 1), (296, .iadd, 1), (297, .iaload, 1), (298, .invokevirtual 179, 3), (301, .istore 7, 2), (303, .goto 1725, 3), (306, .aload_n 1, 1), (307, .aload_n 0, 1), (308, .iload 5, 2), (310, .iconst 1, 1), (311, .iadd, 1), (312, .iaload, 1), (313, .aload_n 3, 1), (314, .invokestatic 180, 3), (317, .istore 6, 2), (319, .aload_n 2, 1), (320, .aload_n 0, 1), (321, .iload 5, 2)]
theorem a_chk_law_1 : a_chk [(code, a_law_1)] = true := f_chkA (p := 266) (by decide +kernel)
def a_law_2 : List (Nat × Instr × Nat) := [(323, .iconst 1, 1), (324, .iadd, 1), (325, .iaload, 1), (326, .invokevirtual 183, 3), (329, .istore 7, 2), (331, .goto 1697, 3), (334, .aload_n 1, 1), (335, .aload_n 0, 1), (336, .iload 5, 2), (338, .iconst 1, 1), (339, .iadd, 1), (340, .iaload, 1), (341, .aload_n 0, 1), (342, .iload 5, 2), (344, .iconst 2, 1), (345, .iadd, 1), (346, .iaload, 1), (347, .aload_n 3, 1), (348, .invokestatic 184, 3), (351, .istore 6, 2), (353, .aload_n 2, 1), (354, .aload_n 0, 1), (355, .iload 5, 2), (357, .iconst 1, 1), (358, .iadd, 1), (359, .iaload, 1), (360, .aload_n 0, 1), (361, .iload 5, 2), (363, .iconst 2, 1), (364, .iadd, 1), (365, .iaload, 1), (366, .invokevirtual 187, 3), (369, .istore 7, 2), (371, .goto 1657, 3), (374, .aload_n 1, 1), (375, .aload_n 0, 1), (376, .iload 5, 2), (378, .iconst 1, 1), (379, .iadd, 1), (380, .iaload, 1)]
theorem a_chk_law_2 : a_chk [(code, a_law_2)] = true := f_chkA (p := 323) (by decide +kernel)
def a_law_3 : List (Nat × Instr × Nat) := [(381, .aload_n 0, 1), (382, .iload 5, 2), (384, .iconst 2, 1), (385, .iadd, 1), (386, .iaload, 1), (387, .aload_n 3, 1), (388, .invokestatic 188, 3), (391, .istore 6, 2), (393, .aload_n 2, 1), (394, .aload_n 0, 1), (395, .iload 5, 2), (397, .iconst 1, 1), (398, .iadd, 1), (399, .iaload, 1), (400, .aload_n 0, 1), (401, .iload 5, 2), (403, .iconst 2, 1), (404, .iadd, 1), (405, .iaload, 1), (406, .invokevirtual 190, 3), (409, .istore 7, 2), (411, .goto 1617, 3), (414, .aload_n 1, 1), (415, .aload_n 0, 1), (416, .iload 5, 2), (418, .iconst 1, 1), (419, .iadd, 1), (420, .iaload, 1), (421, .aload_n 0, 1), (422, .iload 5, 2), (424, .iconst 2, 1), (425, .iadd, 1), (426, .iaload, 1), (427, .aload_n 0, 1), (428, .iload 5, 2), (430, .iconst 3, 1), (431, .iadd, 1), (432, .iaload, 1), (433, .aload_n 3, 1), (434, .invokestatic 191, 3)]
theorem a_chk_law_3 : a_chk [(code, a_law_3)] = true := f_chkA (p := 381) (by decide +kernel)
def a_law_4 : List (Nat × Instr × Nat) := [(437, .istore 6, 2), (439, .aload_n 2, 1), (440, .aload_n 0, 1), (441, .iload 5, 2), (443, .iconst 1, 1), (444, .iadd, 1), (445, .iaload, 1), (446, .aload_n 0, 1), (447, .iload 5, 2), (449, .iconst 2, 1), (450, .iadd, 1), (451, .iaload, 1), (452, .aload_n 0, 1), (453, .iload 5, 2), (455, .iconst 3, 1), (456, .iadd, 1), (457, .iaload, 1), (458, .invokevirtual 194, 3), (461, .istore 7, 2), (463, .goto 1565, 3), (466, .aload_n 1, 1), (467, .aload_n 0, 1), (468, .iload 5, 2), (470, .iconst 1, 1), (471, .iadd, 1), (472, .iaload, 1), (473, .aload_n 0, 1), (474, .iload 5, 2), (476, .iconst 2, 1), (477, .iadd, 1), (478, .iaload, 1), (479, .aload_n 3, 1), (480, .invokestatic 195, 3), (483, .istore 6, 2), (485, .aload_n 2, 1), (486, .aload_n 0, 1), (487, .iload 5, 2), (489, .iconst 1, 1), (490, .iadd, 1), (491, .iaload, 1)]
theorem a_chk_law_4 : a_chk [(code, a_law_4)] = true := f_chkA (p := 437) (by decide +kernel)
def a_law_5 : List (Nat × Instr × Nat) := [(492, .aload_n 0, 1), (493, .iload 5, 2), (495, .iconst 2, 1), (496, .iadd, 1), (497, .iaload, 1), (498, .invokevirtual 197, 3), (501, .istore 7, 2), (503, .goto 1525, 3), (506, .aload_n 1, 1), (507, .aload_n 0, 1), (508, .iload 5, 2), (510, .iconst 1, 1), (511, .iadd, 1), (512, .iaload, 1), (513, .aload_n 3, 1), (514, .invokestatic 198, 3), (517, .istore 6, 2), (519, .aload_n 2, 1), (520, .aload_n 0, 1), (521, .iload 5, 2), (523, .iconst 1, 1), (524, .iadd, 1), (525, .iaload, 1), (526, .invokevirtual 200, 3), (529, .istore 7, 2), (531, .goto 1497, 3), (534, .aload_n 1, 1), (535, .aload_n 0, 1), (536, .iload 5, 2), (538, .iconst 1, 1), (539, .iadd, 1), (540, .iaload, 1), (541, .aload_n 3, 1), (542, .invokestatic 201, 3), (545, .istore 6, 2), (547, .aload_n 2, 1), (548, .aload_n 0, 1), (549, .iload 5, 2), (551, .iconst 1, 1), (552, .iadd, 1)]
theorem a_chk_law_5 : a_chk [(code, a_law_5)] = true := f_chkA (p := 492) (by decide +kernel)
def a_law_6 : List (Nat × Instr × Nat) := [(553, .iaload, 1), (554, .invokevirtual 203, 3), (557, .istore 7, 2), (559, .goto 1469, 3), (562, .aload_n 1, 1), (563, .aload_n 0, 1), (564, .iload 5, 2), (566, .iconst 1, 1), (567, .iadd, 1), (568, .iaload, 1), (569, .aload_n 0, 1), (570, .iload 5, 2), (572, .iconst 2, 1), (573, .iadd, 1), (574, .iaload, 1), (575, .i2c, 1), (576, .aload_n 3, 1), (577, .invokestatic 204, 3), (580, .istore 6, 2), (582, .aload_n 2, 1), (583, .aload_n 0, 1), (584, .iload 5, 2), (586, .iconst 1, 1), (587, .iadd, 1), (588, .iaload, 1), (589, .aload_n 0, 1), (590, .iload 5, 2), (592, .iconst 2, 1), (593, .iadd, 1), (594, .iaload, 1), (595, .i2c, 1), (596, .invokevirtual 207, 3), (599, .istore 7, 2), (601, .goto 1427, 3), (604, .aload_n 1, 1), (605, .aload_n 0, 1), (606, .iload 5, 2), (608, .iconst 1, 1), (609, .iadd, 1), (610, .iaload, 1)]
theorem a_chk_law_6 : a_chk [(code, a_law_6)] = true := f_chkA (p := 553) (by decide +kernel)
def a_law_7 : List (Nat × Instr × Nat) := [(611, .aload_n 0, 1), (612, .iload 5, 2), (614, .iconst 2, 1), (615, .iadd, 1), (616, .iaload, 1), (617, .aload_n 0, 1), (618, .iload 5, 2), (620, .iconst 3, 1), (621, .iadd, 1), (622, .iaload, 1), (623, .aload_n 0, 1), (624, .iload 5, 2), (626, .iconst 4, 1), (627, .iadd, 1), (628, .iaload, 1), (629, .i2c, 1), (630, .aload_n 0, 1), (631, .iload 5, 2), (633, .iconst 5, 1), (634, .iadd, 1), (635, .iaload, 1), (636, .i2c, 1), (637, .aload_n 3, 1), (638, .invokestatic 208, 3), (641, .istore 6, 2), (643, .aload_n 2, 1), (644, .aload_n 0, 1), (645, .iload 5, 2), (647, .iconst 1, 1), (648, .iadd, 1), (649, .iaload, 1), (650, .aload_n 0, 1), (651, .iload 5, 2), (653, .iconst 2, 1), (654, .iadd, 1), (655, .iaload, 1), (656, .aload_n 0, 1), (657, .iload 5, 2), (659, .iconst 3, 1), (660, .iadd, 1)]
theorem a_chk_law_7 : a_chk [(code, a_law_7)] = true := f_chkA (p := 611) (by decide +kernel)
def a_law_8 : List (Nat × Instr × Nat) := [(661, .iaload, 1), (662, .aload_n 0, 1), (663, .iload 5, 2), (665, .iconst 4, 1), (666, .iadd, 1), (667, .iaload, 1), (668, .i2c, 1), (669, .aload_n 0, 1), (670, .iload 5, 2), (672, .iconst 5, 1), (673, .iadd, 1), (674, .iaload, 1), (675, .i2c, 1), (676, .invokevirtual 211, 3), (679, .istore 7, 2), (681, .goto 1347, 3), (684, .aload_n 1, 1), (685, .aload_n 0, 1), (686, .iload 5, 2), (688, .iconst 1, 1), (689, .iadd, 1), (690, .iaload, 1), (691, .aload_n 3, 1), (692, .invokestatic 212, 3), (695, .istore 6, 2), (697, .aload_n 2, 1), (698, .aload_n 0, 1), (699, .iload 5, 2), (701, .iconst 1, 1), (702, .iadd, 1), (703, .iaload, 1), (704, .invokevirtual 214, 3), (707, .istore 7, 2), (709, .goto 1319, 3), (712, .aload_n 1, 1), (713, .aload_n 0, 1), (714, .iload 5, 2), (716, .iconst 1, 1), (717, .iadd, 1), (718, .iaload, 1)]
theorem a_chk_law_8 : a_chk [(code, a_law_8)] = true := f_chkA (p := 661) (by decide +kernel)
def a_law_9 : List (Nat × Instr × Nat) := [(719, .aload_n 3, 1), (720, .invokestatic 215, 3), (723, .istore 6, 2), (725, .aload_n 2, 1), (726, .aload_n 0, 1), (727, .iload 5, 2), (729, .iconst 1, 1), (730, .iadd, 1), (731, .iaload, 1), (732, .invokevirtual 217, 3), (735, .istore 7, 2), (737, .goto 1291, 3), (740, .aload_n 1, 1), (741, .aload_n 0, 1), (742, .iload 5, 2), (744, .iconst 1, 1), (745, .iadd, 1), (746, .iaload, 1), (747, .aload_n 3, 1), (748, .invokestatic 218, 3), (751, .istore 6, 2), (753, .aload_n 2, 1), (754, .aload_n 0, 1), (755, .iload 5, 2), (757, .iconst 1, 1), (758, .iadd, 1), (759, .iaload, 1), (760, .invokevirtual 220, 3), (763, .istore 7, 2), (765, .goto 1263, 3), (768, .aload_n 1, 1), (769, .aload_n 0, 1), (770, .iload 5, 2), (772, .iconst 1, 1), (773, .iadd, 1), (774, .iaload, 1), (775, .aload_n 3, 1), (776, .invokestatic 221, 3), (779, .istore 6, 2), (781, .aload_n 2, 1)]
theorem a_chk_law_9 : a_chk [(code, a_law_9)] = true := f_chkA (p := 719) (by decide +kernel)
def a_law_10 : List (Nat × Instr × Nat) := [(782, .aload_n 0, 1), (783, .iload 5, 2), (785, .iconst 1, 1), (786, .iadd, 1), (787, .iaload, 1), (788, .invokevirtual 223, 3), (791, .istore 7, 2), (793, .goto 1235, 3), (796, .aload_n 1, 1), (797, .aload_n 0, 1), (798, .iload 5, 2), (800, .iconst 1, 1), (801, .iadd, 1), (802, .iaload, 1), (803, .aload_n 3, 1), (804, .invokestatic 224, 3), (807, .istore 6, 2), (809, .aload_n 2, 1), (810, .aload_n 0, 1), (811, .iload 5, 2), (813, .iconst 1, 1), (814, .iadd, 1), (815, .iaload, 1), (816, .invokevirtual 226, 3), (819, .istore 7, 2), (821, .goto 1207, 3), (824, .aload_n 1, 1), (825, .aload_n 0, 1), (826, .iload 5, 2), (828, .iconst 1, 1), (829, .iadd, 1), (830, .iaload, 1), (831, .aload_n 0, 1), (832, .iload 5, 2), (834, .iconst 2, 1), (835, .iadd, 1), (836, .iaload, 1), (837, .ifCond .eq 7, 3), (840, .iconst 1, 1), (841, .goto 4, 3)]
theorem a_chk_law_10 : a_chk [(code, a_law_10)] = true := f_chkA (p := 782) (by decide +kernel)
def a_law_11 : List (Nat × Instr × Nat) := [(844, .iconst 0, 1), (845, .aload_n 3, 1), (846, .invokestatic 227, 3), (849, .istore 6, 2), (851, .aload_n 2, 1), (852, .aload_n 0, 1), (853, .iload 5, 2), (855, .iconst 1, 1), (856, .iadd, 1), (857, .iaload, 1), (858, .aload_n 0, 1), (859, .iload 5, 2), (861, .iconst 2, 1), (862, .iadd, 1), (863, .iaload, 1), (864, .ifCond .eq 7, 3), (867, .iconst 1, 1), (868, .goto 4, 3), (871, .iconst 0, 1), (872, .invokevirtual 230, 3), (875, .istore 7, 2), (877, .goto 1151, 3), (880, .aload_n 1, 1), (881, .aload_n 0, 1), (882, .iload 5, 2), (884, .iconst 1, 1), (885, .iadd, 1), (886, .iaload, 1), (887, .aload_n 0, 1), (888, .iload 5, 2), (890, .iconst 2, 1), (891, .iadd, 1), (892, .iaload, 1), (893, .i2c, 1), (894, .aload_n 0, 1), (895, .iload 5, 2), (897, .iconst 3, 1), (898, .iadd, 1), (899, .iaload, 1), (900, .aload_n 3, 1)]
theorem a_chk_law_11 : a_chk [(code, a_law_11)] = true := f_chkA (p := 844) (by decide +kernel)
def a_law_12 : List (Nat × Instr × Nat) := [(901, .invokestatic 231, 3), (904, .istore 6, 2), (906, .aload_n 2, 1), (907, .aload_n 0, 1), (908, .iload 5, 2), (910, .iconst 1, 1), (911, .iadd, 1), (912, .iaload, 1), (913, .aload_n 0, 1), (914, .iload 5, 2), (916, .iconst 2, 1), (917, .iadd, 1), (918, .iaload, 1), (919, .i2c, 1), (920, .aload_n 0, 1), (921, .iload 5, 2), (923, .iconst 3, 1), (924, .iadd, 1), (925, .iaload, 1), (926, .invokevirtual 234, 3), (929, .istore 7, 2), (931, .goto 1097, 3), (934, .aload_n 1, 1), (935, .aload_n 0, 1), (936, .iload 5, 2), (938, .iconst 1, 1), (939, .iadd, 1), (940, .iaload, 1), (941, .aload_n 0, 1), (942, .iload 5, 2), (944, .iconst 2, 1), (945, .iadd, 1), (946, .iaload, 1), (947, .aload_n 0, 1), (948, .iload 5, 2), (950, .iconst 3, 1), (951, .iadd, 1), (952, .iaload, 1), (953, .aload_n 0, 1), (954, .iload 5, 2)]
theorem a_chk_law_12 : a_chk [(code, a_law_12)] = true := f_chkA (p := 901) (by decide +kernel)
def a_law_13 : List (Nat × Instr × Nat) := [(956, .iconst 4, 1), (957, .iadd, 1), (958, .iaload, 1), (959, .aload_n 3, 1), (960, .invokestatic 235, 3), (963, .istore 6, 2), (965, .aload_n 2, 1), (966, .aload_n 0, 1), (967, .iload 5, 2), (969, .iconst 1, 1), (970, .iadd, 1), (971, .iaload, 1), (972, .aload_n 0, 1), (973, .iload 5, 2), (975, .iconst 2, 1), (976, .iadd, 1), (977, .iaload, 1), (978, .aload_n 0, 1), (979, .iload 5, 2), (981, .iconst 3, 1), (982, .iadd, 1), (983, .iaload, 1), (984, .aload_n 0, 1), (985, .iload 5, 2), (987, .iconst 4, 1), (988, .iadd, 1), (989, .iaload, 1), (990, .invokevirtual 238, 3), (993, .istore 7, 2), (995, .goto 1033, 3), (998, .aload_n 1, 1), (999, .aload_n 0, 1), (1000, .iload 5, 2), (1002, .iconst 1, 1), (1003, .iadd, 1), (1004, .iaload, 1), (1005, .aload_n 0, 1), (1006, .iload 5, 2), (1008, .iconst 2, 1), (1009, .iadd, 1)]
theorem a_chk_law_13 : a_chk [(code, a_law_13)] = true := f_chkA (p := 956) (by decide +kernel)
def a_law_14 : List (Nat × Instr × Nat) := [(1010, .iaload, 1), (1011, .aload_n 0, 1), (1012, .iload 5, 2), (1014, .iconst 3, 1), (1015, .iadd, 1), (1016, .iaload, 1), (1017, .aload_n 3, 1), (1018, .invokestatic 239, 3), (1021, .istore 6, 2), (1023, .aload_n 2, 1), (1024, .aload_n 0, 1), (1025, .iload 5, 2), (1027, .iconst 1, 1), (1028, .iadd, 1), (1029, .iaload, 1), (1030, .aload_n 0, 1), (1031, .iload 5, 2), (1033, .iconst 2, 1), (1034, .iadd, 1), (1035, .iaload, 1), (1036, .aload_n 0, 1), (1037, .iload 5, 2), (1039, .iconst 3, 1), (1040, .iadd, 1), (1041, .iaload, 1), (1042, .invokevirtual 241, 3), (1045, .istore 7, 2), (1047, .goto 981, 3), (1050, .aload_n 1, 1), (1051, .aload_n 0, 1), (1052, .iload 5, 2), (1054, .iconst 1, 1), (1055, .iadd, 1), (1056, .iaload, 1), (1057, .aload_n 0, 1), (1058, .iload 5, 2), (1060, .iconst 2, 1), (1061, .iadd, 1), (1062, .iaload, 1), (1063, .aload_n 0, 1)]
theorem a_chk_law_14 : a_chk [(code, a_law_14)] = true := f_chkA (p := 1010) (by decide +kernel)
def a_law_15 : List (Nat × Instr × Nat) := [(1064, .iload 5, 2), (1066, .iconst 3, 1), (1067, .iadd, 1), (1068, .iaload, 1), (1069, .aload_n 3, 1), (1070, .invokestatic 242, 3), (1073, .istore 6, 2), (1075, .aload_n 2, 1), (1076, .aload_n 0, 1), (1077, .iload 5, 2), (1079, .iconst 1, 1), (1080, .iadd, 1), (1081, .iaload, 1), (1082, .aload_n 0, 1), (1083, .iload 5, 2), (1085, .iconst 2, 1), (1086, .iadd, 1), (1087, .iaload, 1), (1088, .aload_n 0, 1), (1089, .iload 5, 2), (1091, .iconst 3, 1), (1092, .iadd, 1), (1093, .iaload, 1), (1094, .invokevirtual 244, 3), (1097, .istore 7, 2), (1099, .goto 929, 3), (1102, .aload_n 1, 1), (1103, .aload_n 0, 1), (1104, .iload 5, 2), (1106, .iconst 1, 1), (1107, .iadd, 1), (1108, .iaload, 1), (1109, .aload_n 3, 1), (1110, .invokestatic 245, 3), (1113, .istore 6, 2), (1115, .aload_n 2, 1), (1116, .aload_n 0, 1), (1117, .iload 5, 2), (1119, .iconst 1, 1), (1120, .iadd, 1)]
theorem a_chk_law_15 : a_chk [(code, a_law_15)] = true := f_chkA (p := 1064) (by decide +kernel)
def a_law_16 : List (Nat × Instr × Nat) := [(1121, .iaload, 1), (1122, .invokevirtual 247, 3), (1125, .istore 7, 2), (1127, .goto 901, 3), (1130, .aload_n 1, 1), (1131, .aload_n 0, 1), (1132, .iload 5, 2), (1134, .iconst 1, 1), (1135, .iadd, 1), (1136, .iaload, 1), (1137, .aload_n 0, 1), (1138, .iload 5, 2), (1140, .iconst 2, 1), (1141, .iadd, 1), (1142, .iaload, 1), (1143, .i2c, 1), (1144, .aload_n 3, 1), (1145, .invokestatic 248, 3), (1148, .istore 6, 2), (1150, .aload_n 2, 1), (1151, .aload_n 0, 1), (1152, .iload 5, 2), (1154, .iconst 1, 1), (1155, .iadd, 1), (1156, .iaload, 1), (1157, .aload_n 0, 1), (1158, .iload 5, 2), (1160, .iconst 2, 1), (1161, .iadd, 1), (1162, .iaload, 1), (1163, .i2c, 1), (1164, .invokevirtual 250, 3), (1167, .istore 7, 2), (1169, .goto 859, 3), (1172, .aload_n 1, 1), (1173, .aload_n 0, 1), (1174, .iload 5, 2), (1176, .iconst 1, 1), (1177, .iadd, 1), (1178, .iaload, 1)]
theorem a_chk_law_16 : a_chk [(code, a_law_16)] = true := f_chkA (p := 1121) (by decide +kernel)
def a_law_17 : List (Nat × Instr × Nat) := [(1179, .aload_n 3, 1), (1180, .invokestatic 251, 3), (1183, .istore 6, 2), (1185, .aload_n 2, 1), (1186, .aload_n 0, 1), (1187, .iload 5, 2), (1189, .iconst 1, 1), (1190, .iadd, 1), (1191, .iaload, 1), (1192, .invokevirtual 253, 3), (1195, .istore 7, 2), (1197, .goto 831, 3), (1200, .aload_n 1, 1), (1201, .aload_n 0, 1), (1202, .iload 5, 2), (1204, .iconst 1, 1), (1205, .iadd, 1), (1206, .iaload, 1), (1207, .aload_n 0, 1), (1208, .iload 5, 2), (1210, .iconst 2, 1), (1211, .iadd, 1), (1212, .iaload, 1), (1213, .aload_n 3, 1), (1214, .invokestatic 254, 3), (1217, .istore 6, 2), (1219, .aload_n 2, 1), (1220, .aload_n 0, 1), (1221, .iload 5, 2), (1223, .iconst 1, 1), (1224, .iadd, 1), (1225, .iaload, 1), (1226, .aload_n 0, 1), (1227, .iload 5, 2), (1229, .iconst 2, 1), (1230, .iadd, 1), (1231, .iaload, 1), (1232, .invokevirtual 256, 3), (1235, .istore 7, 2), (1237, .goto 791, 3)]
theorem a_chk_law_17 : a_chk [(code, a_law_17)] = true := f_chkA (p := 1179) (by decide +kernel)
def a_law_18 : List (Nat × Instr × Nat) := [(1240, .aload_n 1, 1), (1241, .aload_n 0, 1), (1242, .iload 5, 2), (1244, .iconst 1, 1), (1245, .iadd, 1), (1246, .iaload, 1), (1247, .aload_n 3, 1), (1248, .invokestatic 257, 3), (1251, .istore 6, 2), (1253, .aload_n 2, 1), (1254, .aload_n 0, 1), (1255, .iload 5, 2), (1257, .iconst 1, 1), (1258, .iadd, 1), (1259, .iaload, 1), (1260, .invokevirtual 259, 3), (1263, .istore 7, 2), (1265, .goto 763, 3), (1268, .aload_n 1, 1), (1269, .invokevirtual 260, 3), (1272, .pop, 1), (1273, .aload_n 2, 1), (1274, .invokevirtual 264, 3), (1277, .pop, 1), (1278, .goto 750, 3), (1281, .aload_n 1, 1), (1282, .aload_n 0, 1), (1283, .iload 5, 2), (1285, .iconst 1, 1), (1286, .iadd, 1), (1287, .iaload, 1), (1288, .aload_n 3, 1), (1289, .invokestatic 265, 3), (1292, .istore 6, 2), (1294, .aload_n 2, 1), (1295, .aload_n 0, 1), (1296, .iload 5, 2), (1298, .iconst 1, 1), (1299, .iadd, 1), (1300, .iaload, 1)]
theorem a_chk_law_18 : a_chk [(code, a_law_18)] = true := f_chkA (p := 1240) (by decide +kernel)
def a_law_19 : List (Nat × Instr × Nat) := [(1301, .invokevirtual 267, 3), (1304, .istore 7, 2), (1306, .goto 722, 3), (1309, .aload_n 1, 1), (1310, .aload_n 0, 1), (1311, .iload 5, 2), (1313, .iconst 1, 1), (1314, .iadd, 1), (1315, .iaload, 1), (1316, .aload_n 0, 1), (1317, .iload 5, 2), (1319, .iconst 2, 1), (1320, .iadd, 1), (1321, .iaload, 1), (1322, .aload_n 3, 1), (1323, .invokestatic 268, 3), (1326, .istore 6, 2), (1328, .aload_n 2, 1), (1329, .aload_n 0, 1), (1330, .iload 5, 2), (1332, .iconst 1, 1), (1333, .iadd, 1), (1334, .iaload, 1), (1335, .aload_n 0, 1), (1336, .iload 5, 2), (1338, .iconst 2, 1), (1339, .iadd, 1), (1340, .iaload, 1), (1341, .invokevirtual 270, 3), (1344, .istore 7, 2), (1346, .goto 682, 3), (1349, .aload_n 1, 1), (1350, .aload_n 0, 1), (1351, .iload 5, 2), (1353, .iconst 1, 1), (1354, .iadd, 1), (1355, .iaload, 1), (1356, .aload_n 3, 1), (1357, .invokestatic 271, 3), (1360, .istore 6, 2)]
theorem a_chk_law_19 : a_chk [(code, a_law_19)] = true := f_chkA (p := 1301) (by decide +kernel)
def a_law_20 : List (Nat × Instr × Nat) := [(1362, .aload_n 2, 1), (1363, .aload_n 0, 1), (1364, .iload 5, 2), (1366, .iconst 1, 1), (1367, .iadd, 1), (1368, .iaload, 1), (1369, .invokevirtual 273, 3), (1372, .istore 7, 2), (1374, .goto 654, 3), (1377, .aload_n 1, 1), (1378, .aload_n 0, 1), (1379, .iload 5, 2), (1381, .iconst 1, 1), (1382, .iadd, 1), (1383, .iaload, 1), (1384, .aload_n 3, 1), (1385, .invokestatic 274, 3), (1388, .istore 6, 2), (1390, .aload_n 2, 1), (1391, .aload_n 0, 1), (1392, .iload 5, 2), (1394, .iconst 1, 1), (1395, .iadd, 1), (1396, .iaload, 1), (1397, .invokevirtual 276, 3), (1400, .istore 7, 2), (1402, .goto 626, 3), (1405, .aload_n 1, 1), (1406, .aload_n 0, 1), (1407, .iload 5, 2), (1409, .iconst 1, 1), (1410, .iadd, 1), (1411, .iaload, 1), (1412, .aload_n 0, 1), (1413, .iload 5, 2), (1415, .iconst 2, 1), (1416, .iadd, 1), (1417, .iaload, 1), (1418, .aload_n 3, 1), (1419, .invokestatic 277, 3)]
theorem a_chk_law_20 : a_chk [(code, a_law_20)] = true := f_chkA (p := 1362) (by decide +kernel)
def a_law_21 : List (Nat × Instr × Nat) := [(1422, .istore 6, 2), (1424, .aload_n 2, 1), (1425, .aload_n 0, 1), (1426, .iload 5, 2), (1428, .iconst 1, 1), (1429, .iadd, 1), (1430, .iaload, 1), (1431, .aload_n 0, 1), (1432, .iload 5, 2), (1434, .iconst 2, 1), (1435, .iadd, 1), (1436, .iaload, 1), (1437, .invokevirtual 279, 3), (1440, .istore 7, 2), (1442, .goto 586, 3), (1445, .aload_n 1, 1), (1446, .aload_n 0, 1), (1447, .iload 5, 2), (1449, .iconst 1, 1), (1450, .iadd, 1), (1451, .iaload, 1), (1452, .aload_n 3, 1), (1453, .invokestatic 280, 3), (1456, .istore 6, 2), (1458, .aload_n 2, 1), (1459, .aload_n 0, 1), (1460, .iload 5, 2), (1462, .iconst 1, 1), (1463, .iadd, 1), (1464, .iaload, 1), (1465, .invokevirtual 282, 3), (1468, .istore 7, 2), (1470, .goto 558, 3), (1473, .aload_n 1, 1), (1474, .aload_n 0, 1), (1475, .iload 5, 2), (1477, .iconst 1, 1), (1478, .iadd, 1), (1479, .iaload, 1), (1480, .aload_n 0, 1)]
theorem a_chk_law_21 : a_chk [(code, a_law_21)] = true := f_chkA (p := 1422) (by decide +kernel)
def a_law_22 : List (Nat × Instr × Nat) := [(1481, .iload 5, 2), (1483, .iconst 2, 1), (1484, .iadd, 1), (1485, .iaload, 1), (1486, .aload_n 3, 1), (1487, .invokestatic 283, 3), (1490, .istore 6, 2), (1492, .aload_n 2, 1), (1493, .aload_n 0, 1), (1494, .iload 5, 2), (1496, .iconst 1, 1), (1497, .iadd, 1), (1498, .iaload, 1), (1499, .aload_n 0, 1), (1500, .iload 5, 2), (1502, .iconst 2, 1), (1503, .iadd, 1), (1504, .iaload, 1), (1505, .invokevirtual 285, 3), (1508, .istore 7, 2), (1510, .goto 518, 3), (1513, .aload_n 1, 1), (1514, .aload_n 0, 1), (1515, .iload 5, 2), (1517, .iconst 1, 1), (1518, .iadd, 1), (1519, .iaload, 1), (1520, .aload_n 0, 1), (1521, .iload 5, 2), (1523, .iconst 2, 1), (1524, .iadd, 1), (1525, .iaload, 1), (1526, .aload_n 3, 1), (1527, .invokestatic 286, 3), (1530, .istore 6, 2), (1532, .aload_n 2, 1), (1533, .aload_n 0, 1), (1534, .iload 5, 2), (1536, .iconst 1, 1), (1537, .iadd, 1)]
theorem a_chk_law_22 : a_chk [(code, a_law_22)] = true := f_chkA (p := 1481) (by decide +kernel)
def a_law_23 : List (Nat × Instr × Nat) := [(1538, .iaload, 1), (1539, .aload_n 0, 1), (1540, .iload 5, 2), (1542, .iconst 2, 1), (1543, .iadd, 1), (1544, .iaload, 1), (1545, .invokevirtual 288, 3), (1548, .istore 7, 2), (1550, .goto 478, 3), (1553, .aload_n 1, 1), (1554, .aload_n 0, 1), (1555, .iload 5, 2), (1557, .iconst 1, 1), (1558, .iadd, 1), (1559, .iaload, 1), (1560, .aload_n 0, 1), (1561, .iload 5, 2), (1563, .iconst 2, 1), (1564, .iadd, 1), (1565, .iaload, 1), (1566, .i2c, 1), (1567, .aload_n 3, 1), (1568, .invokestatic 289, 3), (1571, .istore 6, 2), (1573, .aload_n 2, 1), (1574, .aload_n 0, 1), (1575, .iload 5, 2), (1577, .iconst 1, 1), (1578, .iadd, 1), (1579, .iaload, 1), (1580, .aload_n 0, 1), (1581, .iload 5, 2), (1583, .iconst 2, 1), (1584, .iadd, 1), (1585, .iaload, 1), (1586, .i2c, 1), (1587, .invokevirtual 291, 3), (1590, .istore 7, 2), (1592, .goto 436, 3), (1595, .aload_n 1, 1)]
theorem a_chk_law_23 : a_chk [(code, a_law_23)] = true := f_chkA (p := 1538) (by decide +kernel)
def a_law_24 : List (Nat × Instr × Nat) := [(1596, .aload_n 0, 1), (1597, .iload 5, 2), (1599, .iconst 1, 1), (1600, .iadd, 1), (1601, .iaload, 1), (1602, .aload_n 0, 1), (1603, .iload 5, 2), (1605, .iconst 2, 1), (1606, .iadd, 1), (1607, .iaload, 1), (1608, .aload_n 0, 1), (1609, .iload 5, 2), (1611, .iconst 3, 1), (1612, .iadd, 1), (1613, .iaload, 1), (1614, .aload_n 3, 1), (1615, .invokestatic 292, 3), (1618, .istore 6, 2), (1620, .aload_n 2, 1), (1621, .aload_n 0, 1), (1622, .iload 5, 2), (1624, .iconst 1, 1), (1625, .iadd, 1), (1626, .iaload, 1), (1627, .aload_n 0, 1), (1628, .iload 5, 2), (1630, .iconst 2, 1), (1631, .iadd, 1), (1632, .iaload, 1), (1633, .aload_n 0, 1), (1634, .iload 5, 2), (1636, .iconst 3, 1), (1637, .iadd, 1), (1638, .iaload, 1), (1639, .invokevirtual 294, 3), (1642, .istore 7, 2), (1644, .goto 384, 3), (1647, .aload_n 1, 1), (1648, .aload_n 0, 1), (1649, .iload 5, 2)]
theorem a_chk_law_24 : a_chk [(code, a_law_24)] = true := f_chkA (p := 1596) (by decide +kernel)
def a_law_25 : List (Nat × Instr × Nat) := [(1651, .iconst 1, 1), (1652, .iadd, 1), (1653, .iaload, 1), (1654, .aload_n 3, 1), (1655, .invokestatic 295, 3), (1658, .istore 6, 2), (1660, .aload_n 2, 1), (1661, .aload_n 0, 1), (1662, .iload 5, 2), (1664, .iconst 1, 1), (1665, .iadd, 1), (1666, .iaload, 1), (1667, .invokevirtual 297, 3), (1670, .istore 7, 2), (1672, .goto 356, 3), (1675, .aload_n 1, 1), (1676, .invokevirtual 298, 3), (1679, .pop, 1), (1680, .aload_n 2, 1), (1681, .invokevirtual 301, 3), (1684, .pop, 1), (1685, .goto 343, 3), (1688, .aload_n 1, 1), (1689, .aload_n 0, 1), (1690, .iload 5, 2), (1692, .iconst 1, 1), (1693, .iadd, 1), (1694, .iaload, 1), (1695, .aload_n 0, 1), (1696, .iload 5, 2), (1698, .iconst 2, 1), (1699, .iadd, 1), (1700, .iaload, 1), (1701, .aload_n 3, 1), (1702, .invokestatic 302, 3), (1705, .istore 6, 2), (1707, .aload_n 2, 1), (1708, .aload_n 0, 1), (1709, .iload 5, 2), (1711, .iconst 1, 1)]
theorem a_chk_law_25 : a_chk [(code, a_law_25)] = true := f_chkA (p := 1651) (by decide +kernel)
def a_law_26 : List (Nat × Instr × Nat) := [(1712, .iadd, 1), (1713, .iaload, 1), (1714, .aload_n 0, 1), (1715, .iload 5, 2), (1717, .iconst 2, 1), (1718, .iadd, 1), (1719, .iaload, 1), (1720, .invokevirtual 304, 3), (1723, .istore 7, 2), (1725, .goto 303, 3), (1728, .aload_n 1, 1), (1729, .aload_n 0, 1), (1730, .iload 5, 2), (1732, .iconst 1, 1), (1733, .iadd, 1), (1734, .iaload, 1), (1735, .aload_n 3, 1), (1736, .invokestatic 305, 3), (1739, .istore 6, 2), (1741, .aload_n 2, 1), (1742, .aload_n 0, 1), (1743, .iload 5, 2), (1745, .iconst 1, 1), (1746, .iadd, 1), (1747, .iaload, 1), (1748, .invokevirtual 307, 3), (1751, .istore 7, 2), (1753, .goto 275, 3), (1756, .aload_n 1, 1), (1757, .aload_n 0, 1), (1758, .iload 5, 2), (1760, .iconst 1, 1), (1761, .iadd, 1), (1762, .iaload, 1), (1763, .aload_n 3, 1), (1764, .invokestatic 308, 3), (1767, .istore 6, 2), (1769, .aload_n 2, 1), (1770, .aload_n 0, 1), (1771, .iload 5, 2)]
theorem a_chk_law_26 : a_chk [(code, a_law_26)] = true := f_chkA (p := 1712) (by decide +kernel)
def a_law_27 : List (Nat × Instr × Nat) := [(1773, .iconst 1, 1), (1774, .iadd, 1), (1775, .iaload, 1), (1776, .invokevirtual 310, 3), (1779, .istore 7, 2), (1781, .goto 247, 3), (1784, .aload_n 1, 1), (1785, .aload_n 0, 1), (1786, .iload 5, 2), (1788, .iconst 1, 1), (1789, .iadd, 1), (1790, .iaload, 1), (1791, .aload_n 0, 1), (1792, .iload 5, 2), (1794, .iconst 2, 1), (1795, .iadd, 1), (1796, .iaload, 1), (1797, .aload_n 0, 1), (1798, .iload 5, 2), (1800, .iconst 3, 1), (1801, .iadd, 1), (1802, .iaload, 1), (1803, .aload_n 0, 1), (1804, .iload 5, 2), (1806, .iconst 4, 1), (1807, .iadd, 1), (1808, .iaload, 1), (1809, .aload_n 0, 1), (1810, .iload 5, 2), (1812, .iconst 5, 1), (1813, .iadd, 1), (1814, .iaload, 1), (1815, .aload_n 3, 1), (1816, .invokestatic 311, 3), (1819, .istore 6, 2), (1821, .aload_n 2, 1), (1822, .aload_n 0, 1), (1823, .iload 5, 2), (1825, .iconst 1, 1), (1826, .iadd, 1)]
theorem a_chk_law_27 : a_chk [(code, a_law_27)] = true := f_chkA (p := 1773) (by decide +kernel)
def a_law_28 : List (Nat × Instr × Nat) := [(1827, .iaload, 1), (1828, .aload_n 0, 1), (1829, .iload 5, 2), (1831, .iconst 2, 1), (1832, .iadd, 1), (1833, .iaload, 1), (1834, .aload_n 0, 1), (1835, .iload 5, 2), (1837, .iconst 3, 1), (1838, .iadd, 1), (1839, .iaload, 1), (1840, .aload_n 0, 1), (1841, .iload 5, 2), (1843, .iconst 4, 1), (1844, .iadd, 1), (1845, .iaload, 1), (1846, .aload_n 0, 1), (1847, .iload 5, 2), (1849, .iconst 5, 1), (1850, .iadd, 1), (1851, .iaload, 1), (1852, .invokevirtual 314, 3), (1855, .istore 7, 2), (1857, .goto 171, 3), (1860, .aload_n 1, 1), (1861, .aload_n 0, 1), (1862, .iload 5, 2), (1864, .iconst 1, 1), (1865, .iadd, 1), (1866, .iaload, 1), (1867, .aload_n 0, 1), (1868, .iload 5, 2), (1870, .iconst 2, 1), (1871, .iadd, 1), (1872, .iaload, 1), (1873, .aload_n 0, 1), (1874, .iload 5, 2), (1876, .iconst 3, 1), (1877, .iadd, 1), (1878, .iaload, 1)]
theorem a_chk_law_28 : a_chk [(code, a_law_28)] = true := f_chkA (p := 1827) (by decide +kernel)
def a_law_29 : List (Nat × Instr × Nat) := [(1879, .aload_n 3, 1), (1880, .invokestatic 315, 3), (1883, .istore 6, 2), (1885, .aload_n 2, 1), (1886, .aload_n 0, 1), (1887, .iload 5, 2), (1889, .iconst 1, 1), (1890, .iadd, 1), (1891, .iaload, 1), (1892, .aload_n 0, 1), (1893, .iload 5, 2), (1895, .iconst 2, 1), (1896, .iadd, 1), (1897, .iaload, 1), (1898, .aload_n 0, 1), (1899, .iload 5, 2), (1901, .iconst 3, 1), (1902, .iadd, 1), (1903, .iaload, 1), (1904, .invokevirtual 317, 3), (1907, .istore 7, 2), (1909, .goto 119, 3), (1912, .aload_n 1, 1), (1913, .aload_n 0, 1), (1914, .iload 5, 2), (1916, .iconst 1, 1), (1917, .iadd, 1), (1918, .iaload, 1), (1919, .aload_n 0, 1), (1920, .iload 5, 2), (1922, .iconst 2, 1), (1923, .iadd, 1), (1924, .iaload, 1), (1925, .ifCond .eq 7, 3), (1928, .iconst 1, 1), (1929, .goto 4, 3), (1932, .iconst 0, 1), (1933, .aload_n 3, 1), (1934, .invokestatic 318, 3), (1937, .istore 6, 2)]
theorem a_chk_law_29 : a_chk [(code, a_law_29)] = true := f_chkA (p := 1879) (by decide +kernel)
def a_law_30 : List (Nat × Instr × Nat) := [(1939, .aload_n 2, 1), (1940, .aload_n 0, 1), (1941, .iload 5, 2), (1943, .iconst 1, 1), (1944, .iadd, 1), (1945, .iaload, 1), (1946, .aload_n 0, 1), (1947, .iload 5, 2), (1949, .iconst 2, 1), (1950, .iadd, 1), (1951, .iaload, 1), (1952, .ifCond .eq 7, 3), (1955, .iconst 1, 1), (1956, .goto 4, 3), (1959, .iconst 0, 1), (1960, .invokevirtual 320, 3), (1963, .istore 7, 2), (1965, .goto 63, 3), (1968, .aload_n 1, 1), (1969, .invokevirtual 321, 3), (1972, .pop2, 1), (1973, .aload_n 2, 1), (1974, .invokevirtual 325, 3), (1977, .pop2, 1), (1978, .goto 50, 3), (1981, .aload_n 1, 1), (1982, .aload 4, 2), (1984, .invokestatic 326, 3), (1987, .istore 6, 2), (1989, .aload_n 2, 1), (1990, .invokevirtual 329, 3), (1993, .fstore 7, 2), (1995, .goto 33, 3), (1998, .aload_n 1, 1), (1999, .aload 4, 2), (2001, .invokestatic 330, 3), (2004, .istore 6, 2), (2006, .aload_n 2, 1), (2007, .invokevirtual 332, 3), (2010, .dstore 7, 2)]
theorem a_chk_law_30 : a_chk [(code, a_law_30)] = true := f_chkA (p := 1939) (by decide +kernel)
def a_law_31 : List (Nat × Instr × Nat) := [(2012, .goto 16, 3), (2015, .aload_n 1, 1), (2016, .invokevirtual 333, 3), (2019, .aload_n 2, 1), (2020, .invokevirtual 337, 3), (2023, .if_icmp .eq 5, 3), (2026, .iconst 0, 1), (2027, .ireturn, 1), (2028, .iinc 5 6, 3), (2031, .goto (-2003), 3), (2034, .iconst 1, 1), (2035, .ireturn, 1)]
theorem a_chk_law_31 : a_chk [(code, a_law_31)] = true := f_chkA (p := 2012) (by decide +kernel)
def a_lawP : List (Nat × Instr × Nat) := a_law_0 ++ (a_law_1 ++ (a_law_2 ++ (a_law_3 ++ (a_law_4 ++ (a_law_5 ++ (a_law_6 ++ (a_law_7 ++ (a_law_8 ++ (a_law_9 ++ (a_law_10 ++ (a_law_11 ++ (a_law_12 ++ (a_law_13 ++ (a_law_14 ++ (a_law_15 ++ (a_law_16 ++ (a_law_17 ++ (a_law_18 ++ (a_law_19 ++ (a_law_20 ++ (a_law_21 ++ (a_law_22 ++ (a_law_23 ++ (a_law_24 ++ (a_law_25 ++ (a_law_26 ++ (a_law_27 ++ (a_law_28 ++ (a_law_29 ++ (a_law_30 ++ (a_law_31)))))))))))))))))))))))))))))))
theorem a_chk_lawP : a_chk [(code, a_lawP)] = true := by
  simp only [a_chk, List.all_cons, List.all_nil, Bool.and_true, a_lawP, List.all_append, Bool.and_eq_true]
  have key : ∀ L : List (Nat × Instr × Nat), a_chk [(code, L)] = true → (L.all fun e => decide (decode code e.1 = .ok e.2)) = true := fun L h => by simpa [a_chk] using h
  exact ⟨key _ a_chk_law_0, ⟨key _ a_chk_law_1, ⟨key _ a_chk_law_2, ⟨key _ a_chk_law_3, ⟨key _ a_chk_law_4, ⟨key _ a_chk_law_5, ⟨key _ a_chk_law_6, ⟨key _ a_chk_law_7, ⟨key _ a_chk_law_8, ⟨key _ a_chk_law_9, ⟨key _ a_chk_law_10, ⟨key _ a_chk_law_11, ⟨key _ a_chk_law_12, ⟨key _ a_chk_law_13, ⟨key _ a_chk_law_14, ⟨key _ a_chk_law_15, ⟨key _ a_chk_law_16, ⟨key _ a_chk_law_17, ⟨key _ a_chk_law_18, ⟨key _ a_chk_law_19, ⟨key _ a_chk_law_20, ⟨key _ a_chk_law_21, ⟨key _ a_chk_law_22, ⟨key _ a_chk_law_23, ⟨key _ a_chk_law_24, ⟨key _ a_chk_law_25, ⟨key _ a_chk_law_26, ⟨key _ a_chk_law_27, ⟨key _ a_chk_law_28, ⟨key _ a_chk_law_29, ⟨key _ a_chk_law_30, key _ a_chk_law_31⟩⟩⟩⟩⟩⟩⟩⟩⟩⟩⟩⟩⟩⟩⟩⟩⟩⟩⟩⟩⟩⟩⟩⟩⟩⟩⟩⟩⟩⟩⟩
end
/-! part 04.am -/
section
/-! An abstract machine: a heap is a list of (tag, contents), a reference is a place in it. Tags: below 19 an object of that class, 19 the script, from 20 on an array (a_aty). -/
abbrev AC : Type := Nat × List Value
abbrev AH : Type := List AC
abbrev AL : Type := List (Option Value)
/-- what a run of a method comes to: its result or the exception's number, the heap, cells and slots made -/
abbrev AR : Type := ((Option Value) ⊕ Nat) × AH × Nat × Nat
def a_cN (c : Nat) : String := (a_cls.getD c ("", [])).1
def a_cF (c : Nat) : List (String × String × Bool) := (a_cls.getD c ("", [])).2
def a_cT (c : Nat) : u_T := fun k => match (a_cF c)[k]? with
  | some (n, d, f) => (a_cN c, n, d, f)
  | none => ("", "", "", false)
def a_cl (c : Nat) : Nat := (a_cF c).length
def a_ty (d : String) : FieldType := (parseFieldDescriptor d).getD .int
def a_fty (c k : Nat) : FieldType := a_ty (a_cT c k).2.2.1
def a_atys : List FieldType := [.int, .int, .boolean, .char, .long, .double, .object "Juryreel$Film", .object "Juryreel$Show", .object "Juryreel$Juror", .object "Juryreel$Section", .array .int, .array .boolean, .array (.array .int), .array (.array .boolean)]
/-- the component type of the arrays of a tag -/
def a_aty (t : Nat) : Option FieldType := if t < 19 then none else a_atys[t - 19]?
def a_atag (ty : FieldType) : Nat := 20 + (a_atys.tail.idxOf ty)
def a_ren (ad : Nat → Nat) : Value → Value
  | .ref a => .ref (ad a)
  | v => v
def a_get (al : AL) (i : Nat) : Option Value := (al[i]?).getD none
/-- a store at i takes away a wide value that begins one place below -/
def a_kill (al : AL) (i : Nat) : AL := match i with
  | 0 => al
  | j + 1 => if (a_get al j).any (fun v => v.category == 2) then al.set j none else al
def a_set1 (al : AL) (i : Nat) (v : Value) : AL := (a_kill al i).set i (some v)
def a_set2 (al : AL) (i : Nat) (v : Value) : AL := ((a_kill al i).set i (some v)).set (i + 1) none
def a_sto (al : AL) (i : Nat) (v : Value) : Option AL :=
  if v.category = 2 then (if i + 1 < al.length then some (a_set2 al i v) else none) else (if i < al.length then some (a_set1 al i v) else none)
def a_tgt (pc : Nat) (off : Int) : Option Nat := if 0 ≤ (pc : Int) + off then some ((pc : Int) + off).toNat else none
def a_br (pc : Nat) (b : Bool) (off : Int) : Option Nat := (a_tgt pc off).map (fun t => if b = true then t else pc + 3)
def a_if1 (c : Jvm.ClassFile.Cond) (x : Int32) : Bool := match c with
  | .eq => decide (x = 0)
  | .ne => !decide (x = 0)
  | .lt => decide (x < 0)
  | .ge => decide (0 ≤ x)
  | .gt => decide (0 < x)
  | .le => decide (x ≤ 0)
def a_if2 (c : Jvm.ClassFile.Cond) (x y : Int32) : Bool := match c with
  | .eq => decide (x = y)
  | .ne => !decide (x = y)
  | .lt => decide (x < y)
  | .ge => decide (y ≤ x)
  | .gt => decide (y < x)
  | .le => decide (x ≤ y)
/-- int arithmetic: x below y on the stack -/
def a_bin (i : Instr) (x y : Int32) : Option Int32 := match i with
  | .iadd => some (x + y)
  | .isub => some (x - y)
  | .imul => some (x * y)
  | .iand => some (x &&& y)
  | .ior => some (x ||| y)
  | .idiv => if y = 0 then none else some (x / y)
  | .irem => if y = 0 then none else some (x - x / y * y)
  | _ => none
def a_const (i : Instr) : Option Value := match i with
  | .iconst n => some (.int (Int32.ofInt n))
  | .bipush n => some (.int (Int8.ofInt n).toInt32)
  | .sipush n => some (.int (Int16.ofInt n).toInt32)
  | .lconst n => some (.long (Int64.ofNat (n : Nat)))
  | .fconst n => if n = 0 then some (.float FP.fconst0) else none
  | .dconst n => if n = 0 then some (.double FP.dconst0) else none
  | _ => none
/-- loads: the local, and its kind (0 int, 1 long, 2 float, 3 double, 4 reference) -/
def a_load (i : Instr) : Option (Nat × Nat) := match i with
  | .iload k => some (k, 0)
  | .iload_n k => some ((k : Nat), 0)
  | .lload k => some (k, 1)
  | .lload_n k => some ((k : Nat), 1)
  | .fload k => some (k, 2)
  | .dload k => some (k, 3)
  | .aload k => some (k, 4)
  | .aload_n k => some ((k : Nat), 4)
  | _ => none
def a_store (i : Instr) : Option (Nat × Nat) := match i with
  | .istore k => some (k, 0)
  | .istore_n k => some ((k : Nat), 0)
  | .lstore k => some (k, 1)
  | .lstore_n k => some ((k : Nat), 1)
  | .fstore k => some (k, 2)
  | .dstore k => some (k, 3)
  | .astore k => some (k, 4)
  | .astore_n k => some ((k : Nat), 4)
  | _ => none
def a_kind (v : Value) : Nat := match v with
  | .int _ => 0
  | .long _ => 1
  | .float _ => 2
  | .double _ => 3
  | .ref _ => 4
  | _ => 5
/-- a list of a table that belongs to a class -/
def a_of {α : Type} (t : List (List α)) (own : Nat) : List α := t.getD own []
def a_field (own idx : Nat) : Option (Nat × Nat) := ((a_of a_fld own).find? (fun e => e.1 == idx)).map (fun e => (e.2.1, e.2.2.1))
/-- the places of an array that an index names -/
def a_ix (j : Int32) (n : Nat) : Option Nat := if j < 0 ∨ n ≤ j.toNatClampNeg then none else some j.toNatClampNeg
/-- which tags an array load or store of this kind takes, and what is written of x -/
def a_ald (i : Instr) (t : Nat) : Bool := match i with
  | .iaload => decide (a_aty t = some .int)
  | .baload => decide (a_aty t = some .boolean)
  | .caload => decide (a_aty t = some .char)
  | .laload => decide (a_aty t = some .long)
  | .daload => decide (a_aty t = some .double)
  | .aaload => (a_aty t).any FieldType.isReference
  | _ => false
def a_ast (i : Instr) (t : Nat) (x : Value) : Option Value := match i, x with
  | .iastore, .int x => if t ≠ 19 ∧ a_aty t = some .int then some (.int x) else none
  | .bastore, .int x => if a_aty t = some .boolean then some (narrow .boolean (.int x)) else none
  | .castore, .int x => if a_aty t = some .char then some (narrow .char (.int x)) else none
  | .lastore, .long x => if a_aty t = some .long then some (.long x) else none
  | .dastore, .double x => if a_aty t = some .double then some (.double x) else none
  | _, _ => none
def a_len (i : Instr) : Nat := match i with
  | .bipush _ | .ldc _ | .iload _ | .lload _ | .fload _ | .dload _ | .aload _ | .istore _ | .lstore _ | .fstore _ | .dstore _ | .astore _ | .newarray _ => 2
  | .sipush _ | .ldc_w _ | .ldc2_w _ | .getfield _ | .putfield _ | .invokevirtual _ | .invokestatic _ | .invokespecial _ | .new _ | .anewarray _ | .goto _ | .ifCond .. | .if_icmp .. | .if_acmp .. | .iinc .. => 3
  | .multianewarray .. => 4
  | _ => 1
abbrev AS : Type := Nat × AL × List Value × AH × Nat × Nat
/-- constants, locals, jumps, the stack -/
def a_st1 (i : Instr) (pc : Nat) (al : AL) (st : List Value) (h : AH) : Option AS :=
  match a_const i with
  | some v => some (pc + a_len i, al, v :: st, h, 0, 0)
  | none => match a_load i with
  | some (k, kd) => match a_get al k with
    | some v => if a_kind v = kd then some (pc + a_len i, al, v :: st, h, 0, 0) else none
    | none => none
  | none => match a_store i with
  | some (k, kd) => match st with
    | v :: st => if a_kind v = kd then (a_sto al k v).map (fun al' => (pc + a_len i, al', st, h, 0, 0)) else none
    | [] => none
  | none => match i, st with
  | .iinc k n, st => match a_get al k with
    | some (.int x) => (a_sto al k (.int (x + Int32.ofInt n))).map (fun al' => (pc + 3, al', st, h, 0, 0))
    | _ => none
  | .goto off, st => (a_tgt pc off).map (fun t => (t, al, st, h, 0, 0))
  | .ifCond c off, .int x :: st => (a_br pc (a_if1 c x) off).map (fun t => (t, al, st, h, 0, 0))
  | .if_icmp c off, .int y :: .int x :: st => (a_br pc (a_if2 c x y) off).map (fun t => (t, al, st, h, 0, 0))
  | .if_acmp .eq off, .ref y :: .ref x :: st => if x < h.length ∧ y < h.length then (a_br pc (decide (x = y)) off).map (fun t => (t, al, st, h, 0, 0)) else none
  | .dup, v :: st => if v.category = 1 then some (pc + 1, al, v :: v :: st, h, 0, 0) else none
  | .dup2, v :: u :: st => if v.category = 1 ∧ u.category = 1 then some (pc + 1, al, v :: u :: v :: u :: st, h, 0, 0) else none
  | .pop, v :: st => if v.category = 1 then some (pc + 1, al, st, h, 0, 0) else none
  | _, _ => none
/-- arithmetic -/
def a_st2 (i : Instr) (pc : Nat) (al : AL) (st : List Value) (h : AH) : Option AS := match i, st with
  | .i2l, .int x :: st => some (pc + 1, al, .long x.toInt64 :: st, h, 0, 0)
  | .i2c, .int x :: st => some (pc + 1, al, .int (x.toUInt32 % 65536).toInt32 :: st, h, 0, 0)
  | .i2f, .int x :: st => some (pc + 1, al, .float (FP.i2f x) :: st, h, 0, 0)
  | .i2d, .int x :: st => some (pc + 1, al, .double (FP.i2d x) :: st, h, 0, 0)
  | .f2d, .float x :: st => if FP.f2d x &&& 0x7fffffffffffffff ≤ 0x7ff0000000000000 then some (pc + 1, al, .double (FP.f2d x) :: st, h, 0, 0) else none
  | .ladd, .long y :: .long x :: st => some (pc + 1, al, .long (x + y) :: st, h, 0, 0)
  | .lmul, .long y :: .long x :: st => some (pc + 1, al, .long (x * y) :: st, h, 0, 0)
  | .lcmp, .long y :: .long x :: st => some (pc + 1, al, .int (lg_cmp x y) :: st, h, 0, 0)
  | .fdiv, .float y :: .float x :: st => if FP.fdiv x y &&& 0x7fffffff ≤ 0x7f800000 then some (pc + 1, al, .float (FP.fdiv x y) :: st, h, 0, 0) else none
  | .ddiv, .double y :: .double x :: st => if FP.ddiv x y &&& 0x7fffffffffffffff ≤ 0x7ff0000000000000 then some (pc + 1, al, .double (FP.ddiv x y) :: st, h, 0, 0) else none
  | .fcmp op, .float y :: .float x :: st => some (pc + 1, al, .int (Op.cmpValue (FP.fcmp x y) op) :: st, h, 0, 0)
  | .dcmp op, .double y :: .double x :: st => some (pc + 1, al, .int (Op.cmpValue (FP.dcmp x y) op) :: st, h, 0, 0)
  | i, .int y :: .int x :: st => (a_bin i x y).map (fun v => (pc + 1, al, .int v :: st, h, 0, 0))
  | _, _ => none
/-- array loads -/
def a_st3 (i : Instr) (pc : Nat) (al : AL) (st : List Value) (h : AH) : Option AS := match st with
  | .int j :: .ref a :: st => match h[a]? with
    | some (t, vs) => if a_ald i t = true then (a_ix j vs.length).bind (fun n => (vs[n]?).map (fun v => (pc + 1, al, v :: st, h, 0, 0))) else none
    | none => none
  | _ => none
/-- array stores, an array's length, fields, constants out of the pool -/
def a_st4 (own : Nat) (ini : Bool) (i : Instr) (pc : Nat) (al : AL) (st : List Value) (h : AH) : Option AS := match i, st with
  | .arraylength, .ref a :: st => match h[a]? with
    | some (t, vs) => if (a_aty t).isSome then some (pc + 1, al, .int vs.length.toInt32 :: st, h, 0, 0) else none
    | none => none
  | .ldc idx, st => ((a_of a_cst own).find? (fun e => e.1 == idx)).map (fun e => (pc + 2, al, .int e.2.1 :: st, h, 0, 0))
  | .ldc_w idx, st => ((a_of a_cst own).find? (fun e => e.1 == idx)).map (fun e => (pc + 3, al, .int e.2.1 :: st, h, 0, 0))
  | .ldc2_w idx, st => ((a_of a_csl own).find? (fun e => e.1 == idx)).map (fun e => (pc + 3, al, .long e.2.1 :: st, h, 0, 0))
  | .getfield idx, .ref a :: st => match a_field own idx with
    | some (ci, k) => match h[a]? with
      | some (t, vs) => if t = ci then (vs[k]?).map (fun v => (pc + 3, al, v :: st, h, 0, 0)) else none
      | none => none
    | none => none
  | .putfield idx, v :: .ref a :: st => match a_field own idx with
    | some (ci, k) => match h[a]? with
      | some (t, vs) => if t = ci ∧ k < vs.length ∧ narrow (a_fty ci k) v = v ∧ fits (a_fty ci k) v = true ∧ ((a_cT ci k).2.2.2 = false ∨ (ini = true ∧ own = ci)) then some (pc + 3, al, st, h.set a (t, vs.set k v), 0, 0) else none
      | none => none
    | none => none
  | i, x :: .int j :: .ref a :: st => match h[a]? with
    | some (t, vs) => match a_ast i t x with
      | some v => (a_ix j vs.length).map (fun n => (pc + 1, al, st, h.set a (t, vs.set n v), 0, 0))
      | none => none
    | none => none
  | _, _ => none
end
/-! part 05.sound -/
section
/-! The abstract machine's steps are the machine's: locals and stack -/
theorem a_ren_cat (ad : Nat → Nat) (v : Value) : (a_ren ad v).category = v.category := by cases v <;> rfl
def a_lv (ad : Nat → Nat) (al : AL) : List (Nat × Value) := (List.range al.length).filterMap (fun i => (a_get al i).map (fun v => (i, a_ren ad v)))
def a_L (ad : Nat → Nat) (al : AL) (ls : Array Slot) : Prop := ls.size = al.length ∧ lv_wf ls ∧ ∀ (i : Nat) (v : Value), a_get al i = some v → ls[i]? = some (.val (a_ren ad v))
theorem a_get_lt {al : AL} {i : Nat} {v : Value} (h : a_get al i = some v) : i < al.length := by
  rcases Nat.lt_or_ge i al.length with q | q
  · exact q
  · unfold a_get at h
    rw [List.getElem?_eq_none q] at h
    cases h
theorem a_lv_mem {ad : Nat → Nat} {al : AL} {i : Nat} {w : Value} : (i, w) ∈ a_lv ad al ↔ ∃ v, a_get al i = some v ∧ w = a_ren ad v := by
  unfold a_lv
  rw [List.mem_filterMap]
  constructor
  · rintro ⟨j, -, hj⟩
    rw [Option.map_eq_some_iff] at hj
    obtain ⟨v, h1, h2⟩ := hj
    cases h2
    exact ⟨v, h1, rfl⟩
  · rintro ⟨v, h1, rfl⟩
    exact ⟨i, List.mem_range.mpr (a_get_lt h1), by rw [h1]; rfl⟩
theorem a_L.has {ad : Nat → Nat} {al : AL} {ls : Array Slot} (h : a_L ad al ls) : lv_has ls al.length (a_lv ad al) := by
  refine ⟨h.1, h.2.1, fun q hq => ?_⟩
  obtain ⟨i, w⟩ := q
  obtain ⟨v, h1, rfl⟩ := a_lv_mem.mp hq
  exact h.2.2 i v h1
theorem a_get_set {al : AL} {i j : Nat} {o : Option Value} : a_get (al.set i o) j = if i = j ∧ j < al.length then o else a_get al j := by
  unfold a_get
  rw [List.getElem?_set]
  by_cases h : i = j
  · subst h
    by_cases h2 : i < al.length
    · simp [h2]
    · simp [h2]
  · simp [h]
theorem a_kill_len (al : AL) (i : Nat) : (a_kill al i).length = al.length := by
  unfold a_kill
  split
  · rfl
  · split
    · rw [List.length_set]
    · rfl
theorem a_kill_get {al : AL} {i j : Nat} {v : Value} (h : a_get (a_kill al i) j = some v) : a_get al j = some v ∧ ¬ (j + 1 = i ∧ v.category = 2) := by
  unfold a_kill at h
  split at h
  · exact ⟨h, fun q => by omega⟩
  · rename_i k
    split at h
    · rename_i h2
      rw [a_get_set] at h
      split at h
      · cases h
      · rename_i h3
        refine ⟨h, fun q => h3 ⟨by omega, a_get_lt h⟩⟩
    · rename_i h2
      refine ⟨h, fun q => h2 ?_⟩
      have e : j = k := by omega
      subst e
      rw [h]
      simp [q.2]
theorem a_L.set1 {ad : Nat → Nat} {al : AL} {ls : Array Slot} {i n : Nat} {v : Value} (hn : al.length = n) (hi : i < n) (h : lv_has ls n ((i, a_ren ad v) :: (a_lv ad al).filter (fun q => !(q.1 == i) && !(q.1 + 1 == i && q.2.category == 2)))) : a_L ad (a_set1 al i v) ls := by
  refine ⟨by rw [h.1, a_set1, List.length_set, a_kill_len, hn], h.2.1, fun j w hj => ?_⟩
  unfold a_set1 at hj
  rw [a_get_set] at hj
  split at hj
  · rename_i h1
    cases hj
    exact h.2.2 (j, a_ren ad v) (by rw [h1.1]; exact List.mem_cons_self)
  · rename_i h1
    rw [a_kill_len, hn] at h1
    obtain ⟨h2, h3⟩ := a_kill_get hj
    have h4 := a_get_lt h2
    refine h.2.2 (j, a_ren ad w) (List.mem_cons_of_mem _ (List.mem_filter.mpr ⟨a_lv_mem.mpr ⟨w, h2, rfl⟩, ?_⟩))
    have h5 : ¬ j = i := fun q => h1 ⟨q.symm, by omega⟩
    simp only [a_ren_cat]
    by_cases h6 : j + 1 = i
    · have h7 : ¬ w.category = 2 := fun q => h3 ⟨h6, q⟩
      simp [h5, h7]
    · simp [h5, h6]
theorem a_L.set2 {ad : Nat → Nat} {al : AL} {ls : Array Slot} {i n : Nat} {v : Value} (hn : al.length = n) (hi : i + 1 < n) (h : lv_has ls n ((i, a_ren ad v) :: (a_lv ad al).filter (fun q => !(q.1 == i) && (!(q.1 == i + 1) && !(q.1 + 1 == i && q.2.category == 2))))) : a_L ad (a_set2 al i v) ls := by
  refine ⟨by rw [h.1, a_set2, List.length_set, List.length_set, a_kill_len, hn], h.2.1, fun j w hj => ?_⟩
  unfold a_set2 at hj
  rw [a_get_set] at hj
  split at hj
  · cases hj
  · rename_i h0
    rw [List.length_set, a_kill_len, hn] at h0
    rw [a_get_set] at hj
    split at hj
    · rename_i h1
      cases hj
      exact h.2.2 (j, a_ren ad v) (by rw [h1.1]; exact List.mem_cons_self)
    · rename_i h1
      rw [a_kill_len, hn] at h1
      obtain ⟨h2, h3⟩ := a_kill_get hj
      have h4 := a_get_lt h2
      refine h.2.2 (j, a_ren ad w) (List.mem_cons_of_mem _ (List.mem_filter.mpr ⟨a_lv_mem.mpr ⟨w, h2, rfl⟩, ?_⟩))
      have h5 : ¬ j = i := fun q => h1 ⟨q.symm, by omega⟩
      have h8 : ¬ j = i + 1 := fun q => h0 ⟨q.symm, by omega⟩
      simp only [a_ren_cat]
      by_cases h6 : j + 1 = i
      · have h7 : ¬ w.category = 2 := fun q => h3 ⟨h6, q⟩
        simp [h5, h7, h8]
      · simp [h5, h6, h8]
theorem a_tgt_ok {pc t : Nat} {off : Int} (h : a_tgt pc off = some t) : (pc : Int) + off = (t : Int) := by
  unfold a_tgt at h
  split at h
  · rename_i h1
    cases h
    omega
  · cases h

section AW
variable {p : Program} {l : Launch} {e : Env} {R : Room} {s : State} {m : MethodId} {args : Array Value} {below : List Frame} {meth : Method} {c : Code} {H : Heap} {locs : List Loc} {cells slots : Nat} {Q : State → Prop} {cc : ByteArray} {pc : Nat} {ls : Array Slot} {rest : List Value} {i : Instr}
theorem a_const_ok (hx : p.tables.exec = Jvm.exec) (hb : c.code = cc) (hdg : decode cc pc = .ok (i, a_len i)) {v : Value} (h : a_const i = some v) (ad : Nat → Nat) (k : W p l e R s m args below meth c H locs cells slots Q (F0 m (pc + a_len i) ls (a_ren ad v :: rest))) : W p l e R s m args below meth c H locs cells slots Q (F0 m pc ls rest) := by
  cases i <;> simp only [a_const] at h <;> (try (cases h; done))
  · cases h; exact lv_bipush hx hb hdg rfl k
  · rename_i n
    split at h
    · rename_i h1; subst h1; cases h; exact lv_dconst0 hx hb hdg k
    · cases h
  · rename_i n
    split at h
    · rename_i h1; subst h1; cases h; exact lv_fconst0 hx hb hdg k
    · cases h
  · cases h; exact lv_iconst hx hb hdg rfl k
  · cases h; exact lv_lconst hx hb hdg rfl k
  · cases h; exact lv_sipush hx hb hdg rfl k
theorem a_load_ok (hx : p.tables.exec = Jvm.exec) (hb : c.code = cc) (hdg : decode cc pc = .ok (i, a_len i)) {j kd : Nat} {v : Value} (h : a_load i = some (j, kd)) (hk : a_kind v = kd) {ad : Nat → Nat} (hl : ls[j]? = some (.val (a_ren ad v))) (k : W p l e R s m args below meth c H locs cells slots Q (F0 m (pc + a_len i) ls (a_ren ad v :: rest))) : W p l e R s m args below meth c H locs cells slots Q (F0 m pc ls rest) := by
  cases i <;> simp only [a_load] at h <;> (try (cases h; done)) <;> cases h <;> cases v <;> (try (cases hk; done))
  · exact lv_aload hx hb hdg hl k
  · exact lv_aload_n hx hb hdg rfl hl k
  · exact lv_dload hx hb hdg hl k
  · exact lv_fload hx hb hdg hl k
  · exact lv_iload hx hb hdg hl k
  · exact lv_iload_n hx hb hdg rfl hl k
  · exact lv_lload hx hb hdg hl k
  · exact lv_lload_n hx hb hdg rfl hl k
theorem a_sto1 {al al' : AL} {j : Nat} {v : Value} (hc : v.category = 1) (h : a_sto al j v = some al') : j < al.length ∧ a_set1 al j v = al' := by
  unfold a_sto at h
  rw [hc, if_neg (by decide)] at h
  split at h
  · cases h; exact ⟨by assumption, rfl⟩
  · cases h
theorem a_sto2 {al al' : AL} {j : Nat} {v : Value} (hc : v.category = 2) (h : a_sto al j v = some al') : j + 1 < al.length ∧ a_set2 al j v = al' := by
  unfold a_sto at h
  rw [hc, if_pos rfl] at h
  split at h
  · cases h; exact ⟨by assumption, rfl⟩
  · cases h
theorem a_store_ok (hx : p.tables.exec = Jvm.exec) (hb : c.code = cc) (hdg : decode cc pc = .ok (i, a_len i)) {j kd : Nat} {v : Value} {al al' : AL} (h : a_store i = some (j, kd)) (hk : a_kind v = kd) {ad : Nat → Nat} (hs : a_sto al j v = some al') (hl : a_L ad al ls) (k : ∀ ls' : Array Slot, a_L ad al' ls' → W p l e R s m args below meth c H locs cells slots Q (F0 m (pc + a_len i) ls' rest)) : W p l e R s m args below meth c H locs cells slots Q (F0 m pc ls (a_ren ad v :: rest)) := by
  cases i <;> simp only [a_store] at h <;> (try (cases h; done)) <;> cases h <;> cases v <;> (try (cases hk; done))
  · obtain ⟨hj, rfl⟩ := a_sto1 rfl hs; exact lv_astore hx hb hdg hl.has hj rfl (fun ls' q => k ls' (a_L.set1 (v := .ref _) rfl hj q))
  · obtain ⟨hj, rfl⟩ := a_sto1 rfl hs; exact lv_astore_n hx hb hdg rfl hl.has hj rfl (fun ls' q => k ls' (a_L.set1 (v := .ref _) rfl hj q))
  · obtain ⟨hj, rfl⟩ := a_sto2 rfl hs; exact lv_dstore hx hb hdg hl.has hj rfl (fun ls' q => k ls' (a_L.set2 (v := .double _) rfl hj q))
  · obtain ⟨hj, rfl⟩ := a_sto1 rfl hs; exact lv_fstore hx hb hdg hl.has hj rfl (fun ls' q => k ls' (a_L.set1 (v := .float _) rfl hj q))
  · obtain ⟨hj, rfl⟩ := a_sto1 rfl hs; exact lv_istore hx hb hdg hl.has hj rfl (fun ls' q => k ls' (a_L.set1 (v := .int _) rfl hj q))
  · obtain ⟨hj, rfl⟩ := a_sto1 rfl hs; exact lv_istore_n hx hb hdg rfl hl.has hj rfl (fun ls' q => k ls' (a_L.set1 (v := .int _) rfl hj q))
  · obtain ⟨hj, rfl⟩ := a_sto2 rfl hs; exact lv_lstore hx hb hdg hl.has hj rfl (fun ls' q => k ls' (a_L.set2 (v := .long _) rfl hj q))
  · obtain ⟨hj, rfl⟩ := a_sto2 rfl hs; exact lv_lstore_n hx hb hdg rfl hl.has hj rfl (fun ls' q => k ls' (a_L.set2 (v := .long _) rfl hj q))
theorem a_br_ok {b : Bool} {off : Int} {t : Nat} (h : a_br pc b off = some t) : ∃ t0 : Nat, (pc : Int) + off = (t0 : Int) ∧ (b = true → t = t0) ∧ (b = false → t = pc + 3) := by
  unfold a_br at h
  rw [Option.map_eq_some_iff] at h
  obtain ⟨t0, h1, h2⟩ := h
  refine ⟨t0, a_tgt_ok h1, fun hb => ?_, fun hb => ?_⟩
  · rw [hb, if_pos rfl] at h2; exact h2.symm
  · rw [hb, if_neg (by decide)] at h2; exact h2.symm
theorem a_if1_ok (hx : p.tables.exec = Jvm.exec) (hb : c.code = cc) {k : Jvm.ClassFile.Cond} {off : Int} {x : Int32} {t : Nat} (hdg : decode cc pc = .ok (.ifCond k off, 3)) (h : a_br pc (a_if1 k x) off = some t) (kk : W p l e R s m args below meth c H locs cells slots Q (F0 m t ls rest)) : W p l e R s m args below meth c H locs cells slots Q (F0 m pc ls (.int x :: rest)) := by
  obtain ⟨t0, h0, h1, h2⟩ := a_br_ok h
  cases k
  · exact lv_if_eq hx hb hdg h0 (fun q => by rw [← h1 (by simp [a_if1, q])]; exact kk) (fun q => by rw [← h2 (by simp [a_if1, q])]; exact kk)
  · exact lv_if_ne hx hb hdg h0 (fun q => by rw [← h1 (by simp [a_if1, q])]; exact kk) (fun q => by rw [← h2 (by simp [a_if1, q])]; exact kk)
  · exact lv_if_lt hx hb hdg h0 (fun q => by rw [← h1 (by simp only [a_if1, q, decide_true])]; exact kk) (fun q => by rw [← h2 (by simp only [a_if1, q, decide_false])]; exact kk)
  · exact lv_if_ge hx hb hdg h0 (fun q => by rw [← h1 (by simp only [a_if1, q, decide_true])]; exact kk) (fun q => by rw [← h2 (by simp only [a_if1, q, decide_false])]; exact kk)
  · exact lv_if_gt hx hb hdg h0 (fun q => by rw [← h1 (by simp only [a_if1, q, decide_true])]; exact kk) (fun q => by rw [← h2 (by simp only [a_if1, q, decide_false])]; exact kk)
  · exact lv_if_le hx hb hdg h0 (fun q => by rw [← h1 (by simp only [a_if1, q, decide_true])]; exact kk) (fun q => by rw [← h2 (by simp only [a_if1, q, decide_false])]; exact kk)
theorem a_if2_ok (hx : p.tables.exec = Jvm.exec) (hb : c.code = cc) {k : Jvm.ClassFile.Cond} {off : Int} {x y : Int32} {t : Nat} (hdg : decode cc pc = .ok (.if_icmp k off, 3)) (h : a_br pc (a_if2 k x y) off = some t) (kk : W p l e R s m args below meth c H locs cells slots Q (F0 m t ls rest)) : W p l e R s m args below meth c H locs cells slots Q (F0 m pc ls (.int y :: .int x :: rest)) := by
  obtain ⟨t0, h0, h1, h2⟩ := a_br_ok h
  cases k
  · exact lv_icmp_eq hx hb hdg h0 (fun q => by rw [← h1 (by simp [a_if2, q])]; exact kk) (fun q => by rw [← h2 (by simp [a_if2, q])]; exact kk)
  · exact lv_icmp_ne hx hb hdg h0 (fun q => by rw [← h1 (by simp [a_if2, q])]; exact kk) (fun q => by rw [← h2 (by simp [a_if2, q])]; exact kk)
  · exact lv_icmp_lt hx hb hdg h0 (fun q => by rw [← h1 (by simp only [a_if2, q, decide_true])]; exact kk) (fun q => by rw [← h2 (by simp only [a_if2, q, decide_false])]; exact kk)
  · exact lv_icmp_ge hx hb hdg h0 (fun q => by rw [← h1 (by simp only [a_if2, q, decide_true])]; exact kk) (fun q => by rw [← h2 (by simp only [a_if2, q, decide_false])]; exact kk)
  · exact lv_icmp_gt hx hb hdg h0 (fun q => by rw [← h1 (by simp only [a_if2, q, decide_true])]; exact kk) (fun q => by rw [← h2 (by simp only [a_if2, q, decide_false])]; exact kk)
  · exact lv_icmp_le hx hb hdg h0 (fun q => by rw [← h1 (by simp only [a_if2, q, decide_true])]; exact kk) (fun q => by rw [← h2 (by simp only [a_if2, q, decide_false])]; exact kk)
/-- constants, locals, jumps, the stack: the machine does the same, the heap stays -/
theorem a_st1_ok (hx : p.tables.exec = Jvm.exec) (hb : c.code = cc) (hdg : decode cc pc = .ok (i, a_len i)) {ad : Nat → Nat} {al : AL} {st : List Value} {h : AH} {r : AS} (hr : a_st1 i pc al st h = some r) (hl : a_L ad al ls) (inj : ∀ j k, j < h.length → k < h.length → ad j = ad k → j = k)
    (kk : r.2.2.2 = (h, 0, 0) → r.2.1.length = al.length → ∀ ls' : Array Slot, a_L ad r.2.1 ls' → W p l e R s m args below meth c H locs cells slots Q (F0 m r.1 ls' (r.2.2.1.map (a_ren ad)))) : W p l e R s m args below meth c H locs cells slots Q (F0 m pc ls (st.map (a_ren ad))) := by
  unfold a_st1 at hr
  split at hr
  · rename_i v hv
    cases hr
    exact a_const_ok hx hb hdg hv ad (kk rfl rfl ls hl)
  split at hr
  · rename_i j kd hv
    split at hr
    · rename_i v hg
      split at hr
      · rename_i hk
        cases hr
        exact a_load_ok hx hb hdg hv hk (hl.2.2 j v hg) (kk rfl rfl ls hl)
      · cases hr
    · cases hr
  split at hr
  · rename_i j kd hv
    split at hr
    · rename_i v st'
      split at hr
      · rename_i hk
        rw [Option.map_eq_some_iff] at hr
        obtain ⟨al', h1, rfl⟩ := hr
        exact a_store_ok hx hb hdg hv hk h1 hl (fun ls' q => kk rfl (by have := q.1; have := hl.1; unfold a_sto at h1; split at h1 <;> split at h1 <;> cases h1 <;> simp [a_set1, a_set2, a_kill_len]) ls' q)
      · cases hr
    · cases hr
  split at hr
  · rename_i k n
    split at hr
    · rename_i x hg
      rw [Option.map_eq_some_iff] at hr
      obtain ⟨al', h1, rfl⟩ := hr
      obtain ⟨hj, rfl⟩ := a_sto1 rfl h1
      obtain ⟨z, hz⟩ := List.getElem?_of_mem (a_lv_mem (ad := ad).mpr ⟨_, hg, rfl⟩)
      exact lv_iinc hx hb hdg hl.has hz rfl hj rfl (fun ls' q => kk rfl (by simp [a_set1, a_kill_len]) ls' (a_L.set1 (v := .int _) rfl hj q))
    · cases hr
  · rw [Option.map_eq_some_iff] at hr
    obtain ⟨t, h1, rfl⟩ := hr
    exact lv_goto hx hb hdg (a_tgt_ok h1) (kk rfl rfl ls hl)
  · rw [Option.map_eq_some_iff] at hr
    obtain ⟨t, h1, rfl⟩ := hr
    exact a_if1_ok hx hb hdg h1 (kk rfl rfl ls hl)
  · rw [Option.map_eq_some_iff] at hr
    obtain ⟨t, h1, rfl⟩ := hr
    exact a_if2_ok hx hb hdg h1 (kk rfl rfl ls hl)
  · rename_i off y x st' _ _ _
    split at hr
    · rename_i hxy
      rw [Option.map_eq_some_iff] at hr
      obtain ⟨t, h1, rfl⟩ := hr
      obtain ⟨t0, h0, h2, h3⟩ := a_br_ok h1
      have k1 := kk rfl rfl ls hl
      have e : (some (ad x) = some (ad y)) ↔ x = y := ⟨fun q => inj x y hxy.1 hxy.2 (Option.some.inj q), fun q => by rw [q]⟩
      exact lv_acmp_eq (rx := some (ad x)) (ry := some (ad y)) hx hb hdg h0 (fun q => by rw [← h2 (decide_eq_true (e.mp q))]; exact k1) (fun q => by rw [← h3 (decide_eq_false (fun z => q (e.mpr z)))]; exact k1)
    · cases hr
  · rename_i v st'
    split at hr
    · rename_i hc
      cases hr
      exact lv_dup hx hb hdg (by rw [a_ren_cat]; exact hc) (kk rfl rfl ls hl)
    · cases hr
  · rename_i v u st'
    split at hr
    · rename_i hc
      cases hr
      exact lv_dup2_11 hx hb hdg (by rw [a_ren_cat]; exact hc.1) (by rw [a_ren_cat]; exact hc.2) (kk rfl rfl ls hl)
    · cases hr
  · rename_i v st'
    split at hr
    · rename_i hc
      cases hr
      exact lv_pop hx hb hdg (by rw [a_ren_cat]; exact hc) (kk rfl rfl ls hl)
    · cases hr
  · cases hr
end AW
end
/-! part 06.sound2 -/
section
section AW2
variable {p : Program} {l : Launch} {e : Env} {R : Room} {s : State} {m : MethodId} {args : Array Value} {below : List Frame} {meth : Method} {c : Code} {H : Heap} {locs : List Loc} {cells slots : Nat} {Q : State → Prop} {cc : ByteArray} {pc : Nat} {ls : Array Slot} {rest : List Value} {i : Instr}
theorem a_bin_ok (hx : p.tables.exec = Jvm.exec) (hb : c.code = cc) (hdg : decode cc pc = .ok (i, a_len i)) {x y v : Int32} (h : a_bin i x y = some v) (k : W p l e R s m args below meth c H locs cells slots Q (F0 m (pc + 1) ls (.int v :: rest))) : W p l e R s m args below meth c H locs cells slots Q (F0 m pc ls (.int y :: .int x :: rest)) := by
  cases i <;> simp only [a_bin] at h <;> (try (cases h; done))
  · cases h; exact lv_iadd hx hb hdg k
  · cases h; exact lv_iand hx hb hdg k
  · split at h
    · cases h
    · rename_i hn; cases h; exact lv_idiv hx hb hdg hn k
  · cases h; exact lv_imul hx hb hdg k
  · cases h; exact lv_ior hx hb hdg k
  · split at h
    · cases h
    · rename_i hn; cases h; exact lv_irem hx hb hdg hn k
  · cases h; exact lv_isub hx hb hdg k
/-- arithmetic: the machine does the same, heap and locals stay -/
theorem a_st2_ok (hx : p.tables.exec = Jvm.exec) (hb : c.code = cc) (hdg : decode cc pc = .ok (i, a_len i)) {ad : Nat → Nat} {al : AL} {st : List Value} {h : AH} {r : AS} (hr : a_st2 i pc al st h = some r)
    (kk : r.2.2.2 = (h, 0, 0) → r.2.1 = al → W p l e R s m args below meth c H locs cells slots Q (F0 m r.1 ls (r.2.2.1.map (a_ren ad)))) : W p l e R s m args below meth c H locs cells slots Q (F0 m pc ls (st.map (a_ren ad))) := by
  unfold a_st2 at hr
  split at hr
  · cases hr; exact lv_i2l hx hb hdg rfl (kk rfl rfl)
  · cases hr; exact lv_i2c hx hb hdg rfl (kk rfl rfl)
  · cases hr; exact lv_i2f hx hb hdg (kk rfl rfl)
  · cases hr; exact lv_i2d hx hb hdg (kk rfl rfl)
  · split at hr
    · rename_i hn; cases hr; exact lv_f2d hx hb hdg hn (kk rfl rfl)
    · cases hr
  · cases hr; exact lv_ladd hx hb hdg (kk rfl rfl)
  · cases hr; exact lv_lmul hx hb hdg (kk rfl rfl)
  · cases hr; exact W.lcmp hx hb hdg (kk rfl rfl)
  · split at hr
    · rename_i hn; cases hr; exact lv_fdiv hx hb hdg hn (kk rfl rfl)
    · cases hr
  · split at hr
    · rename_i hn; cases hr; exact lv_ddiv hx hb hdg hn (kk rfl rfl)
    · cases hr
  · cases hr; exact lv_fcmp hx hb hdg (kk rfl rfl)
  · cases hr; exact lv_dcmp hx hb hdg (kk rfl rfl)
  · rw [Option.map_eq_some_iff] at hr
    obtain ⟨v, h1, rfl⟩ := hr
    exact a_bin_ok hx hb hdg h1 (kk rfl rfl)
  · cases hr
end AW2
/-! the heap -/
/-- the classes' numbers and slots, the array classes' numbers by their tags -/
abbrev AD : Type := (Nat → ClassId) × (Nat → Nat → Nat) × (Nat → ClassId)
def a_C (D : AD) (ad : Nat → Nat) (x : AC) (cell : Cell) : Prop :=
  if x.1 < 19 then cell.cls = D.1 x.1 ∧ cell.vm = .none ∧ x.2.length = a_cl x.1 ∧ ∀ (k : Nat) (v : Value), x.2[k]? = some v → cell.slots[D.2.1 x.1 k]? = some (a_ren ad v)
  else cell.cls = D.2.2 x.1 ∧ (cell.vm ≠ .unknown ∧ ∀ q, cell.vm ≠ .statics q) ∧ cell.slots.size = x.2.length ∧ ∀ (k : Nat) (v : Value), x.2[k]? = some v → cell.slots[k]? = some (a_ren ad v)
/-- the heap H holds the abstract heap h at the addresses ad; all but the script lie from B on -/
def a_H (D : AD) (B : Nat) (ad : Nat → Nat) (h : AH) (H : Heap) : Prop :=
  (∀ (k : Nat) (x : AC), h[k]? = some x → ∃ cell : Cell, H[ad k]? = some cell ∧ a_C D ad x cell) ∧
  (∀ j k : Nat, j < h.length → k < h.length → ad j = ad k → j = k) ∧
  ∀ (k : Nat) (x : AC), h[k]? = some x → x.1 ≠ 19 → B ≤ ad k
theorem a_C.arr {D : AD} {ad : Nat → Nat} {x : AC} {cell : Cell} (h : a_C D ad x cell) (ht : 19 ≤ x.1) : cell.cls = D.2.2 x.1 ∧ (cell.vm ≠ .unknown ∧ ∀ q, cell.vm ≠ .statics q) ∧ cell.slots.size = x.2.length ∧ ∀ (k : Nat) (v : Value), x.2[k]? = some v → cell.slots[k]? = some (a_ren ad v) := by
  unfold a_C at h
  rw [if_neg (by omega)] at h
  exact h
theorem a_C.obj {D : AD} {ad : Nat → Nat} {x : AC} {cell : Cell} (h : a_C D ad x cell) (ht : x.1 < 19) : cell.cls = D.1 x.1 ∧ cell.vm = .none ∧ x.2.length = a_cl x.1 ∧ ∀ (k : Nat) (v : Value), x.2[k]? = some v → cell.slots[D.2.1 x.1 k]? = some (a_ren ad v) := by
  unfold a_C at h
  rw [if_pos ht] at h
  exact h
/-- what the tables say of the array classes -/
def a_KA (D : AD) (U : State) : Prop := ∀ (t : Nat) (ty : FieldType), a_aty t = some ty → ∃ (kA : Class) (comp : ClassId), U.vm.classes[D.2.2 t]? = some kA ∧ kA.kind = .array comp ty
theorem a_aty_ge {t : Nat} {ty : FieldType} (h : a_aty t = some ty) : 19 ≤ t := by
  unfold a_aty at h
  split at h
  · cases h
  · omega
theorem a_C.isArr {D : AD} {ad : Nat → Nat} {x : AC} {cell : Cell} {U : State} {ty : FieldType} (hK : a_KA D U) (h : a_C D ad x cell) (ht : a_aty x.1 = some ty) : U.isArrayOf cell ty := by
  obtain ⟨h1, h2, -⟩ := h.arr (a_aty_ge ht)
  obtain ⟨kA, comp, h3, h4⟩ := hK _ _ ht
  exact ⟨h2.2, kA, by rw [h1]; exact h3, comp, h4⟩
theorem a_ix_ok {j : Int32} {n k : Nat} (h : a_ix j n = some k) : ¬ (j < 0 ∨ n ≤ j.toNatClampNeg) ∧ j.toNatClampNeg = k ∧ k < n := by
  unfold a_ix at h
  split at h
  · cases h
  · rename_i h1
    cases h
    exact ⟨h1, rfl, by omega⟩
end
