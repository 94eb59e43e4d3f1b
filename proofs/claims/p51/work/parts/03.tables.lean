/-! The tables of the program, by program (wip/gen.py) out of what TURN printed: classes, fields, methods, what each pool number of a method means, the code as a list. -/
def a_cls : List (String × List (String × String × Bool)) := [
  ("Juryreel$Archive", [("letters", "[C", true), ("filmOf", "[I", true), ("lineCount", "I", false), ("next", "I", false)]),
  ("Juryreel$Count", [("isOut", "[Z", true), ("isOnBallot", "[Z", true), ("tally", "[I", true), ("leads", "[[I", true)]),
  ("Juryreel$Film", [("form", "C", false), ("minutes", "I", false), ("land", "I", false), ("section", "I", false), ("isWithdrawn", "Z", false), ("stillIs", "I", false), ("promise", "I", false), ("kind", "C", false), ("comes", "I", false)]),
  ("Juryreel$Grid", [("films", "[LJuryreel$Film;", true), ("venue", "LJuryreel$Venue;", true), ("archive", "LJuryreel$Archive;", true), ("shows", "[LJuryreel$Show;", true), ("showCount", "I", false), ("hour", "I", false), ("isStormy", "[Z", true), ("found", "[I", true), ("foundCount", "I", false)]),
  ("Juryreel$Juror", [("land", "I", false), ("hasSeen", "[Z", true), ("lastHour", "I", false), ("lastShow", "I", false), ("ballot", "[I", true), ("ballotSize", "I", false)]),
  ("Juryreel$Passes", [("ranks", "[I", true), ("passCount", "I", false)]),
  ("Juryreel$Readings", [("lands", "[I", true), ("dealtFilms", "[I", true), ("toldScores", "[I", true), ("sums", "[I", true), ("marks", "[[I", true), ("readerCount", "I", false)]),
  ("Juryreel$Rights", [("soldFilms", "[I", true), ("lands", "[I", true), ("firstMonths", "[I", true), ("lastMonths", "[I", true), ("buyers", "[I", true), ("dealCount", "I", false)]),
  ("Juryreel$Section", [("quota", "I", false), ("budget", "I", false), ("least", "I", false), ("form", "C", false), ("premiere", "I", false), ("rule", "C", false), ("isAwarded", "Z", false), ("jurors", "[LJuryreel$Juror;", true), ("jurorCount", "I", false)]),
  ("Juryreel$Show", [("film", "I", false), ("screen", "I", false), ("first", "I", false), ("length", "I", false), ("cause", "C", false), ("isOpened", "Z", false), ("queue", "[I", true), ("waiting", "I", false), ("isSeated", "[Z", true)]),
  ("Juryreel$Venue", [("seats", "[I", true), ("hasGear", "[Z", true), ("screenCount", "I", false), ("keyFilms", "[I", true), ("keyScreens", "[I", true), ("keyFrom", "[I", true), ("keyTo", "[I", true), ("keyCount", "I", false)]),
  ("Juryreel", [("grid", "LJuryreel$Grid;", true), ("films", "[LJuryreel$Film;", true), ("venue", "LJuryreel$Venue;", true), ("archive", "LJuryreel$Archive;", true), ("filmCount", "I", false), ("sections", "[LJuryreel$Section;", true), ("sectionCount", "I", false), ("readings", "LJuryreel$Readings;", true), ("passes", "LJuryreel$Passes;", true), ("count", "LJuryreel$Count;", true), ("rights", "LJuryreel$Rights;", true), ("typed", "[I", true), ("typedCount", "I", false), ("order", "[I", true), ("weights", "[I", true)]),
  ("JuryreelModel", []),
  ("JuryreelLaw", [])]
-- of each class: (pool number, class, field, word)
def a_fld : List (List (Nat × Nat × Nat × Nat × Nat)) := [
  [(9, 0, 0, (1, 80)), (15, 0, 1, (1, 81)), (19, 0, 2, (1, 82)), (23, 0, 3, (1, 83))],
  [(9, 1, 0, (2, 19)), (15, 1, 1, (2, 20)), (18, 1, 2, (2, 21)), (24, 1, 3, (2, 22)), (31, 8, 5, (2, 101)), (48, 2, 4, (1, 111)), (54, 4, 5, (2, 76)), (60, 4, 4, (2, 74)), (63, 8, 8, (2, 106)), (66, 8, 7, (2, 104))],
  [(9, 2, 0, (1, 101)), (15, 2, 1, (1, 103)), (19, 2, 2, (1, 105)), (22, 2, 3, (1, 107)), (25, 2, 4, (1, 110)), (29, 2, 5, (1, 113)), (32, 2, 6, (1, 115)), (35, 2, 7, (1, 116)), (38, 2, 8, (1, 117))],
  [(11, 3, 0, (1, 176)), (20, 3, 1, (1, 178)), (27, 3, 2, (1, 180)), (33, 3, 3, (1, 182)), (37, 3, 4, (1, 183)), (41, 3, 5, (1, 184)), (44, 3, 6, (1, 185)), (48, 3, 7, (1, 186)), (52, 3, 8, (1, 187)), (57, 9, 4, (1, 151)), (61, 9, 2, (1, 147)), (64, 9, 3, (1, 149)), (94, 2, 3, (1, 109)), (101, 9, 1, (1, 145)), (104, 9, 0, (1, 143)), (146, 9, 8, (1, 156)), (156, 10, 0, (1, 47))],
  [(9, 4, 0, (2, 69)), (15, 4, 1, (2, 70)), (19, 4, 2, (2, 71)), (22, 4, 3, (2, 72)), (25, 4, 4, (2, 73)), (29, 4, 5, (2, 75))],
  [(9, 5, 0, (2, 4)), (15, 5, 1, (2, 5))],
  [(9, 6, 0, (1, 217)), (15, 6, 1, (1, 218)), (18, 6, 2, (1, 219)), (21, 6, 3, (1, 220)), (26, 6, 4, (1, 221)), (29, 6, 5, (1, 223))],
  [(9, 7, 0, (2, 38)), (15, 7, 1, (2, 39)), (18, 7, 2, (2, 40)), (21, 7, 3, (2, 41)), (24, 7, 4, (2, 42)), (27, 7, 5, (2, 43))],
  [(9, 8, 0, (2, 90)), (15, 8, 1, (2, 92)), (18, 8, 2, (2, 94)), (21, 8, 3, (2, 96)), (25, 8, 4, (2, 98)), (28, 8, 5, (2, 100)), (31, 8, 6, (2, 102)), (37, 8, 7, (2, 103)), (41, 8, 8, (2, 105))],
  [(9, 9, 0, (1, 142)), (15, 9, 1, (1, 144)), (18, 9, 2, (1, 146)), (21, 9, 3, (1, 148)), (24, 9, 4, (1, 150)), (28, 9, 5, (1, 152)), (32, 9, 6, (1, 153)), (36, 9, 7, (1, 154)), (39, 9, 8, (1, 155))],
  [(9, 10, 0, (1, 46)), (15, 10, 1, (1, 48)), (19, 10, 2, (1, 49)), (23, 10, 3, (1, 50)), (26, 10, 4, (1, 51)), (29, 10, 5, (1, 52)), (32, 10, 6, (1, 53)), (35, 10, 7, (1, 54))],
  [(10, 11, 0, (2, 126)), (16, 3, 0, (1, 177)), (20, 11, 1, (2, 127)), (21, 3, 1, (1, 179)), (25, 11, 2, (2, 128)), (26, 3, 2, (1, 181)), (30, 11, 3, (2, 129)), (31, 11, 4, (2, 130)), (37, 11, 5, (2, 131)), (41, 11, 6, (2, 132)), (47, 11, 7, (2, 133)), (54, 11, 8, (2, 134)), (61, 11, 9, (2, 135)), (68, 11, 10, (2, 136)), (72, 11, 11, (2, 137)), (76, 11, 12, (2, 138)), (79, 11, 13, (2, 139)), (82, 11, 14, (2, 140)), (114, 6, 5, (1, 224)), (129, 2, 2, (1, 106)), (151, 6, 4, (1, 222)), (188, 2, 5, (1, 114)), (218, 8, 4, (2, 99)), (230, 2, 3, (1, 108)), (375, 2, 4, (1, 112)), (389, 5, 1, (2, 6)), (577, 2, 1, (1, 104)), (580, 8, 3, (2, 97)), (583, 2, 0, (1, 102)), (584, 8, 2, (2, 95)), (590, 8, 0, (2, 91)), (593, 8, 1, (2, 93))],
  [],
  []]
-- (pool number, 0 virtual 1 static 2 special, method, words: link, instance or static, selects, initialized)
def a_inv : List (List (Nat × Nat × Nat × (Nat × Nat) × (Nat × Nat) × (Nat × Nat) × (Nat × Nat))) := [
  [],
  [(27, 0, 4, (3, 87), (3, 88), (3, 89), (1, 9)), (37, 0, 10, (3, 91), (3, 92), (3, 93), (1, 9)), (41, 0, 11, (3, 115), (3, 116), (3, 117), (1, 9)), (45, 0, 14, (3, 127), (3, 128), (3, 129), (1, 9)), (70, 0, 5, (3, 99), (3, 100), (3, 101), (1, 9)), (74, 0, 6, (3, 111), (3, 112), (3, 113), (1, 9)), (78, 0, 7, (3, 95), (3, 96), (3, 97), (1, 9)), (82, 0, 9, (3, 103), (3, 104), (3, 105), (1, 9)), (86, 0, 8, (3, 107), (3, 108), (3, 109), (1, 9)), (89, 0, 12, (3, 119), (3, 120), (3, 121), (1, 9)), (92, 0, 13, (3, 123), (3, 124), (3, 125), (1, 9)), (96, 0, 15, (3, 131), (3, 132), (3, 133), (1, 9)), (99, 0, 21, (3, 139), (3, 140), (3, 141), (1, 9)), (102, 0, 17, (3, 143), (3, 144), (3, 145), (1, 9)), (105, 0, 20, (3, 155), (3, 156), (3, 157), (1, 9)), (109, 0, 19, (3, 151), (3, 152), (3, 153), (1, 9)), (112, 0, 18, (3, 147), (3, 148), (3, 149), (1, 9))],
  [],
  [(19, 3, 52, (1, 42), (1, 43), (1, 43), (1, 3)), (26, 3, 0, (1, 76), (1, 77), (1, 77), (1, 4)), (55, 3, 22, (1, 97), (1, 98), (1, 98), (1, 5)), (56, 3, 49, (1, 138), (1, 139), (1, 139), (1, 6)), (97, 0, 50, (3, 47), (3, 48), (3, 49), (1, 6)), (149, 0, 29, (3, 51), (3, 52), (3, 53), (1, 2)), (153, 0, 51, (3, 59), (3, 60), (3, 61), (1, 6)), (159, 0, 27, (3, 63), (3, 64), (3, 65), (1, 2))],
  [],
  [],
  [(33, 0, 35, (4, 24), (4, 25), (4, 26), (1, 7)), (37, 0, 41, (3, 29), (3, 30), (3, 31), (1, 7))],
  [(31, 0, 45, (3, 163), (3, 164), (3, 165), (1, 10))],
  [(44, 3, 31, (2, 65), (2, 66), (2, 66), (1, 12))],
  [],
  [],
  [(9, 2, 26, (1, 34), (1, 35), (1, 35), (1, 2)), (46, 2, 33, (1, 211), (1, 212), (1, 212), (1, 7)), (53, 3, 32, (2, 0), (2, 1), (2, 1), (1, 8)), (60, 3, 2, (2, 14), (2, 15), (2, 15), (1, 9)), (67, 3, 44, (2, 34), (2, 35), (2, 35), (1, 10)), (85, 2, 47, (2, 58), (2, 59), (2, 59), (1, 11)), (86, 1, 69, (3, 176), (3, 177), (3, 177), (1, 1)), (90, 1, 68, (2, 183), (2, 184), (2, 184), (1, 1)), (191, 1, 71, (4, 120), (4, 121), (4, 121), (1, 1)), (197, 1, 70, (4, 131), (4, 132), (4, 132), (1, 1)), (566, 1, 72, (2, 180), (2, 181), (2, 181), (1, 1)), (106, 0, 23, (3, 211), (3, 212), (3, 213), (1, 5)), (119, 0, 34, (3, 226), (3, 227), (3, 228), (1, 7)), (123, 0, 73, (2, 176), (2, 178), (0, 0), (1, 1)), (132, 0, 36, (4, 20), (4, 21), (4, 22), (1, 7)), (141, 0, 37, (4, 44), (4, 45), (4, 46), (1, 7)), (145, 0, 38, (4, 48), (4, 49), (4, 50), (1, 7)), (148, 0, 74, (3, 17), (3, 19), (0, 2), (1, 1)), (159, 0, 39, (4, 62), (4, 63), (4, 64), (1, 7)), (163, 0, 40, (4, 66), (4, 67), (4, 68), (1, 7)), (171, 0, 41, (4, 94), (3, 30), (3, 31), (1, 7)), (176, 0, 42, (4, 103), (4, 104), (4, 105), (1, 7)), (179, 0, 43, (3, 25), (3, 26), (3, 27), (1, 7)), (184, 0, 24, (4, 115), (4, 116), (4, 117), (1, 5)), (205, 0, 48, (4, 136), (4, 137), (4, 138), (1, 11)), (208, 0, 75, (4, 147), (4, 149), (0, 7), (1, 1)), (211, 0, 77, (4, 151), (4, 153), (0, 8), (1, 1)), (215, 0, 78, (4, 159), (4, 161), (0, 10), (1, 1)), (221, 0, 25, (4, 163), (4, 164), (4, 165), (1, 5)), (224, 0, 1, (4, 167), (4, 168), (4, 169), (1, 4)), (235, 0, 80, (3, 75), (3, 77), (0, 5), (1, 1)), (477, 0, 3, (3, 83), (3, 84), (3, 85), (1, 9)), (546, 0, 28, (3, 43), (3, 44), (3, 45), (1, 2)), (549, 0, 30, (3, 55), (3, 56), (3, 57), (1, 2)), (552, 0, 81, (3, 67), (3, 69), (0, 3), (1, 1)), (555, 0, 82, (3, 79), (3, 81), (0, 6), (1, 1)), (558, 0, 46, (3, 159), (3, 160), (3, 161), (1, 10)), (571, 0, 76, (4, 155), (4, 157), (0, 9), (1, 1)), (587, 0, 79, (3, 71), (3, 73), (0, 4), (1, 1)), (603, 0, 16, (3, 135), (3, 136), (3, 137), (1, 9))],
  [],
  [(70, 2, 53, (1, 26), (1, 27), (1, 27), (1, 1)), (63, 1, 83, (4, 190), (4, 191), (4, 191), (1, 0)), (71, 1, 84, (3, 167), (3, 168), (3, 168), (1, 0)), (74, 1, 85, (3, 217), (3, 218), (3, 218), (1, 0)), (77, 1, 86, (3, 230), (3, 231), (3, 231), (1, 0)), (80, 1, 89, (4, 95), (4, 96), (4, 96), (1, 0)), (82, 1, 95, (4, 187), (4, 188), (4, 188), (1, 0)), (98, 1, 90, (4, 107), (4, 108), (4, 108), (1, 0)), (101, 1, 87, (4, 53), (4, 54), (4, 54), (1, 0)), (104, 1, 88, (4, 70), (4, 71), (4, 71), (1, 0)), (106, 1, 91, (4, 123), (4, 124), (4, 124), (1, 0)), (109, 1, 92, (4, 140), (4, 141), (4, 141), (1, 0)), (111, 1, 94, (4, 180), (4, 181), (4, 181), (1, 0)), (113, 1, 93, (4, 172), (4, 173), (4, 173), (1, 0)), (9, 0, 54, (3, 172), (3, 173), (3, 174), (1, 1)), (21, 0, 55, (3, 220), (3, 221), (3, 222), (1, 1)), (25, 0, 56, (4, 15), (4, 16), (4, 17), (1, 1)), (34, 0, 58, (4, 56), (4, 57), (4, 58), (1, 1)), (38, 0, 59, (4, 74), (4, 75), (4, 76), (1, 1)), (43, 0, 60, (4, 98), (4, 99), (4, 100), (1, 1)), (46, 0, 62, (4, 110), (4, 111), (4, 112), (1, 1)), (50, 0, 63, (4, 126), (4, 127), (4, 128), (1, 1)), (54, 0, 64, (4, 143), (4, 144), (4, 145), (1, 1)), (57, 0, 65, (4, 175), (4, 176), (4, 177), (1, 1)), (60, 0, 66, (4, 183), (4, 184), (4, 185), (1, 1)), (90, 0, 61, (3, 21), (3, 22), (3, 23), (1, 1)), (94, 0, 57, (2, 172), (2, 173), (2, 174), (1, 1)), (115, 0, 67, (3, 39), (3, 40), (3, 41), (1, 1))]]
def a_oin : List (List (Nat × Nat × Nat)) := [
  [(3, (1, 79))],
  [(3, (2, 17))],
  [(3, (1, 100))],
  [(3, (1, 37))],
  [(3, (2, 68))],
  [(3, (2, 3))],
  [(3, (1, 214))],
  [(3, (2, 37))],
  [(3, (2, 61))],
  [(3, (1, 141))],
  [(3, (1, 45))],
  [(1, (1, 29))],
  [],
  []]
def a_mat : List (List (Nat × Bool × Nat × Nat)) := [
  [(26, false, (4, 171))],
  [],
  [(41, false, (4, 119))],
  [],
  [],
  [],
  [(41, false, (3, 33)), (46, true, (3, 36))],
  [],
  [],
  [],
  [],
  [],
  [],
  []]
def a_cpy : List (List (Nat × Nat × Nat)) := [
  [],
  [],
  [],
  [],
  [],
  [],
  [],
  [],
  [],
  [],
  [],
  [],
  [],
  []]
def a_new : List (List (Nat × Nat × (Nat × Nat) × (Nat × Nat) × (Nat × Nat))) := [
  [],
  [],
  [],
  [(9, 2, (1, 38), (1, 96), (1, 5)), (17, 10, (1, 40), (1, 41), (1, 3)), (24, 0, (1, 74), (1, 75), (1, 4)), (31, 9, (1, 94), (1, 137), (1, 6))],
  [],
  [],
  [],
  [],
  [(35, 4, (2, 62), (2, 64), (1, 12))],
  [],
  [],
  [(7, 3, (1, 32), (1, 33), (1, 2)), (35, 8, (1, 207), (2, 57), (1, 11)), (44, 6, (1, 209), (1, 210), (1, 7)), (51, 5, (1, 238), (1, 239), (1, 8)), (58, 1, (2, 12), (2, 13), (1, 9)), (65, 7, (2, 32), (2, 33), (1, 10))],
  [],
  [(10, 11, (1, 24), (1, 25), (1, 1))]]
def a_cst : List (List (Nat × Int32 × Nat × Nat)) := [
  [],
  [],
  [],
  [],
  [],
  [],
  [],
  [],
  [],
  [],
  [],
  [],
  [],
  [(7, 69069, (4, 193)), (8, 1103515245, (4, 194)), (17, -900001, (3, 215)), (20, -900002, (3, 216)), (33, -900003, (4, 52)), (69, 2147483647, (4, 195))]]
def a_csl : List (List (Nat × Int64 × Nat × Nat)) := [
  [],
  [],
  [],
  [],
  [],
  [],
  [],
  [],
  [],
  [],
  [],
  [],
  [],
  []]
def a_arr : List (List (Nat × String × Nat × Nat)) := [
  [],
  [(22, "[[I", (2, 18))],
  [],
  [(9, "Juryreel$Film", (1, 38)), (31, "Juryreel$Show", (1, 94))],
  [],
  [],
  [(24, "[[I", (1, 215))],
  [],
  [(35, "Juryreel$Juror", (2, 62))],
  [],
  [],
  [(35, "Juryreel$Section", (1, 207))],
  [],
  [(86, "[[Z", (4, 196)), (88, "[[I", (4, 198))]]
def a_exc : List String := ["java/lang/IndexOutOfBoundsException", "java/lang/IllegalArgumentException", "java/lang/IllegalStateException", "java/lang/UnsupportedOperationException", "java/util/NoSuchElementException", "java/lang/ArithmeticException"]
-- throw new E("text"): (method, pc, class, pool numbers: class, text; wide text?, constructor, exception, text, words: class, text)
def a_thr : List (Nat × Nat × Nat × Nat × Nat × Bool × Nat × Nat × String × (Nat × Nat) × (Nat × Nat)) := [
  (54, 28, 11, 94, 96, false, 98, 1, "no such form, or a number out of range", (3, 179), (3, 188)),
  (54, 47, 11, 101, 103, false, 105, 2, "there are 20 films", (3, 195), (3, 204)),
  (55, 10, 11, 94, 112, false, 98, 1, "no such land", (3, 179), (3, 224)),
  (55, 32, 11, 101, 117, false, 105, 2, "there are 8 readers", (3, 195), (3, 225)),
  (56, 15, 11, 94, 127, false, 98, 1, "so many readers cannot be asked for", (3, 179), (4, 19)),
  (56, 48, 11, 136, 138, false, 140, 3, "there are not so many readers for the film", (4, 28), (4, 37)),
  (58, 20, 11, 94, 155, false, 98, 1, "no such score", (3, 179), (4, 60)),
  (58, 45, 11, 136, 157, false, 140, 3, "not dealt, or told before", (4, 28), (4, 61)),
  (59, 24, 11, 166, 168, false, 170, 4, "the reader told no score of the film", (4, 78), (4, 87)),
  (60, 16, 11, 166, 174, false, 170, 4, "the film has no score", (4, 78), (4, 102)),
  (62, 23, 11, 94, 182, false, 98, 1, "no such place", (3, 179), (4, 114)),
  (63, 31, 11, 94, 195, false, 98, 1, "a number is out of range", (3, 179), (4, 130)),
  (63, 65, 11, 94, 201, false, 98, 1, "no such form or premiere", (3, 179), (4, 134)),
  (63, 83, 11, 101, 203, false, 105, 2, "there are 5 sections", (3, 195), (4, 135)),
  (65, 18, 11, 166, 233, false, 170, 4, "the film is in no section", (4, 78), (4, 179)),
  (72, 11, 11, 561, 563, true, 565, 0, "there is none of that number", (2, 186), (2, 230))]
-- methods: class, name, descriptor, locals, result, arguments with this, handlers (from, to, handler, catch, exception, word), word of the code
def a_mth_0 : List (Nat × String × String × Nat × Option FieldType × Nat × List (Nat × Nat × Nat × Nat × Nat × Nat × Nat) × (Nat × Nat)) := [
  (0, "<init>", "()V", 1, none, 1, [], (1, 78)),
  (0, "add", "(CI)V", 3, none, 3, [], (4, 170)),
  (1, "<init>", "()V", 1, none, 1, [], (2, 16)),
  (1, "findWinner", "([LJuryreel$Film;LJuryreel$Section;)I", 3, (some .int), 3, [], (3, 86)),
  (1, "dropWithdrawn", "([LJuryreel$Film;)V", 3, none, 2, [], (3, 90)),
  (1, "placeOn", "(LJuryreel$Juror;I)I", 4, (some .int), 3, [], (3, 102)),
  (1, "firstOn", "(LJuryreel$Juror;)I", 3, (some .int), 2, [], (3, 114)),
  (1, "isRanked", "(LJuryreel$Section;I)Z", 4, (some .boolean), 3, [], (3, 98)),
  (1, "firstsOf", "(LJuryreel$Section;I)I", 5, (some .int), 3, [], (3, 110)),
  (1, "pointsOf", "(LJuryreel$Section;I)I", 8, (some .int), 3, [], (3, 106)),
  (1, "withMost", "(LJuryreel$Section;Z)I", 7, (some .int), 3, [], (3, 94)),
  (1, "byDuels", "(LJuryreel$Section;)I", 3, (some .int), 2, [], (3, 118)),
  (1, "winsEachDuel", "(LJuryreel$Section;I)Z", 4, (some .boolean), 3, [], (3, 122)),
  (1, "leadOf", "(LJuryreel$Section;II)I", 8, (some .int), 4, [], (3, 126)),
  (1, "byRounds", "(LJuryreel$Section;)I", 5, (some .int), 2, [], (3, 130)),
  (1, "withFewestFirsts", "(LJuryreel$Section;)I", 5, (some .int), 2, [], (3, 134))]
def a_mth_1 : List (Nat × String × String × Nat × Option FieldType × Nat × List (Nat × Nat × Nat × Nat × Nat × Nat × Nat) × (Nat × Nat)) := [
  (1, "recount", "([LJuryreel$Film;LJuryreel$Section;)I", 4, (some .int), 3, [], (3, 138)),
  (1, "tallyBallots", "(LJuryreel$Section;Z)I", 6, (some .int), 3, [], (3, 146)),
  (1, "tallyBallot", "(LJuryreel$Juror;Z)Z", 8, (some .boolean), 3, [], (3, 150)),
  (1, "tallied", "()I", 3, (some .int), 1, [], (3, 154)),
  (1, "recountDuels", "()I", 4, (some .int), 1, [], (3, 158)),
  (1, "recountRounds", "(LJuryreel$Section;)I", 7, (some .int), 2, [], (3, 142)),
  (2, "<init>", "()V", 1, none, 1, [], (1, 99)),
  (2, "begin", "(CII)V", 4, none, 4, [], (3, 214)),
  (2, "showElsewhere", "(C)V", 3, none, 2, [], (4, 118)),
  (2, "enter", "(II)V", 3, none, 3, [], (4, 166)),
  (3, "<init>", "()V", 2, none, 1, [], (1, 36)),
  (3, "isSeatedElsewhere", "(ILJuryreel$Show;)Z", 5, (some .boolean), 3, [], (3, 66)),
  (3, "keepsApart", "()Z", 3, (some .boolean), 1, [], (3, 46)),
  (3, "areOfOneSection", "(LJuryreel$Show;LJuryreel$Show;)Z", 4, (some .boolean), 3, [], (3, 54)),
  (3, "keepsSeats", "(I)Z", 4, (some .boolean), 2, [], (3, 58)),
  (4, "<init>", "()V", 1, none, 1, [], (2, 67))]
def a_mth_2 : List (Nat × String × String × Nat × Option FieldType × Nat × List (Nat × Nat × Nat × Nat × Nat × Nat × Nat) × (Nat × Nat)) := [
  (5, "<init>", "()V", 1, none, 1, [], (2, 2)),
  (6, "<init>", "()V", 3, none, 1, [], (1, 213)),
  (6, "addReader", "(I)I", 2, (some .int), 2, [], (3, 229)),
  (6, "isFree", "(III)Z", 4, (some .boolean), 4, [], (4, 27)),
  (6, "countFree", "(II)I", 5, (some .int), 3, [], (4, 23)),
  (6, "dealOnce", "(II)V", 5, none, 3, [], (4, 47)),
  (6, "countDealt", "(I)I", 4, (some .int), 2, [], (4, 51)),
  (6, "tell", "(III)V", 4, none, 4, [], (4, 65)),
  (6, "countTold", "(I)I", 4, (some .int), 2, [], (4, 69)),
  (6, "evenScore", "(II)I", 4, (some .int), 3, [], (3, 32)),
  (6, "meanOfEven", "(I)I", 5, (some .int), 2, [], (4, 106)),
  (6, "spread", "(I)I", 7, (some .int), 2, [], (3, 28)),
  (7, "<init>", "()V", 1, none, 1, [], (2, 36)),
  (7, "isOver", "(IIIII)Z", 6, (some .boolean), 6, [], (3, 166)),
  (7, "keepApart", "()Z", 3, (some .boolean), 1, [], (3, 162)),
  (8, "<init>", "()V", 2, none, 1, [], (2, 60))]
def a_mth_3 : List (Nat × String × String × Nat × Option FieldType × Nat × List (Nat × Nat × Nat × Nat × Nat × Nat × Nat) × (Nat × Nat)) := [
  (8, "begin", "(IIICI)V", 6, none, 6, [], (4, 139)),
  (9, "<init>", "()V", 1, none, 1, [], (1, 140)),
  (9, "standsIn", "(II)Z", 3, (some .boolean), 3, [], (3, 50)),
  (9, "countSeats", "()I", 3, (some .int), 1, [], (3, 62)),
  (10, "<init>", "()V", 1, none, 1, [], (1, 44)),
  (11, "<init>", "()V", 2, none, 1, [], (1, 28)),
  (11, "film", "(CII)I", 4, (some .int), 4, [], (3, 175)),
  (11, "reader", "(I)I", 2, (some .int), 2, [], (3, 223)),
  (11, "deal", "(II)I", 5, (some .int), 3, [], (4, 18)),
  (11, "isDealt", "(II)Z", 3, (some .boolean), 3, [], (2, 175)),
  (11, "read", "(III)I", 4, (some .int), 4, [], (4, 59)),
  (11, "even", "(II)I", 3, (some .int), 3, [], (4, 77)),
  (11, "score", "(I)I", 2, (some .int), 2, [], (4, 101)),
  (11, "isInQuarrel", "(I)Z", 2, (some .boolean), 2, [], (3, 24)),
  (11, "rival", "(IC)C", 3, (some .char), 3, [], (4, 113)),
  (11, "section", "(IIICC)I", 6, (some .int), 6, [], (4, 129))]
def a_mth_4 : List (Nat × String × String × Nat × Option FieldType × Nat × List (Nat × Nat × Nat × Nat × Nat × Nat × Nat) × (Nat × Nat)) := [
  (11, "choose", "(I)I", 6, (some .int), 2, [], (4, 146)),
  (11, "sectionOf", "(I)I", 2, (some .int), 2, [], (4, 178)),
  (11, "minutes", "(I)I", 2, (some .int), 2, [], (4, 186)),
  (11, "isSound", "()Z", 1, (some .boolean), 1, [], (3, 42)),
  (11, "isWithin", "(III)Z", 3, (some .boolean), 3, [], (2, 185)),
  (11, "isForm", "(C)Z", 1, (some .boolean), 1, [], (3, 178)),
  (11, "levelOf", "(C)I", 1, (some .int), 1, [], (4, 133)),
  (11, "premiereOf", "(I)C", 1, (some .char), 1, [], (4, 122)),
  (11, "checkNumber", "(II)V", 2, none, 2, [], (2, 182)),
  (11, "checkFilm", "(I)V", 2, none, 2, [], (2, 179)),
  (11, "checkReader", "(I)V", 2, none, 2, [], (3, 20)),
  (11, "checkSection", "(I)V", 2, none, 2, [], (4, 150)),
  (11, "putInOrder", "(III)V", 5, none, 4, [], (4, 158)),
  (11, "orderByScore", "()I", 3, (some .int), 1, [], (4, 154)),
  (11, "canBeChosen", "(III)Z", 6, (some .boolean), 4, [], (4, 162)),
  (11, "filmsIn", "(I)I", 4, (some .int), 2, [], (3, 74))]
def a_mth_5 : List (Nat × String × String × Nat × Option FieldType × Nat × List (Nat × Nat × Nat × Nat × Nat × Nat × Nat) × (Nat × Nat)) := [
  (11, "minutesIn", "(I)I", 4, (some .int), 2, [], (3, 78)),
  (11, "areSectionsKept", "()Z", 2, (some .boolean), 1, [], (3, 70)),
  (11, "areWinnersRight", "()Z", 2, (some .boolean), 1, [], (3, 82)),
  (13, "cell", "([II)I", 3, (some .int), 2, [], (4, 192)),
  (13, "film", "(LJuryreel;CII)I", 5, (some .int), 4, [(0, 7, 8, 15, 1, (3, 170)), (0, 7, 13, 18, 2, (3, 171))], (3, 169)),
  (13, "reader", "(LJuryreel;I)I", 3, (some .int), 2, [(0, 5, 6, 15, 1, (3, 170)), (0, 5, 10, 18, 2, (3, 171))], (3, 219)),
  (13, "deal", "(LJuryreel;II)I", 4, (some .int), 3, [(0, 6, 7, 29, 0, (3, 233)), (0, 6, 11, 15, 1, (3, 170)), (0, 6, 15, 31, 3, (4, 14))], (3, 232)),
  (13, "read", "(LJuryreel;III)I", 5, (some .int), 4, [(0, 7, 8, 29, 0, (3, 233)), (0, 7, 13, 15, 1, (3, 170)), (0, 7, 18, 31, 3, (4, 14))], (4, 55)),
  (13, "even", "(LJuryreel;II)I", 4, (some .int), 3, [(0, 6, 7, 29, 0, (3, 233)), (0, 6, 11, 41, 4, (4, 73))], (4, 72)),
  (13, "score", "(LJuryreel;I)I", 3, (some .int), 2, [(0, 5, 6, 29, 0, (3, 233)), (0, 5, 10, 41, 4, (4, 73))], (4, 97)),
  (13, "rival", "(LJuryreel;IC)I", 4, (some .int), 3, [(0, 6, 7, 29, 0, (3, 233)), (0, 6, 11, 15, 1, (3, 170))], (4, 109)),
  (13, "section", "(LJuryreel;IIICC)I", 7, (some .int), 6, [(0, 11, 12, 15, 1, (3, 170)), (0, 11, 17, 18, 2, (3, 171))], (4, 125)),
  (13, "choose", "(LJuryreel;I)I", 3, (some .int), 2, [(0, 5, 6, 29, 0, (3, 233))], (4, 142)),
  (13, "sectionOf", "(LJuryreel;I)I", 3, (some .int), 2, [(0, 5, 6, 29, 0, (3, 233)), (0, 5, 10, 41, 4, (4, 73))], (4, 174)),
  (13, "minutes", "(LJuryreel;I)I", 3, (some .int), 2, [(0, 5, 6, 29, 0, (3, 233))], (4, 182)),
  (13, "in", "([III)I", 3, (some .int), 3, [], (4, 189))]
def a_mth_6 : List (Nat × String × String × Nat × Option FieldType × Nat × List (Nat × Nat × Nat × Nat × Nat × Nat × Nat) × (Nat × Nat)) := [
  (13, "law", "([I)Z", 32, (some .boolean), 1, [], (0, 0))]
def a_mth : List (Nat × String × String × Nat × Option FieldType × Nat × List (Nat × Nat × Nat × Nat × Nat × Nat × Nat) × (Nat × Nat)) := a_mth_0 ++ (a_mth_1 ++ (a_mth_2 ++ (a_mth_3 ++ (a_mth_4 ++ (a_mth_5 ++ (a_mth_6))))))
def a_mthC : List (List (Nat × String × String × Nat × Option FieldType × Nat × List (Nat × Nat × Nat × Nat × Nat × Nat × Nat) × (Nat × Nat))) := [a_mth_0, a_mth_1, a_mth_2, a_mth_3, a_mth_4, a_mth_5, a_mth_6]
noncomputable def a_prog_0 : List (ByteArray × List (Nat × Instr × Nat)) := [
  (prog_2_method_1_code, [(0, .aload_n 0, 1), (1, .invokespecial 3, 3), (4, .aload_n 0, 1), (5, .sipush 400, 3), (8, .newarray .char, 2), (10, .putfield 9, 3), (13, .aload_n 0, 1), (14, .sipush 400, 3), (17, .newarray .int, 2), (19, .putfield 15, 3), (22, .aload_n 0, 1), (23, .iconst 0, 1), (24, .putfield 19, 3), (27, .aload_n 0, 1), (28, .iconst 0, 1), (29, .putfield 23, 3), (32, .return_, 1)]),
  (prog_2_method_2_code, [(0, .aload_n 0, 1), (1, .getfield 9, 3), (4, .aload_n 0, 1), (5, .getfield 23, 3), (8, .iload_n 1, 1), (9, .castore, 1), (10, .aload_n 0, 1), (11, .getfield 15, 3), (14, .aload_n 0, 1), (15, .getfield 23, 3), (18, .iload_n 2, 1), (19, .iastore, 1), (20, .aload_n 0, 1), (21, .aload_n 0, 1), (22, .getfield 23, 3), (25, .iconst 1, 1), (26, .iadd, 1), (27, .sipush 400, 3), (30, .irem, 1), (31, .putfield 23, 3), (34, .aload_n 0, 1), (35, .aload_n 0, 1), (36, .getfield 19, 3), (39, .iconst 1, 1), (40, .iadd, 1), (41, .sipush 400, 3), (44, .invokestatic 26, 3), (47, .putfield 19, 3), (50, .return_, 1)]),
  (prog_3_method_1_code, [(0, .aload_n 0, 1), (1, .invokespecial 3, 3), (4, .aload_n 0, 1), (5, .bipush 20, 2), (7, .newarray .boolean, 2), (9, .putfield 9, 3), (12, .aload_n 0, 1), (13, .bipush 20, 2), (15, .newarray .boolean, 2), (17, .putfield 15, 3), (20, .aload_n 0, 1), (21, .bipush 20, 2), (23, .newarray .int, 2), (25, .putfield 18, 3), (28, .aload_n 0, 1), (29, .bipush 20, 2), (31, .bipush 20, 2), (33, .multianewarray 22 2, 4), (37, .putfield 24, 3), (40, .return_, 1)]),
  (prog_3_method_2_code, [(0, .aload_n 0, 1), (1, .aload_n 1, 1), (2, .invokevirtual 27, 3), (5, .aload_n 2, 1), (6, .getfield 31, 3), (9, .bipush 98, 2), (11, .if_icmp .ne 10, 3), (14, .aload_n 0, 1), (15, .aload_n 2, 1), (16, .iconst 1, 1), (17, .invokevirtual 37, 3), (20, .ireturn, 1), (21, .aload_n 2, 1), (22, .getfield 31, 3), (25, .bipush 99, 2), (27, .if_icmp .ne 9, 3), (30, .aload_n 0, 1), (31, .aload_n 2, 1), (32, .invokevirtual 41, 3), (35, .ireturn, 1), (36, .aload_n 2, 1), (37, .getfield 31, 3), (40, .bipush 114, 2), (42, .if_icmp .ne 11, 3), (45, .aload_n 0, 1), (46, .aload_n 2, 1), (47, .invokevirtual 45, 3), (50, .goto 9, 3), (53, .aload_n 0, 1), (54, .aload_n 2, 1), (55, .iconst 0, 1), (56, .invokevirtual 37, 3), (59, .ireturn, 1)]),
  (prog_3_method_3_code, [(0, .iconst 0, 1), (1, .istore_n 2, 1), (2, .iload_n 2, 1), (3, .bipush 20, 2), (5, .if_icmp .ge 27, 3), (8, .iload_n 2, 1), (9, .aload_n 1, 1), (10, .arraylength, 1), (11, .if_icmp .ge 21, 3), (14, .aload_n 0, 1), (15, .getfield 9, 3), (18, .iload_n 2, 1), (19, .aload_n 1, 1), (20, .iload_n 2, 1), (21, .aaload, 1), (22, .getfield 48, 3), (25, .bastore, 1), (26, .iinc 2 1, 3), (29, .goto (-27), 3), (32, .return_, 1)]),
  (prog_3_method_4_code, [(0, .iconst 0, 1), (1, .istore_n 3, 1), (2, .iload_n 3, 1), (3, .aload_n 1, 1), (4, .getfield 54, 3), (7, .if_icmp .ge 21, 3), (10, .aload_n 1, 1), (11, .getfield 60, 3), (14, .iload_n 3, 1), (15, .iaload, 1), (16, .iload_n 2, 1), (17, .if_icmp .ne 5, 3), (20, .iload_n 3, 1), (21, .ireturn, 1), (22, .iinc 3 1, 3), (25, .goto (-23), 3), (28, .iconst (-1), 1), (29, .ireturn, 1)]),
  (prog_3_method_5_code, [(0, .iconst 0, 1), (1, .istore_n 2, 1), (2, .iload_n 2, 1), (3, .aload_n 1, 1), (4, .getfield 54, 3), (7, .if_icmp .ge 30, 3), (10, .aload_n 0, 1), (11, .getfield 9, 3), (14, .aload_n 1, 1), (15, .getfield 60, 3), (18, .iload_n 2, 1), (19, .iaload, 1), (20, .baload, 1), (21, .ifCond .ne 10, 3), (24, .aload_n 1, 1), (25, .getfield 60, 3), (28, .iload_n 2, 1), (29, .iaload, 1), (30, .ireturn, 1), (31, .iinc 2 1, 3), (34, .goto (-32), 3), (37, .iconst (-1), 1), (38, .ireturn, 1)]),
  (prog_3_method_6_code, [(0, .iconst 0, 1), (1, .istore_n 3, 1), (2, .iload_n 3, 1), (3, .aload_n 1, 1), (4, .getfield 63, 3), (7, .if_icmp .ge 35, 3), (10, .aload_n 0, 1), (11, .getfield 9, 3), (14, .iload_n 2, 1), (15, .baload, 1), (16, .ifCond .ne 20, 3), (19, .aload_n 0, 1), (20, .aload_n 1, 1), (21, .getfield 66, 3), (24, .iload_n 3, 1), (25, .aaload, 1), (26, .iload_n 2, 1), (27, .invokevirtual 70, 3), (30, .iconst (-1), 1), (31, .if_icmp .eq 5, 3), (34, .iconst 1, 1), (35, .ireturn, 1), (36, .iinc 3 1, 3), (39, .goto (-37), 3), (42, .iconst 0, 1), (43, .ireturn, 1)]),
  (prog_3_method_7_code, [(0, .iconst 0, 1), (1, .istore_n 3, 1), (2, .iconst 0, 1), (3, .istore 4, 2), (5, .iload 4, 2), (7, .aload_n 1, 1), (8, .getfield 63, 3), (11, .if_icmp .ge 27, 3), (14, .aload_n 0, 1), (15, .aload_n 1, 1), (16, .getfield 66, 3), (19, .iload 4, 2), (21, .aaload, 1), (22, .invokevirtual 74, 3), (25, .iload_n 2, 1), (26, .if_icmp .ne 6, 3), (29, .iinc 3 1, 3), (32, .iinc 4 1, 3), (35, .goto (-30), 3), (38, .iload_n 3, 1), (39, .ireturn, 1)]),
  (prog_3_method_8_code, [(0, .iconst 0, 1), (1, .istore_n 3, 1), (2, .iconst 0, 1), (3, .istore 4, 2), (5, .iload 4, 2), (7, .aload_n 1, 1), (8, .getfield 63, 3), (11, .if_icmp .ge 74, 3), (14, .aload_n 1, 1), (15, .getfield 66, 3), (18, .iload 4, 2), (20, .aaload, 1), (21, .astore 5, 2), (23, .aload_n 0, 1), (24, .aload 5, 2), (26, .iload_n 2, 1), (27, .invokevirtual 70, 3), (30, .istore 6, 2), (32, .iload 6, 2), (34, .iconst 1, 1), (35, .iadd, 1), (36, .istore 7, 2), (38, .iload 6, 2), (40, .iconst (-1), 1), (41, .if_icmp .eq 38, 3), (44, .iload 7, 2), (46, .aload 5, 2), (48, .getfield 54, 3), (51, .if_icmp .ge 28, 3), (54, .aload_n 0, 1), (55, .getfield 9, 3), (58, .aload 5, 2), (60, .getfield 60, 3), (63, .iload 7, 2), (65, .iaload, 1), (66, .baload, 1), (67, .ifCond .ne 6, 3), (70, .iinc 3 1, 3), (73, .iinc 7 1, 3), (76, .goto (-38), 3), (79, .iinc 4 1, 3), (82, .goto (-77), 3), (85, .iload_n 3, 1), (86, .ireturn, 1)]),
  (prog_3_method_9_code, [(0, .iconst (-1), 1), (1, .istore_n 3, 1), (2, .iconst (-1), 1), (3, .istore 4, 2), (5, .iconst 0, 1), (6, .istore 5, 2), (8, .iload 5, 2), (10, .bipush 20, 2), (12, .if_icmp .ge 56, 3), (15, .aload_n 0, 1), (16, .aload_n 1, 1), (17, .iload 5, 2), (19, .invokevirtual 78, 3), (22, .ifCond .eq 40, 3), (25, .iload_n 2, 1), (26, .ifCond .eq 13, 3), (29, .aload_n 0, 1), (30, .aload_n 1, 1), (31, .iload 5, 2), (33, .invokevirtual 82, 3), (36, .goto 10, 3), (39, .aload_n 0, 1), (40, .aload_n 1, 1), (41, .iload 5, 2), (43, .invokevirtual 86, 3), (46, .istore 6, 2), (48, .iload 6, 2), (50, .iload 4, 2), (52, .if_icmp .le 10, 3), (55, .iload 5, 2), (57, .istore_n 3, 1), (58, .iload 6, 2), (60, .istore 4, 2), (62, .iinc 5 1, 3), (65, .goto (-57), 3), (68, .iload_n 3, 1), (69, .ireturn, 1)]),
  (prog_3_method_10_code, [(0, .iconst 0, 1), (1, .istore_n 2, 1), (2, .iload_n 2, 1), (3, .bipush 20, 2), (5, .if_icmp .ge 29, 3), (8, .aload_n 0, 1), (9, .aload_n 1, 1), (10, .iload_n 2, 1), (11, .invokevirtual 78, 3), (14, .ifCond .eq 14, 3), (17, .aload_n 0, 1), (18, .aload_n 1, 1), (19, .iload_n 2, 1), (20, .invokevirtual 89, 3), (23, .ifCond .eq 5, 3), (26, .iload_n 2, 1), (27, .ireturn, 1), (28, .iinc 2 1, 3), (31, .goto (-29), 3), (34, .aload_n 0, 1), (35, .aload_n 1, 1), (36, .iconst 1, 1), (37, .invokevirtual 37, 3), (40, .ireturn, 1)]),
  (prog_3_method_11_code, [(0, .iconst 0, 1), (1, .istore_n 3, 1), (2, .iload_n 3, 1), (3, .bipush 20, 2), (5, .if_icmp .ge 35, 3), (8, .iload_n 3, 1), (9, .iload_n 2, 1), (10, .if_icmp .eq 24, 3), (13, .aload_n 0, 1), (14, .aload_n 1, 1), (15, .iload_n 3, 1), (16, .invokevirtual 78, 3), (19, .ifCond .eq 15, 3), (22, .aload_n 0, 1), (23, .aload_n 1, 1), (24, .iload_n 2, 1), (25, .iload_n 3, 1), (26, .invokevirtual 92, 3), (29, .ifCond .gt 5, 3), (32, .iconst 0, 1), (33, .ireturn, 1), (34, .iinc 3 1, 3), (37, .goto (-35), 3), (40, .iconst 1, 1), (41, .ireturn, 1)]),
  (prog_3_method_12_code, [(0, .iconst 0, 1), (1, .istore 4, 2), (3, .iconst 0, 1), (4, .istore 5, 2), (6, .iload 5, 2), (8, .aload_n 1, 1), (9, .getfield 63, 3), (12, .if_icmp .ge 66, 3), (15, .aload_n 0, 1), (16, .aload_n 1, 1), (17, .getfield 66, 3), (20, .iload 5, 2), (22, .aaload, 1), (23, .iload_n 2, 1), (24, .invokevirtual 70, 3), (27, .istore 6, 2), (29, .aload_n 0, 1), (30, .aload_n 1, 1), (31, .getfield 66, 3), (34, .iload 5, 2), (36, .aaload, 1), (37, .iload_n 3, 1), (38, .invokevirtual 70, 3), (41, .istore 7, 2), (43, .iload 6, 2), (45, .iconst (-1), 1), (46, .if_icmp .eq 26, 3), (49, .iload 7, 2), (51, .iconst (-1), 1), (52, .if_icmp .eq 20, 3), (55, .iload 4, 2), (57, .iload 6, 2), (59, .iload 7, 2), (61, .if_icmp .ge 7, 3), (64, .iconst 1, 1), (65, .goto 4, 3), (68, .iconst (-1), 1), (69, .iadd, 1), (70, .istore 4, 2), (72, .iinc 5 1, 3), (75, .goto (-69), 3), (78, .iload 4, 2), (80, .ireturn, 1)]),
  (prog_3_method_13_code, [(0, .iconst 0, 1), (1, .istore_n 2, 1), (2, .iload_n 2, 1), (3, .bipush 20, 2), (5, .if_icmp .ge 88, 3), (8, .iconst 0, 1), (9, .istore_n 3, 1), (10, .iconst 0, 1), (11, .istore 4, 2), (13, .iload 4, 2), (15, .aload_n 1, 1), (16, .getfield 63, 3), (19, .if_icmp .ge 27, 3), (22, .aload_n 0, 1), (23, .aload_n 1, 1), (24, .getfield 66, 3), (27, .iload 4, 2), (29, .aaload, 1), (30, .invokevirtual 74, 3), (33, .iconst (-1), 1), (34, .if_icmp .eq 6, 3), (37, .iinc 3 1, 3), (40, .iinc 4 1, 3), (43, .goto (-30), 3), (46, .aload_n 0, 1), (47, .aload_n 1, 1), (48, .iconst 0, 1), (49, .invokevirtual 37, 3), (52, .istore 4, 2), (54, .iload 4, 2), (56, .iconst (-1), 1), (57, .if_icmp .eq 16, 3), (60, .iconst 2, 1), (61, .aload_n 0, 1), (62, .aload_n 1, 1), (63, .iload 4, 2), (65, .invokevirtual 86, 3), (68, .imul, 1), (69, .iload_n 3, 1), (70, .if_icmp .le 6, 3), (73, .iload 4, 2), (75, .ireturn, 1), (76, .aload_n 0, 1), (77, .getfield 9, 3), (80, .aload_n 0, 1), (81, .aload_n 1, 1), (82, .invokevirtual 96, 3), (85, .iconst 1, 1), (86, .bastore, 1), (87, .iinc 2 1, 3), (90, .goto (-88), 3), (93, .iconst (-1), 1), (94, .ireturn, 1)]),
  (prog_3_method_14_code, [(0, .iconst 0, 1), (1, .istore_n 2, 1), (2, .bipush 6, 2), (4, .istore_n 3, 1), (5, .iconst 0, 1), (6, .istore 4, 2), (8, .iload 4, 2), (10, .bipush 20, 2), (12, .if_icmp .ge 41, 3), (15, .aload_n 0, 1), (16, .aload_n 1, 1), (17, .iload 4, 2), (19, .invokevirtual 78, 3), (22, .ifCond .eq 25, 3), (25, .aload_n 0, 1), (26, .aload_n 1, 1), (27, .iload 4, 2), (29, .invokevirtual 86, 3), (32, .iload_n 3, 1), (33, .if_icmp .gt 14, 3), (36, .iload 4, 2), (38, .istore_n 2, 1), (39, .aload_n 0, 1), (40, .aload_n 1, 1), (41, .iload 4, 2), (43, .invokevirtual 86, 3), (46, .istore_n 3, 1), (47, .iinc 4 1, 3), (50, .goto (-42), 3), (53, .iload_n 2, 1), (54, .ireturn, 1)]),
  (prog_3_method_15_code, [(0, .aload_n 0, 1), (1, .aload_n 1, 1), (2, .invokevirtual 27, 3), (5, .aload_n 2, 1), (6, .getfield 31, 3), (9, .bipush 114, 2), (11, .if_icmp .ne 9, 3), (14, .aload_n 0, 1), (15, .aload_n 2, 1), (16, .invokevirtual 99, 3), (19, .ireturn, 1), (20, .aload_n 0, 1), (21, .aload_n 2, 1), (22, .aload_n 2, 1), (23, .getfield 31, 3), (26, .bipush 109, 2), (28, .if_icmp .eq 7, 3), (31, .iconst 1, 1), (32, .goto 4, 3), (35, .iconst 0, 1), (36, .invokevirtual 102, 3), (39, .pop, 1), (40, .aload_n 2, 1), (41, .getfield 31, 3), (44, .bipush 99, 2), (46, .if_icmp .ne 22, 3), (49, .aload_n 0, 1), (50, .invokevirtual 105, 3), (53, .istore_n 3, 1), (54, .iload_n 3, 1), (55, .iconst (-1), 1), (56, .if_icmp .ne 10, 3), (59, .aload_n 0, 1), (60, .invokevirtual 109, 3), (63, .goto 4, 3), (66, .iload_n 3, 1), (67, .ireturn, 1), (68, .aload_n 0, 1), (69, .invokevirtual 109, 3), (72, .ireturn, 1)]),
  (prog_3_method_16_code, [(0, .iconst 0, 1), (1, .istore_n 3, 1), (2, .iconst 0, 1), (3, .istore 4, 2), (5, .iload 4, 2), (7, .bipush 20, 2), (9, .if_icmp .ge 52, 3), (12, .aload_n 0, 1), (13, .getfield 18, 3), (16, .iload 4, 2), (18, .iconst 0, 1), (19, .iastore, 1), (20, .aload_n 0, 1), (21, .getfield 15, 3), (24, .iload 4, 2), (26, .iconst 0, 1), (27, .bastore, 1), (28, .iconst 0, 1), (29, .istore 5, 2), (31, .iload 5, 2), (33, .bipush 20, 2), (35, .if_icmp .ge 20, 3), (38, .aload_n 0, 1), (39, .getfield 24, 3), (42, .iload 4, 2), (44, .aaload, 1), (45, .iload 5, 2), (47, .iconst 0, 1), (48, .iastore, 1), (49, .iinc 5 1, 3), (52, .goto (-21), 3), (55, .iinc 4 1, 3), (58, .goto (-53), 3), (61, .iconst 0, 1), (62, .istore 4, 2), (64, .iload 4, 2), (66, .aload_n 1, 1), (67, .getfield 63, 3), (70, .if_icmp .ge 27, 3), (73, .aload_n 0, 1), (74, .aload_n 1, 1), (75, .getfield 66, 3), (78, .iload 4, 2), (80, .aaload, 1), (81, .iload_n 2, 1), (82, .invokevirtual 112, 3), (85, .ifCond .eq 6, 3), (88, .iinc 3 1, 3), (91, .iinc 4 1, 3), (94, .goto (-30), 3), (97, .iload_n 3, 1), (98, .ireturn, 1)]),
  (prog_3_method_17_code, [(0, .iconst 0, 1), (1, .istore_n 3, 1), (2, .iconst (-1), 1), (3, .istore 4, 2), (5, .aload_n 1, 1), (6, .getfield 54, 3), (9, .iconst 1, 1), (10, .isub, 1), (11, .istore 5, 2), (13, .iload 5, 2), (15, .ifCond .lt 116, 3), (18, .aload_n 1, 1), (19, .getfield 60, 3), (22, .iload 5, 2), (24, .iaload, 1), (25, .istore 6, 2), (27, .aload_n 0, 1), (28, .getfield 9, 3), (31, .iload 6, 2), (33, .baload, 1), (34, .ifCond .ne 91, 3), (37, .aload_n 0, 1), (38, .getfield 15, 3), (41, .iload 6, 2), (43, .iconst 1, 1), (44, .bastore, 1), (45, .iload 6, 2), (47, .istore 4, 2), (49, .aload_n 0, 1), (50, .getfield 18, 3), (53, .iload 6, 2), (55, .dup2, 1), (56, .iaload, 1), (57, .iload_n 2, 1), (58, .ifCond .eq 7, 3), (61, .iload_n 3, 1), (62, .goto 4, 3), (65, .iconst 0, 1), (66, .iadd, 1), (67, .iastore, 1), (68, .iinc 3 1, 3), (71, .iconst 0, 1), (72, .istore 7, 2), (74, .iload 7, 2), (76, .iload 5, 2), (78, .if_icmp .ge 47, 3), (81, .aload_n 0, 1), (82, .getfield 24, 3), (85, .aload_n 1, 1), (86, .getfield 60, 3), (89, .iload 7, 2), (91, .iaload, 1), (92, .aaload, 1), (93, .iload 6, 2), (95, .dup2, 1), (96, .iaload, 1), (97, .iconst 1, 1), (98, .iadd, 1), (99, .iastore, 1), (100, .aload_n 0, 1), (101, .getfield 24, 3), (104, .iload 6, 2), (106, .aaload, 1), (107, .aload_n 1, 1), (108, .getfield 60, 3), (111, .iload 7, 2), (113, .iaload, 1), (114, .dup2, 1), (115, .iaload, 1), (116, .iconst 1, 1), (117, .isub, 1), (118, .iastore, 1), (119, .iinc 7 1, 3), (122, .goto (-48), 3), (125, .iinc 5 (-1), 3), (128, .goto (-115), 3), (131, .iload 4, 2), (133, .iconst (-1), 1), (134, .if_icmp .eq 18, 3), (137, .iload_n 2, 1), (138, .ifCond .ne 14, 3), (141, .aload_n 0, 1), (142, .getfield 18, 3), (145, .iload 4, 2), (147, .dup2, 1), (148, .iaload, 1), (149, .iconst 1, 1), (150, .iadd, 1), (151, .iastore, 1), (152, .iload 4, 2), (154, .iconst (-1), 1), (155, .if_icmp .eq 7, 3), (158, .iconst 1, 1), (159, .goto 4, 3), (162, .iconst 0, 1), (163, .ireturn, 1)]),
  (prog_3_method_18_code, [(0, .iconst (-1), 1), (1, .istore_n 1, 1), (2, .bipush 19, 2), (4, .istore_n 2, 1), (5, .iload_n 2, 1), (6, .ifCond .lt 40, 3), (9, .aload_n 0, 1), (10, .getfield 15, 3), (13, .iload_n 2, 1), (14, .baload, 1), (15, .ifCond .eq 25, 3), (18, .iload_n 1, 1), (19, .iconst (-1), 1), (20, .if_icmp .eq 18, 3), (23, .aload_n 0, 1), (24, .getfield 18, 3), (27, .iload_n 2, 1), (28, .iaload, 1), (29, .aload_n 0, 1), (30, .getfield 18, 3), (33, .iload_n 1, 1), (34, .iaload, 1), (35, .if_icmp .lt 5, 3), (38, .iload_n 2, 1), (39, .istore_n 1, 1), (40, .iinc 2 (-1), 3), (43, .goto (-38), 3), (46, .iload_n 1, 1), (47, .ireturn, 1)])]
noncomputable def a_prog_1 : List (ByteArray × List (Nat × Instr × Nat)) := [
  (prog_3_method_19_code, [(0, .iconst 0, 1), (1, .istore_n 1, 1), (2, .iload_n 1, 1), (3, .bipush 20, 2), (5, .if_icmp .ge 63, 3), (8, .aload_n 0, 1), (9, .getfield 15, 3), (12, .iload_n 1, 1), (13, .baload, 1), (14, .istore_n 2, 1), (15, .iconst 0, 1), (16, .istore_n 3, 1), (17, .iload_n 3, 1), (18, .bipush 20, 2), (20, .if_icmp .ge 36, 3), (23, .iload_n 3, 1), (24, .iload_n 1, 1), (25, .if_icmp .eq 25, 3), (28, .aload_n 0, 1), (29, .getfield 15, 3), (32, .iload_n 3, 1), (33, .baload, 1), (34, .ifCond .eq 16, 3), (37, .aload_n 0, 1), (38, .getfield 24, 3), (41, .iload_n 1, 1), (42, .aaload, 1), (43, .iload_n 3, 1), (44, .iaload, 1), (45, .ifCond .gt 5, 3), (48, .iconst 0, 1), (49, .istore_n 2, 1), (50, .iinc 3 1, 3), (53, .goto (-36), 3), (56, .iload_n 2, 1), (57, .ifCond .eq 5, 3), (60, .iload_n 1, 1), (61, .ireturn, 1), (62, .iinc 1 1, 3), (65, .goto (-63), 3), (68, .iconst (-1), 1), (69, .ireturn, 1)]),
  (prog_3_method_20_code, [(0, .iconst 0, 1), (1, .istore_n 2, 1), (2, .iload_n 2, 1), (3, .bipush 20, 2), (5, .if_icmp .ge 127, 3), (8, .aload_n 0, 1), (9, .aload_n 1, 1), (10, .iconst 0, 1), (11, .invokevirtual 102, 3), (14, .istore_n 3, 1), (15, .aload_n 0, 1), (16, .invokevirtual 109, 3), (19, .istore 4, 2), (21, .iload 4, 2), (23, .iconst (-1), 1), (24, .if_icmp .eq 16, 3), (27, .iconst 2, 1), (28, .aload_n 0, 1), (29, .getfield 18, 3), (32, .iload 4, 2), (34, .iaload, 1), (35, .imul, 1), (36, .iload_n 3, 1), (37, .if_icmp .le 6, 3), (40, .iload 4, 2), (42, .ireturn, 1), (43, .iload 4, 2), (45, .istore 5, 2), (47, .iconst 0, 1), (48, .istore 6, 2), (50, .iload 6, 2), (52, .bipush 20, 2), (54, .if_icmp .ge 64, 3), (57, .aload_n 0, 1), (58, .getfield 15, 3), (61, .iload 6, 2), (63, .baload, 1), (64, .ifCond .eq 48, 3), (67, .aload_n 0, 1), (68, .getfield 18, 3), (71, .iload 6, 2), (73, .iaload, 1), (74, .aload_n 0, 1), (75, .getfield 18, 3), (78, .iload 5, 2), (80, .iaload, 1), (81, .if_icmp .lt 27, 3), (84, .aload_n 0, 1), (85, .getfield 18, 3), (88, .iload 6, 2), (90, .iaload, 1), (91, .aload_n 0, 1), (92, .getfield 18, 3), (95, .iload 5, 2), (97, .iaload, 1), (98, .if_icmp .ne 14, 3), (101, .iload 6, 2), (103, .iload 5, 2), (105, .if_icmp .le 7, 3), (108, .iload 6, 2), (110, .istore 5, 2), (112, .iinc 6 1, 3), (115, .goto (-65), 3), (118, .aload_n 0, 1), (119, .getfield 9, 3), (122, .iload 5, 2), (124, .iconst 1, 1), (125, .bastore, 1), (126, .iinc 2 1, 3), (129, .goto (-127), 3), (132, .iconst (-1), 1), (133, .ireturn, 1)]),
  (prog_4_method_1_code, [(0, .aload_n 0, 1), (1, .invokespecial 3, 3), (4, .aload_n 0, 1), (5, .bipush 45, 2), (7, .putfield 9, 3), (10, .aload_n 0, 1), (11, .iconst 0, 1), (12, .putfield 15, 3), (15, .aload_n 0, 1), (16, .iconst 0, 1), (17, .putfield 19, 3), (20, .aload_n 0, 1), (21, .iconst (-1), 1), (22, .putfield 22, 3), (25, .aload_n 0, 1), (26, .iconst 0, 1), (27, .putfield 25, 3), (30, .aload_n 0, 1), (31, .iconst 3, 1), (32, .putfield 29, 3), (35, .aload_n 0, 1), (36, .iconst 0, 1), (37, .putfield 32, 3), (40, .aload_n 0, 1), (41, .bipush 45, 2), (43, .putfield 35, 3), (46, .aload_n 0, 1), (47, .iconst 0, 1), (48, .putfield 38, 3), (51, .return_, 1)]),
  (prog_4_method_2_code, [(0, .aload_n 0, 1), (1, .iload_n 1, 1), (2, .putfield 9, 3), (5, .aload_n 0, 1), (6, .iload_n 2, 1), (7, .putfield 15, 3), (10, .aload_n 0, 1), (11, .iload_n 3, 1), (12, .putfield 19, 3), (15, .return_, 1)]),
  (prog_4_method_3_code, [(0, .iconst 0, 1), (1, .istore_n 2, 1), (2, .iload_n 1, 1), (3, .bipush 97, 2), (5, .if_icmp .ne 8, 3), (8, .iconst 2, 1), (9, .istore_n 2, 1), (10, .goto 11, 3), (13, .iload_n 1, 1), (14, .bipush 108, 2), (16, .if_icmp .ne 5, 3), (19, .iconst 1, 1), (20, .istore_n 2, 1), (21, .aload_n 0, 1), (22, .aload_n 0, 1), (23, .getfield 29, 3), (26, .iload_n 2, 1), (27, .invokestatic 41, 3), (30, .putfield 29, 3), (33, .return_, 1)]),
  (prog_4_method_4_code, [(0, .aload_n 0, 1), (1, .iload_n 1, 1), (2, .putfield 22, 3), (5, .aload_n 0, 1), (6, .iload_n 2, 1), (7, .putfield 32, 3), (10, .return_, 1)]),
  (prog_5_method_1_code, [(0, .aload_n 0, 1), (1, .invokespecial 3, 3), (4, .aload_n 0, 1), (5, .bipush 20, 2), (7, .anewarray 9, 3), (10, .putfield 11, 3), (13, .aload_n 0, 1), (14, .new 17, 3), (17, .dup, 1), (18, .invokespecial 19, 3), (21, .putfield 20, 3), (24, .aload_n 0, 1), (25, .new 24, 3), (28, .dup, 1), (29, .invokespecial 26, 3), (32, .putfield 27, 3), (35, .aload_n 0, 1), (36, .bipush 60, 2), (38, .anewarray 31, 3), (41, .putfield 33, 3), (44, .aload_n 0, 1), (45, .iconst 0, 1), (46, .putfield 37, 3), (49, .aload_n 0, 1), (50, .iconst 0, 1), (51, .putfield 41, 3), (54, .aload_n 0, 1), (55, .bipush 10, 2), (57, .newarray .boolean, 2), (59, .putfield 44, 3), (62, .aload_n 0, 1), (63, .bipush 60, 2), (65, .newarray .int, 2), (67, .putfield 48, 3), (70, .aload_n 0, 1), (71, .iconst 0, 1), (72, .putfield 52, 3), (75, .iconst 0, 1), (76, .istore_n 1, 1), (77, .iload_n 1, 1), (78, .bipush 20, 2), (80, .if_icmp .ge 22, 3), (83, .aload_n 0, 1), (84, .getfield 11, 3), (87, .iload_n 1, 1), (88, .new 9, 3), (91, .dup, 1), (92, .invokespecial 55, 3), (95, .aastore, 1), (96, .iinc 1 1, 3), (99, .goto (-22), 3), (102, .iconst 0, 1), (103, .istore_n 1, 1), (104, .iload_n 1, 1), (105, .bipush 60, 2), (107, .if_icmp .ge 22, 3), (110, .aload_n 0, 1), (111, .getfield 33, 3), (114, .iload_n 1, 1), (115, .new 31, 3), (118, .dup, 1), (119, .invokespecial 56, 3), (122, .aastore, 1), (123, .iinc 1 1, 3), (126, .goto (-22), 3), (129, .return_, 1)]),
  (prog_5_method_18_code, [(0, .iconst 0, 1), (1, .istore_n 3, 1), (2, .iload_n 3, 1), (3, .aload_n 0, 1), (4, .getfield 37, 3), (7, .if_icmp .ge 51, 3), (10, .aload_n 0, 1), (11, .getfield 33, 3), (14, .iload_n 3, 1), (15, .aaload, 1), (16, .astore 4, 2), (18, .aload 4, 2), (20, .aload_n 2, 1), (21, .if_acmp .eq 31, 3), (24, .aload 4, 2), (26, .getfield 146, 3), (29, .iload_n 1, 1), (30, .baload, 1), (31, .ifCond .eq 21, 3), (34, .aload 4, 2), (36, .aload_n 2, 1), (37, .getfield 61, 3), (40, .aload_n 2, 1), (41, .getfield 64, 3), (44, .invokevirtual 97, 3), (47, .ifCond .eq 5, 3), (50, .iconst 1, 1), (51, .ireturn, 1), (52, .iinc 3 1, 3), (55, .goto (-53), 3), (58, .iconst 0, 1), (59, .ireturn, 1)]),
  (prog_5_method_19_code, [(0, .iconst 0, 1), (1, .istore_n 1, 1), (2, .iload_n 1, 1), (3, .aload_n 0, 1), (4, .getfield 37, 3), (7, .if_icmp .ge 108, 3), (10, .iconst 0, 1), (11, .istore_n 2, 1), (12, .iload_n 2, 1), (13, .iload_n 1, 1), (14, .if_icmp .ge 95, 3), (17, .aload_n 0, 1), (18, .getfield 33, 3), (21, .iload_n 1, 1), (22, .aaload, 1), (23, .getfield 57, 3), (26, .bipush 45, 2), (28, .if_icmp .ne 75, 3), (31, .aload_n 0, 1), (32, .getfield 33, 3), (35, .iload_n 2, 1), (36, .aaload, 1), (37, .aload_n 0, 1), (38, .getfield 33, 3), (41, .iload_n 1, 1), (42, .aaload, 1), (43, .getfield 61, 3), (46, .aload_n 0, 1), (47, .getfield 33, 3), (50, .iload_n 1, 1), (51, .aaload, 1), (52, .getfield 64, 3), (55, .invokevirtual 97, 3), (58, .ifCond .eq 45, 3), (61, .aload_n 0, 1), (62, .getfield 33, 3), (65, .iload_n 1, 1), (66, .aaload, 1), (67, .getfield 101, 3), (70, .aload_n 0, 1), (71, .getfield 33, 3), (74, .iload_n 2, 1), (75, .aaload, 1), (76, .getfield 101, 3), (79, .if_icmp .eq 22, 3), (82, .aload_n 0, 1), (83, .aload_n 0, 1), (84, .getfield 33, 3), (87, .iload_n 1, 1), (88, .aaload, 1), (89, .aload_n 0, 1), (90, .getfield 33, 3), (93, .iload_n 2, 1), (94, .aaload, 1), (95, .invokevirtual 149, 3), (98, .ifCond .eq 5, 3), (101, .iconst 0, 1), (102, .ireturn, 1), (103, .iinc 2 1, 3), (106, .goto (-94), 3), (109, .iinc 1 1, 3), (112, .goto (-110), 3), (115, .iconst 1, 1), (116, .ireturn, 1)]),
  (prog_5_method_20_code, [(0, .aload_n 0, 1), (1, .getfield 11, 3), (4, .aload_n 1, 1), (5, .getfield 104, 3), (8, .aaload, 1), (9, .getfield 94, 3), (12, .istore_n 3, 1), (13, .iload_n 3, 1), (14, .iconst (-1), 1), (15, .if_icmp .eq 23, 3), (18, .aload_n 0, 1), (19, .getfield 11, 3), (22, .aload_n 2, 1), (23, .getfield 104, 3), (26, .aaload, 1), (27, .getfield 94, 3), (30, .iload_n 3, 1), (31, .if_icmp .ne 7, 3), (34, .iconst 1, 1), (35, .goto 4, 3), (38, .iconst 0, 1), (39, .ireturn, 1)]),
  (prog_5_method_21_code, [(0, .iconst 0, 1), (1, .istore_n 2, 1), (2, .iload_n 2, 1), (3, .aload_n 0, 1), (4, .getfield 37, 3), (7, .if_icmp .ge 97, 3), (10, .aload_n 0, 1), (11, .getfield 33, 3), (14, .iload_n 2, 1), (15, .aaload, 1), (16, .invokevirtual 153, 3), (19, .aload_n 0, 1), (20, .getfield 20, 3), (23, .getfield 156, 3), (26, .aload_n 0, 1), (27, .getfield 33, 3), (30, .iload_n 2, 1), (31, .aaload, 1), (32, .getfield 101, 3), (35, .iaload, 1), (36, .if_icmp .le 5, 3), (39, .iconst 0, 1), (40, .ireturn, 1), (41, .iconst 0, 1), (42, .istore_n 3, 1), (43, .iload_n 3, 1), (44, .iload_n 1, 1), (45, .if_icmp .ge 53, 3), (48, .aload_n 0, 1), (49, .getfield 33, 3), (52, .iload_n 2, 1), (53, .aaload, 1), (54, .getfield 57, 3), (57, .bipush 45, 2), (59, .if_icmp .ne 33, 3), (62, .aload_n 0, 1), (63, .getfield 33, 3), (66, .iload_n 2, 1), (67, .aaload, 1), (68, .getfield 146, 3), (71, .iload_n 3, 1), (72, .baload, 1), (73, .ifCond .eq 19, 3), (76, .aload_n 0, 1), (77, .iload_n 3, 1), (78, .aload_n 0, 1), (79, .getfield 33, 3), (82, .iload_n 2, 1), (83, .aaload, 1), (84, .invokevirtual 159, 3), (87, .ifCond .eq 5, 3), (90, .iconst 0, 1), (91, .ireturn, 1), (92, .iinc 3 1, 3), (95, .goto (-52), 3), (98, .iinc 2 1, 3), (101, .goto (-99), 3), (104, .iconst 1, 1), (105, .ireturn, 1)]),
  (prog_6_method_1_code, [(0, .aload_n 0, 1), (1, .invokespecial 3, 3), (4, .aload_n 0, 1), (5, .iconst 0, 1), (6, .putfield 9, 3), (9, .aload_n 0, 1), (10, .bipush 20, 2), (12, .newarray .boolean, 2), (14, .putfield 15, 3), (17, .aload_n 0, 1), (18, .iconst (-1), 1), (19, .putfield 19, 3), (22, .aload_n 0, 1), (23, .iconst (-1), 1), (24, .putfield 22, 3), (27, .aload_n 0, 1), (28, .bipush 9, 2), (30, .newarray .int, 2), (32, .putfield 25, 3), (35, .aload_n 0, 1), (36, .iconst 0, 1), (37, .putfield 29, 3), (40, .return_, 1)]),
  (prog_7_method_1_code, [(0, .aload_n 0, 1), (1, .invokespecial 3, 3), (4, .aload_n 0, 1), (5, .bipush 16, 2), (7, .newarray .int, 2), (9, .putfield 9, 3), (12, .aload_n 0, 1), (13, .iconst 0, 1), (14, .putfield 15, 3), (17, .return_, 1)]),
  (prog_8_method_1_code, [(0, .aload_n 0, 1), (1, .invokespecial 3, 3), (4, .aload_n 0, 1), (5, .bipush 8, 2), (7, .newarray .int, 2), (9, .putfield 9, 3), (12, .aload_n 0, 1), (13, .bipush 8, 2), (15, .newarray .int, 2), (17, .putfield 15, 3), (20, .aload_n 0, 1), (21, .bipush 8, 2), (23, .newarray .int, 2), (25, .putfield 18, 3), (28, .aload_n 0, 1), (29, .bipush 8, 2), (31, .newarray .int, 2), (33, .putfield 21, 3), (36, .aload_n 0, 1), (37, .bipush 20, 2), (39, .bipush 8, 2), (41, .multianewarray 24 2, 4), (45, .putfield 26, 3), (48, .aload_n 0, 1), (49, .iconst 0, 1), (50, .putfield 29, 3), (53, .iconst 0, 1), (54, .istore_n 1, 1), (55, .iload_n 1, 1), (56, .bipush 20, 2), (58, .if_icmp .ge 33, 3), (61, .iconst 0, 1), (62, .istore_n 2, 1), (63, .iload_n 2, 1), (64, .bipush 8, 2), (66, .if_icmp .ge 19, 3), (69, .aload_n 0, 1), (70, .getfield 26, 3), (73, .iload_n 1, 1), (74, .aaload, 1), (75, .iload_n 2, 1), (76, .bipush (-2), 2), (78, .iastore, 1), (79, .iinc 2 1, 3), (82, .goto (-19), 3), (85, .iinc 1 1, 3), (88, .goto (-33), 3), (91, .return_, 1)]),
  (prog_8_method_2_code, [(0, .aload_n 0, 1), (1, .getfield 9, 3), (4, .aload_n 0, 1), (5, .getfield 29, 3), (8, .iload_n 1, 1), (9, .iastore, 1), (10, .aload_n 0, 1), (11, .dup, 1), (12, .getfield 29, 3), (15, .iconst 1, 1), (16, .iadd, 1), (17, .putfield 29, 3), (20, .aload_n 0, 1), (21, .getfield 29, 3), (24, .iconst 1, 1), (25, .isub, 1), (26, .ireturn, 1)]),
  (prog_8_method_3_code, [(0, .aload_n 0, 1), (1, .getfield 9, 3), (4, .iload_n 3, 1), (5, .iaload, 1), (6, .iload_n 2, 1), (7, .if_icmp .eq 20, 3), (10, .aload_n 0, 1), (11, .getfield 26, 3), (14, .iload_n 1, 1), (15, .aaload, 1), (16, .iload_n 3, 1), (17, .iaload, 1), (18, .bipush (-2), 2), (20, .if_icmp .ne 7, 3), (23, .iconst 1, 1), (24, .goto 4, 3), (27, .iconst 0, 1), (28, .ireturn, 1)]),
  (prog_8_method_4_code, [(0, .iconst 0, 1), (1, .istore_n 3, 1), (2, .iconst 0, 1), (3, .istore 4, 2), (5, .iload 4, 2), (7, .aload_n 0, 1), (8, .getfield 29, 3), (11, .if_icmp .ge 23, 3), (14, .aload_n 0, 1), (15, .iload_n 1, 1), (16, .iload_n 2, 1), (17, .iload 4, 2), (19, .invokevirtual 33, 3), (22, .ifCond .eq 6, 3), (25, .iinc 3 1, 3), (28, .iinc 4 1, 3), (31, .goto (-26), 3), (34, .iload_n 3, 1), (35, .ireturn, 1)]),
  (prog_8_method_5_code, [(0, .iconst (-1), 1), (1, .istore_n 3, 1), (2, .iconst 0, 1), (3, .istore 4, 2), (5, .iload 4, 2), (7, .aload_n 0, 1), (8, .getfield 29, 3), (11, .if_icmp .ge 44, 3), (14, .aload_n 0, 1), (15, .iload_n 1, 1), (16, .iload_n 2, 1), (17, .iload 4, 2), (19, .invokevirtual 33, 3), (22, .ifCond .eq 27, 3), (25, .iload_n 3, 1), (26, .iconst (-1), 1), (27, .if_icmp .eq 19, 3), (30, .aload_n 0, 1), (31, .getfield 15, 3), (34, .iload 4, 2), (36, .iaload, 1), (37, .aload_n 0, 1), (38, .getfield 15, 3), (41, .iload_n 3, 1), (42, .iaload, 1), (43, .if_icmp .ge 6, 3), (46, .iload 4, 2), (48, .istore_n 3, 1), (49, .iinc 4 1, 3), (52, .goto (-47), 3), (55, .iload_n 3, 1), (56, .iconst (-1), 1), (57, .if_icmp .eq 22, 3), (60, .aload_n 0, 1), (61, .getfield 26, 3), (64, .iload_n 1, 1), (65, .aaload, 1), (66, .iload_n 3, 1), (67, .iconst (-1), 1), (68, .iastore, 1), (69, .aload_n 0, 1), (70, .getfield 15, 3), (73, .iload_n 3, 1), (74, .dup2, 1), (75, .iaload, 1), (76, .iconst 1, 1), (77, .iadd, 1), (78, .iastore, 1), (79, .return_, 1)]),
  (prog_8_method_6_code, [(0, .iconst 0, 1), (1, .istore_n 2, 1), (2, .iconst 0, 1), (3, .istore_n 3, 1), (4, .iload_n 3, 1), (5, .aload_n 0, 1), (6, .getfield 29, 3), (9, .if_icmp .ge 25, 3), (12, .aload_n 0, 1), (13, .getfield 26, 3), (16, .iload_n 1, 1), (17, .aaload, 1), (18, .iload_n 3, 1), (19, .iaload, 1), (20, .bipush (-2), 2), (22, .if_icmp .eq 6, 3), (25, .iinc 2 1, 3), (28, .iinc 3 1, 3), (31, .goto (-27), 3), (34, .iload_n 2, 1), (35, .ireturn, 1)]),
  (prog_8_method_7_code, [(0, .aload_n 0, 1), (1, .getfield 26, 3), (4, .iload_n 1, 1), (5, .aaload, 1), (6, .iload_n 2, 1), (7, .iload_n 3, 1), (8, .iastore, 1), (9, .aload_n 0, 1), (10, .getfield 18, 3), (13, .iload_n 2, 1), (14, .dup2, 1), (15, .iaload, 1), (16, .iconst 1, 1), (17, .iadd, 1), (18, .iastore, 1), (19, .aload_n 0, 1), (20, .getfield 21, 3), (23, .iload_n 2, 1), (24, .dup2, 1), (25, .iaload, 1), (26, .iload_n 3, 1), (27, .iadd, 1), (28, .iastore, 1), (29, .return_, 1)])]
noncomputable def a_prog_2 : List (ByteArray × List (Nat × Instr × Nat)) := [
  (prog_8_method_8_code, [(0, .iconst 0, 1), (1, .istore_n 2, 1), (2, .iconst 0, 1), (3, .istore_n 3, 1), (4, .iload_n 3, 1), (5, .aload_n 0, 1), (6, .getfield 29, 3), (9, .if_icmp .ge 23, 3), (12, .aload_n 0, 1), (13, .getfield 26, 3), (16, .iload_n 1, 1), (17, .aaload, 1), (18, .iload_n 3, 1), (19, .iaload, 1), (20, .ifCond .lt 6, 3), (23, .iinc 2 1, 3), (26, .iinc 3 1, 3), (29, .goto (-25), 3), (32, .iload_n 2, 1), (33, .ireturn, 1)]),
  (prog_8_method_9_code, [(0, .aload_n 0, 1), (1, .getfield 18, 3), (4, .iload_n 2, 1), (5, .iaload, 1), (6, .ifCond .ne 7, 3), (9, .iconst 0, 1), (10, .goto 16, 3), (13, .aload_n 0, 1), (14, .getfield 21, 3), (17, .iload_n 2, 1), (18, .iaload, 1), (19, .aload_n 0, 1), (20, .getfield 18, 3), (23, .iload_n 2, 1), (24, .iaload, 1), (25, .idiv, 1), (26, .istore_n 3, 1), (27, .aload_n 0, 1), (28, .getfield 26, 3), (31, .iload_n 1, 1), (32, .aaload, 1), (33, .iload_n 2, 1), (34, .iaload, 1), (35, .iload_n 3, 1), (36, .isub, 1), (37, .bipush 50, 2), (39, .iadd, 1), (40, .ireturn, 1)]),
  (prog_8_method_10_code, [(0, .iconst 0, 1), (1, .istore_n 2, 1), (2, .iconst 0, 1), (3, .istore_n 3, 1), (4, .iconst 0, 1), (5, .istore 4, 2), (7, .iload 4, 2), (9, .aload_n 0, 1), (10, .getfield 29, 3), (13, .if_icmp .ge 34, 3), (16, .aload_n 0, 1), (17, .getfield 26, 3), (20, .iload_n 1, 1), (21, .aaload, 1), (22, .iload 4, 2), (24, .iaload, 1), (25, .ifCond .lt 16, 3), (28, .iload_n 2, 1), (29, .aload_n 0, 1), (30, .iload_n 1, 1), (31, .iload 4, 2), (33, .invokevirtual 37, 3), (36, .iadd, 1), (37, .istore_n 2, 1), (38, .iinc 3 1, 3), (41, .iinc 4 1, 3), (44, .goto (-37), 3), (47, .iload_n 3, 1), (48, .ifCond .ne 7, 3), (51, .iconst 0, 1), (52, .goto 6, 3), (55, .iload_n 2, 1), (56, .iload_n 3, 1), (57, .idiv, 1), (58, .ireturn, 1)]),
  (prog_8_method_11_code, [(0, .iconst 0, 1), (1, .istore_n 2, 1), (2, .iconst 0, 1), (3, .istore_n 3, 1), (4, .iconst 0, 1), (5, .istore 4, 2), (7, .iconst 0, 1), (8, .istore 5, 2), (10, .iload 5, 2), (12, .aload_n 0, 1), (13, .getfield 29, 3), (16, .if_icmp .ge 67, 3), (19, .aload_n 0, 1), (20, .getfield 26, 3), (23, .iload_n 1, 1), (24, .aaload, 1), (25, .iload 5, 2), (27, .iaload, 1), (28, .ifCond .lt 49, 3), (31, .aload_n 0, 1), (32, .iload_n 1, 1), (33, .iload 5, 2), (35, .invokevirtual 37, 3), (38, .istore 6, 2), (40, .iload 4, 2), (42, .ifCond .eq 12, 3), (45, .iload_n 2, 1), (46, .iload 6, 2), (48, .invokestatic 41, 3), (51, .goto 5, 3), (54, .iload 6, 2), (56, .istore_n 2, 1), (57, .iload 4, 2), (59, .ifCond .eq 12, 3), (62, .iload_n 3, 1), (63, .iload 6, 2), (65, .invokestatic 46, 3), (68, .goto 5, 3), (71, .iload 6, 2), (73, .istore_n 3, 1), (74, .iconst 1, 1), (75, .istore 4, 2), (77, .iinc 5 1, 3), (80, .goto (-70), 3), (83, .iload_n 3, 1), (84, .iload_n 2, 1), (85, .isub, 1), (86, .ireturn, 1)]),
  (prog_9_method_1_code, [(0, .aload_n 0, 1), (1, .invokespecial 3, 3), (4, .aload_n 0, 1), (5, .bipush 40, 2), (7, .newarray .int, 2), (9, .putfield 9, 3), (12, .aload_n 0, 1), (13, .bipush 40, 2), (15, .newarray .int, 2), (17, .putfield 15, 3), (20, .aload_n 0, 1), (21, .bipush 40, 2), (23, .newarray .int, 2), (25, .putfield 18, 3), (28, .aload_n 0, 1), (29, .bipush 40, 2), (31, .newarray .int, 2), (33, .putfield 21, 3), (36, .aload_n 0, 1), (37, .bipush 40, 2), (39, .newarray .int, 2), (41, .putfield 24, 3), (44, .aload_n 0, 1), (45, .iconst 0, 1), (46, .putfield 27, 3), (49, .return_, 1)]),
  (prog_9_method_3_code, [(0, .aload_n 0, 1), (1, .getfield 9, 3), (4, .iload_n 1, 1), (5, .iaload, 1), (6, .iload_n 2, 1), (7, .if_icmp .ne 39, 3), (10, .aload_n 0, 1), (11, .getfield 15, 3), (14, .iload_n 1, 1), (15, .iaload, 1), (16, .iload_n 3, 1), (17, .if_icmp .ne 29, 3), (20, .aload_n 0, 1), (21, .getfield 18, 3), (24, .iload_n 1, 1), (25, .iaload, 1), (26, .iload 5, 2), (28, .if_icmp .gt 18, 3), (31, .iload 4, 2), (33, .aload_n 0, 1), (34, .getfield 21, 3), (37, .iload_n 1, 1), (38, .iaload, 1), (39, .if_icmp .gt 7, 3), (42, .iconst 1, 1), (43, .goto 4, 3), (46, .iconst 0, 1), (47, .ireturn, 1)]),
  (prog_9_method_6_code, [(0, .iconst 0, 1), (1, .istore_n 1, 1), (2, .iload_n 1, 1), (3, .aload_n 0, 1), (4, .getfield 27, 3), (7, .if_icmp .ge 56, 3), (10, .iconst 0, 1), (11, .istore_n 2, 1), (12, .iload_n 2, 1), (13, .iload_n 1, 1), (14, .if_icmp .ge 43, 3), (17, .aload_n 0, 1), (18, .iload_n 2, 1), (19, .aload_n 0, 1), (20, .getfield 9, 3), (23, .iload_n 1, 1), (24, .iaload, 1), (25, .aload_n 0, 1), (26, .getfield 15, 3), (29, .iload_n 1, 1), (30, .iaload, 1), (31, .aload_n 0, 1), (32, .getfield 18, 3), (35, .iload_n 1, 1), (36, .iaload, 1), (37, .aload_n 0, 1), (38, .getfield 21, 3), (41, .iload_n 1, 1), (42, .iaload, 1), (43, .invokevirtual 31, 3), (46, .ifCond .eq 5, 3), (49, .iconst 0, 1), (50, .ireturn, 1), (51, .iinc 2 1, 3), (54, .goto (-42), 3), (57, .iinc 1 1, 3), (60, .goto (-58), 3), (63, .iconst 1, 1), (64, .ireturn, 1)]),
  (prog_10_method_1_code, [(0, .aload_n 0, 1), (1, .invokespecial 3, 3), (4, .aload_n 0, 1), (5, .iconst 0, 1), (6, .putfield 9, 3), (9, .aload_n 0, 1), (10, .iconst 0, 1), (11, .putfield 15, 3), (14, .aload_n 0, 1), (15, .iconst 0, 1), (16, .putfield 18, 3), (19, .aload_n 0, 1), (20, .bipush 45, 2), (22, .putfield 21, 3), (25, .aload_n 0, 1), (26, .iconst 0, 1), (27, .putfield 25, 3), (30, .aload_n 0, 1), (31, .bipush 109, 2), (33, .putfield 28, 3), (36, .aload_n 0, 1), (37, .iconst 0, 1), (38, .putfield 31, 3), (41, .aload_n 0, 1), (42, .iconst 5, 1), (43, .anewarray 35, 3), (46, .putfield 37, 3), (49, .aload_n 0, 1), (50, .iconst 0, 1), (51, .putfield 41, 3), (54, .iconst 0, 1), (55, .istore_n 1, 1), (56, .iload_n 1, 1), (57, .iconst 5, 1), (58, .if_icmp .ge 22, 3), (61, .aload_n 0, 1), (62, .getfield 37, 3), (65, .iload_n 1, 1), (66, .new 35, 3), (69, .dup, 1), (70, .invokespecial 44, 3), (73, .aastore, 1), (74, .iinc 1 1, 3), (77, .goto (-21), 3), (80, .return_, 1)]),
  (prog_10_method_2_code, [(0, .aload_n 0, 1), (1, .iload_n 1, 1), (2, .putfield 9, 3), (5, .aload_n 0, 1), (6, .iload_n 2, 1), (7, .putfield 15, 3), (10, .aload_n 0, 1), (11, .iload_n 3, 1), (12, .putfield 18, 3), (15, .aload_n 0, 1), (16, .iload 4, 2), (18, .putfield 21, 3), (21, .aload_n 0, 1), (22, .iload 5, 2), (24, .putfield 25, 3), (27, .return_, 1)]),
  (prog_11_method_1_code, [(0, .aload_n 0, 1), (1, .invokespecial 3, 3), (4, .aload_n 0, 1), (5, .iconst 0, 1), (6, .putfield 9, 3), (9, .aload_n 0, 1), (10, .iconst 0, 1), (11, .putfield 15, 3), (14, .aload_n 0, 1), (15, .iconst 0, 1), (16, .putfield 18, 3), (19, .aload_n 0, 1), (20, .iconst 0, 1), (21, .putfield 21, 3), (24, .aload_n 0, 1), (25, .bipush 45, 2), (27, .putfield 24, 3), (30, .aload_n 0, 1), (31, .iconst 0, 1), (32, .putfield 28, 3), (35, .aload_n 0, 1), (36, .bipush 16, 2), (38, .newarray .int, 2), (40, .putfield 32, 3), (43, .aload_n 0, 1), (44, .iconst 0, 1), (45, .putfield 36, 3), (48, .aload_n 0, 1), (49, .bipush 16, 2), (51, .newarray .boolean, 2), (53, .putfield 39, 3), (56, .return_, 1)]),
  (prog_11_method_3_code, [(0, .aload_n 0, 1), (1, .getfield 24, 3), (4, .bipush 45, 2), (6, .if_icmp .ne 30, 3), (9, .aload_n 0, 1), (10, .getfield 18, 3), (13, .iload_n 1, 1), (14, .iload_n 2, 1), (15, .iadd, 1), (16, .if_icmp .ge 20, 3), (19, .iload_n 1, 1), (20, .aload_n 0, 1), (21, .getfield 18, 3), (24, .aload_n 0, 1), (25, .getfield 21, 3), (28, .iadd, 1), (29, .if_icmp .ge 7, 3), (32, .iconst 1, 1), (33, .goto 4, 3), (36, .iconst 0, 1), (37, .ireturn, 1)]),
  (prog_11_method_6_code, [(0, .iconst 0, 1), (1, .istore_n 1, 1), (2, .iconst 0, 1), (3, .istore_n 2, 1), (4, .iload_n 2, 1), (5, .bipush 16, 2), (7, .if_icmp .ge 21, 3), (10, .aload_n 0, 1), (11, .getfield 39, 3), (14, .iload_n 2, 1), (15, .baload, 1), (16, .ifCond .eq 6, 3), (19, .iinc 1 1, 3), (22, .iinc 2 1, 3), (25, .goto (-21), 3), (28, .iload_n 1, 1), (29, .ireturn, 1)]),
  (prog_12_method_1_code, [(0, .aload_n 0, 1), (1, .invokespecial 3, 3), (4, .aload_n 0, 1), (5, .iconst 4, 1), (6, .newarray .int, 2), (8, .putfield 9, 3), (11, .aload_n 0, 1), (12, .iconst 4, 1), (13, .newarray .boolean, 2), (15, .putfield 15, 3), (18, .aload_n 0, 1), (19, .iconst 0, 1), (20, .putfield 19, 3), (23, .aload_n 0, 1), (24, .bipush 60, 2), (26, .newarray .int, 2), (28, .putfield 23, 3), (31, .aload_n 0, 1), (32, .bipush 60, 2), (34, .newarray .int, 2), (36, .putfield 26, 3), (39, .aload_n 0, 1), (40, .bipush 60, 2), (42, .newarray .int, 2), (44, .putfield 29, 3), (47, .aload_n 0, 1), (48, .bipush 60, 2), (50, .newarray .int, 2), (52, .putfield 32, 3), (55, .aload_n 0, 1), (56, .iconst 0, 1), (57, .putfield 35, 3), (60, .return_, 1)]),
  (prog_1_method_1_code, [(0, .aload_n 0, 1), (1, .invokespecial 1, 3), (4, .aload_n 0, 1), (5, .new 7, 3), (8, .dup, 1), (9, .invokespecial 9, 3), (12, .putfield 10, 3), (15, .aload_n 0, 1), (16, .aload_n 0, 1), (17, .getfield 10, 3), (20, .getfield 16, 3), (23, .putfield 20, 3), (26, .aload_n 0, 1), (27, .aload_n 0, 1), (28, .getfield 10, 3), (31, .getfield 21, 3), (34, .putfield 25, 3), (37, .aload_n 0, 1), (38, .aload_n 0, 1), (39, .getfield 10, 3), (42, .getfield 26, 3), (45, .putfield 30, 3), (48, .aload_n 0, 1), (49, .iconst 0, 1), (50, .putfield 31, 3), (53, .aload_n 0, 1), (54, .iconst 5, 1), (55, .anewarray 35, 3), (58, .putfield 37, 3), (61, .aload_n 0, 1), (62, .iconst 0, 1), (63, .putfield 41, 3), (66, .aload_n 0, 1), (67, .new 44, 3), (70, .dup, 1), (71, .invokespecial 46, 3), (74, .putfield 47, 3), (77, .aload_n 0, 1), (78, .new 51, 3), (81, .dup, 1), (82, .invokespecial 53, 3), (85, .putfield 54, 3), (88, .aload_n 0, 1), (89, .new 58, 3), (92, .dup, 1), (93, .invokespecial 60, 3), (96, .putfield 61, 3), (99, .aload_n 0, 1), (100, .new 65, 3), (103, .dup, 1), (104, .invokespecial 67, 3), (107, .putfield 68, 3), (110, .aload_n 0, 1), (111, .bipush 9, 2), (113, .newarray .int, 2), (115, .putfield 72, 3), (118, .aload_n 0, 1), (119, .iconst 0, 1), (120, .putfield 76, 3), (123, .aload_n 0, 1), (124, .bipush 20, 2), (126, .newarray .int, 2), (128, .putfield 79, 3), (131, .aload_n 0, 1), (132, .bipush 20, 2), (134, .newarray .int, 2), (136, .putfield 82, 3), (139, .iconst 0, 1), (140, .istore_n 1, 1), (141, .iload_n 1, 1), (142, .iconst 5, 1), (143, .if_icmp .ge 22, 3), (146, .aload_n 0, 1), (147, .getfield 37, 3), (150, .iload_n 1, 1), (151, .new 35, 3), (154, .dup, 1), (155, .invokespecial 85, 3), (158, .aastore, 1), (159, .iinc 1 1, 3), (162, .goto (-21), 3), (165, .return_, 1)]),
  (prog_1_method_2_code, [(0, .iload_n 1, 1), (1, .invokestatic 86, 3), (4, .ifCond .eq 24, 3), (7, .iload_n 2, 1), (8, .iconst 1, 1), (9, .sipush 300, 3), (12, .invokestatic 90, 3), (15, .ifCond .eq 13, 3), (18, .iload_n 3, 1), (19, .iconst 0, 1), (20, .bipush 9, 2), (22, .invokestatic 90, 3), (25, .ifCond .ne 13, 3), (28, .new 94, 3), (31, .dup, 1), (32, .ldc 96, 2), (34, .invokespecial 98, 3), (37, .athrow, 1), (38, .aload_n 0, 1), (39, .getfield 31, 3), (42, .bipush 20, 2), (44, .if_icmp .lt 13, 3), (47, .new 101, 3), (50, .dup, 1), (51, .ldc 103, 2), (53, .invokespecial 105, 3), (56, .athrow, 1), (57, .aload_n 0, 1), (58, .getfield 20, 3), (61, .aload_n 0, 1), (62, .getfield 31, 3), (65, .aaload, 1), (66, .iload_n 1, 1), (67, .iload_n 2, 1), (68, .iload_n 3, 1), (69, .invokevirtual 106, 3), (72, .aload_n 0, 1), (73, .dup, 1), (74, .getfield 31, 3), (77, .iconst 1, 1), (78, .iadd, 1), (79, .putfield 31, 3), (82, .aload_n 0, 1), (83, .getfield 31, 3), (86, .iconst 1, 1), (87, .isub, 1), (88, .ireturn, 1)]),
  (prog_1_method_3_code, [(0, .iload_n 1, 1), (1, .iconst 0, 1), (2, .bipush 9, 2), (4, .invokestatic 90, 3), (7, .ifCond .ne 13, 3), (10, .new 94, 3), (13, .dup, 1), (14, .ldc 112, 2), (16, .invokespecial 98, 3), (19, .athrow, 1), (20, .aload_n 0, 1), (21, .getfield 47, 3), (24, .getfield 114, 3), (27, .bipush 8, 2), (29, .if_icmp .lt 13, 3), (32, .new 101, 3), (35, .dup, 1), (36, .ldc 117, 2), (38, .invokespecial 105, 3), (41, .athrow, 1), (42, .aload_n 0, 1), (43, .getfield 47, 3), (46, .iload_n 1, 1), (47, .invokevirtual 119, 3), (50, .ireturn, 1)]),
  (prog_1_method_4_code, [(0, .aload_n 0, 1), (1, .iload_n 1, 1), (2, .invokevirtual 123, 3), (5, .iload_n 2, 1), (6, .iconst 1, 1), (7, .bipush 8, 2), (9, .invokestatic 90, 3), (12, .ifCond .ne 13, 3), (15, .new 94, 3), (18, .dup, 1), (19, .ldc 127, 2), (21, .invokespecial 98, 3), (24, .athrow, 1), (25, .aload_n 0, 1), (26, .getfield 20, 3), (29, .iload_n 1, 1), (30, .aaload, 1), (31, .getfield 129, 3), (34, .istore_n 3, 1), (35, .aload_n 0, 1), (36, .getfield 47, 3), (39, .iload_n 1, 1), (40, .iload_n 3, 1), (41, .invokevirtual 132, 3), (44, .iload_n 2, 1), (45, .if_icmp .ge 13, 3), (48, .new 136, 3), (51, .dup, 1), (52, .ldc 138, 2), (54, .invokespecial 140, 3), (57, .athrow, 1), (58, .iconst 0, 1), (59, .istore 4, 2), (61, .iload 4, 2), (63, .iload_n 2, 1), (64, .if_icmp .ge 18, 3), (67, .aload_n 0, 1), (68, .getfield 47, 3), (71, .iload_n 1, 1), (72, .iload_n 3, 1), (73, .invokevirtual 141, 3), (76, .iinc 4 1, 3), (79, .goto (-18), 3), (82, .aload_n 0, 1), (83, .getfield 47, 3), (86, .iload_n 1, 1), (87, .invokevirtual 145, 3), (90, .ireturn, 1)]),
  (prog_1_method_5_code, [(0, .aload_n 0, 1), (1, .iload_n 1, 1), (2, .invokevirtual 123, 3), (5, .aload_n 0, 1), (6, .iload_n 2, 1), (7, .invokevirtual 148, 3), (10, .aload_n 0, 1), (11, .getfield 47, 3), (14, .getfield 151, 3), (17, .iload_n 1, 1), (18, .aaload, 1), (19, .iload_n 2, 1), (20, .iaload, 1), (21, .bipush (-2), 2), (23, .if_icmp .eq 7, 3), (26, .iconst 1, 1), (27, .goto 4, 3), (30, .iconst 0, 1), (31, .ireturn, 1)]),
  (prog_1_method_6_code, [(0, .aload_n 0, 1), (1, .iload_n 1, 1), (2, .invokevirtual 123, 3), (5, .aload_n 0, 1), (6, .iload_n 2, 1), (7, .invokevirtual 148, 3), (10, .iload_n 3, 1), (11, .iconst 0, 1), (12, .bipush 100, 2), (14, .invokestatic 90, 3), (17, .ifCond .ne 13, 3), (20, .new 94, 3), (23, .dup, 1), (24, .ldc 155, 2), (26, .invokespecial 98, 3), (29, .athrow, 1), (30, .aload_n 0, 1), (31, .getfield 47, 3), (34, .getfield 151, 3), (37, .iload_n 1, 1), (38, .aaload, 1), (39, .iload_n 2, 1), (40, .iaload, 1), (41, .iconst (-1), 1), (42, .if_icmp .eq 13, 3), (45, .new 136, 3), (48, .dup, 1), (49, .ldc 157, 2), (51, .invokespecial 140, 3), (54, .athrow, 1), (55, .aload_n 0, 1), (56, .getfield 47, 3), (59, .iload_n 1, 1), (60, .iload_n 2, 1), (61, .iload_n 3, 1), (62, .invokevirtual 159, 3), (65, .aload_n 0, 1), (66, .getfield 47, 3), (69, .iload_n 1, 1), (70, .invokevirtual 163, 3), (73, .ireturn, 1)]),
  (prog_1_method_7_code, [(0, .aload_n 0, 1), (1, .iload_n 1, 1), (2, .invokevirtual 123, 3), (5, .aload_n 0, 1), (6, .iload_n 2, 1), (7, .invokevirtual 148, 3), (10, .aload_n 0, 1), (11, .getfield 47, 3), (14, .getfield 151, 3), (17, .iload_n 1, 1), (18, .aaload, 1), (19, .iload_n 2, 1), (20, .iaload, 1), (21, .ifCond .ge 13, 3), (24, .new 166, 3), (27, .dup, 1), (28, .ldc 168, 2), (30, .invokespecial 170, 3), (33, .athrow, 1), (34, .aload_n 0, 1), (35, .getfield 47, 3), (38, .iload_n 1, 1), (39, .iload_n 2, 1), (40, .invokevirtual 171, 3), (43, .ireturn, 1)])]
noncomputable def a_prog_3 : List (ByteArray × List (Nat × Instr × Nat)) := [
  (prog_1_method_8_code, [(0, .aload_n 0, 1), (1, .iload_n 1, 1), (2, .invokevirtual 123, 3), (5, .aload_n 0, 1), (6, .getfield 47, 3), (9, .iload_n 1, 1), (10, .invokevirtual 163, 3), (13, .ifCond .ne 13, 3), (16, .new 166, 3), (19, .dup, 1), (20, .ldc 174, 2), (22, .invokespecial 170, 3), (25, .athrow, 1), (26, .aload_n 0, 1), (27, .getfield 47, 3), (30, .iload_n 1, 1), (31, .invokevirtual 176, 3), (34, .ireturn, 1)]),
  (prog_1_method_9_code, [(0, .aload_n 0, 1), (1, .iload_n 1, 1), (2, .invokevirtual 123, 3), (5, .aload_n 0, 1), (6, .getfield 47, 3), (9, .iload_n 1, 1), (10, .invokevirtual 179, 3), (13, .bipush 30, 2), (15, .if_icmp .le 7, 3), (18, .iconst 1, 1), (19, .goto 4, 3), (22, .iconst 0, 1), (23, .ireturn, 1)]),
  (prog_1_method_10_code, [(0, .aload_n 0, 1), (1, .iload_n 1, 1), (2, .invokevirtual 123, 3), (5, .iload_n 2, 1), (6, .bipush 97, 2), (8, .if_icmp .eq 25, 3), (11, .iload_n 2, 1), (12, .bipush 108, 2), (14, .if_icmp .eq 19, 3), (17, .iload_n 2, 1), (18, .bipush 116, 2), (20, .if_icmp .eq 13, 3), (23, .new 94, 3), (26, .dup, 1), (27, .ldc 182, 2), (29, .invokespecial 98, 3), (32, .athrow, 1), (33, .aload_n 0, 1), (34, .getfield 20, 3), (37, .iload_n 1, 1), (38, .aaload, 1), (39, .iload_n 2, 1), (40, .invokevirtual 184, 3), (43, .aload_n 0, 1), (44, .getfield 20, 3), (47, .iload_n 1, 1), (48, .aaload, 1), (49, .getfield 188, 3), (52, .invokestatic 191, 3), (55, .ireturn, 1)]),
  (prog_1_method_11_code, [(0, .iload_n 1, 1), (1, .iconst 1, 1), (2, .bipush 9, 2), (4, .invokestatic 90, 3), (7, .ifCond .eq 24, 3), (10, .iload_n 2, 1), (11, .iconst 1, 1), (12, .sipush 2000, 3), (15, .invokestatic 90, 3), (18, .ifCond .eq 13, 3), (21, .iload_n 3, 1), (22, .iconst 0, 1), (23, .bipush 100, 2), (25, .invokestatic 90, 3), (28, .ifCond .ne 13, 3), (31, .new 94, 3), (34, .dup, 1), (35, .ldc 195, 2), (37, .invokespecial 98, 3), (40, .athrow, 1), (41, .iload 4, 2), (43, .bipush 45, 2), (45, .if_icmp .eq 11, 3), (48, .iload 4, 2), (50, .invokestatic 86, 3), (53, .ifCond .eq 12, 3), (56, .iload 5, 2), (58, .invokestatic 197, 3), (61, .iconst (-1), 1), (62, .if_icmp .ne 13, 3), (65, .new 94, 3), (68, .dup, 1), (69, .ldc 201, 2), (71, .invokespecial 98, 3), (74, .athrow, 1), (75, .aload_n 0, 1), (76, .getfield 41, 3), (79, .iconst 5, 1), (80, .if_icmp .lt 13, 3), (83, .new 101, 3), (86, .dup, 1), (87, .ldc 203, 2), (89, .invokespecial 105, 3), (92, .athrow, 1), (93, .aload_n 0, 1), (94, .getfield 37, 3), (97, .aload_n 0, 1), (98, .getfield 41, 3), (101, .aaload, 1), (102, .iload_n 1, 1), (103, .iload_n 2, 1), (104, .iload_n 3, 1), (105, .iload 4, 2), (107, .iload 5, 2), (109, .invokestatic 197, 3), (112, .invokevirtual 205, 3), (115, .aload_n 0, 1), (116, .dup, 1), (117, .getfield 41, 3), (120, .iconst 1, 1), (121, .iadd, 1), (122, .putfield 41, 3), (125, .aload_n 0, 1), (126, .getfield 41, 3), (129, .iconst 1, 1), (130, .isub, 1), (131, .ireturn, 1)]),
  (prog_1_method_12_code, [(0, .aload_n 0, 1), (1, .iload_n 1, 1), (2, .invokevirtual 208, 3), (5, .aload_n 0, 1), (6, .invokevirtual 211, 3), (9, .istore_n 2, 1), (10, .iconst 0, 1), (11, .istore_n 3, 1), (12, .iconst 0, 1), (13, .istore 4, 2), (15, .iload 4, 2), (17, .iload_n 2, 1), (18, .if_icmp .ge 69, 3), (21, .aload_n 0, 1), (22, .getfield 79, 3), (25, .iload 4, 2), (27, .iaload, 1), (28, .istore 5, 2), (30, .aload_n 0, 1), (31, .iload 5, 2), (33, .aload_n 0, 1), (34, .getfield 82, 3), (37, .iload 4, 2), (39, .iaload, 1), (40, .iload_n 1, 1), (41, .invokevirtual 215, 3), (44, .ifCond .eq 37, 3), (47, .aload_n 0, 1), (48, .getfield 20, 3), (51, .iload 5, 2), (53, .aaload, 1), (54, .iload_n 1, 1), (55, .aload_n 0, 1), (56, .getfield 37, 3), (59, .iload_n 1, 1), (60, .aaload, 1), (61, .getfield 218, 3), (64, .invokevirtual 221, 3), (67, .aload_n 0, 1), (68, .getfield 30, 3), (71, .bipush 99, 2), (73, .iload 5, 2), (75, .invokevirtual 224, 3), (78, .iinc 3 1, 3), (81, .iinc 4 1, 3), (84, .goto (-69), 3), (87, .iload_n 3, 1), (88, .ireturn, 1)]),
  (prog_1_method_13_code, [(0, .aload_n 0, 1), (1, .iload_n 1, 1), (2, .invokevirtual 123, 3), (5, .aload_n 0, 1), (6, .getfield 20, 3), (9, .iload_n 1, 1), (10, .aaload, 1), (11, .getfield 230, 3), (14, .iconst (-1), 1), (15, .if_icmp .ne 13, 3), (18, .new 166, 3), (21, .dup, 1), (22, .ldc 233, 2), (24, .invokespecial 170, 3), (27, .athrow, 1), (28, .aload_n 0, 1), (29, .getfield 20, 3), (32, .iload_n 1, 1), (33, .aaload, 1), (34, .getfield 230, 3), (37, .ireturn, 1)]),
  (prog_1_method_14_code, [(0, .aload_n 0, 1), (1, .iload_n 1, 1), (2, .invokevirtual 208, 3), (5, .aload_n 0, 1), (6, .iload_n 1, 1), (7, .invokevirtual 235, 3), (10, .ireturn, 1)]),
  (prog_1_method_49_code, [(0, .aload_n 0, 1), (1, .getfield 10, 3), (4, .invokevirtual 546, 3), (7, .ifCond .eq 48, 3), (10, .aload_n 0, 1), (11, .getfield 10, 3), (14, .aload_n 0, 1), (15, .getfield 54, 3), (18, .getfield 389, 3), (21, .invokevirtual 549, 3), (24, .ifCond .eq 31, 3), (27, .aload_n 0, 1), (28, .invokevirtual 552, 3), (31, .ifCond .eq 24, 3), (34, .aload_n 0, 1), (35, .invokevirtual 555, 3), (38, .ifCond .eq 17, 3), (41, .aload_n 0, 1), (42, .getfield 68, 3), (45, .invokevirtual 558, 3), (48, .ifCond .eq 7, 3), (51, .iconst 1, 1), (52, .goto 4, 3), (55, .iconst 0, 1), (56, .ireturn, 1)]),
  (prog_1_method_50_code, [(0, .iload_n 0, 1), (1, .iload_n 1, 1), (2, .if_icmp .lt 12, 3), (5, .iload_n 0, 1), (6, .iload_n 2, 1), (7, .if_icmp .gt 7, 3), (10, .iconst 1, 1), (11, .goto 4, 3), (14, .iconst 0, 1), (15, .ireturn, 1)]),
  (prog_1_method_51_code, [(0, .iload_n 0, 1), (1, .bipush 102, 2), (3, .if_icmp .eq 15, 3), (6, .iload_n 0, 1), (7, .bipush 115, 2), (9, .if_icmp .eq 9, 3), (12, .iload_n 0, 1), (13, .bipush 100, 2), (15, .if_icmp .ne 7, 3), (18, .iconst 1, 1), (19, .goto 4, 3), (22, .iconst 0, 1), (23, .ireturn, 1)]),
  (prog_1_method_52_code, [(0, .iload_n 0, 1), (1, .bipush 119, 2), (3, .if_icmp .ne 5, 3), (6, .iconst 3, 1), (7, .ireturn, 1), (8, .iload_n 0, 1), (9, .bipush 108, 2), (11, .if_icmp .ne 5, 3), (14, .iconst 2, 1), (15, .ireturn, 1), (16, .iload_n 0, 1), (17, .bipush 116, 2), (19, .if_icmp .ne 5, 3), (22, .iconst 1, 1), (23, .ireturn, 1), (24, .iload_n 0, 1), (25, .bipush 45, 2), (27, .if_icmp .ne 7, 3), (30, .iconst 0, 1), (31, .goto 4, 3), (34, .iconst (-1), 1), (35, .ireturn, 1)]),
  (prog_1_method_53_code, [(0, .iload_n 0, 1), (1, .iconst 3, 1), (2, .if_icmp .ne 6, 3), (5, .bipush 119, 2), (7, .ireturn, 1), (8, .iload_n 0, 1), (9, .iconst 2, 1), (10, .if_icmp .ne 6, 3), (13, .bipush 108, 2), (15, .ireturn, 1), (16, .iload_n 0, 1), (17, .iconst 1, 1), (18, .if_icmp .ne 8, 3), (21, .bipush 116, 2), (23, .goto 5, 3), (26, .bipush 45, 2), (28, .ireturn, 1)]),
  (prog_1_method_54_code, [(0, .iload_n 0, 1), (1, .iconst 0, 1), (2, .iload_n 1, 1), (3, .iconst 1, 1), (4, .isub, 1), (5, .invokestatic 90, 3), (8, .ifCond .ne 14, 3), (11, .new 561, 3), (14, .dup, 1), (15, .ldc_w 563, 3), (18, .invokespecial 565, 3), (21, .athrow, 1), (22, .return_, 1)]),
  (prog_1_method_55_code, [(0, .iload_n 1, 1), (1, .aload_n 0, 1), (2, .getfield 31, 3), (5, .invokestatic 566, 3), (8, .return_, 1)]),
  (prog_1_method_56_code, [(0, .iload_n 1, 1), (1, .aload_n 0, 1), (2, .getfield 47, 3), (5, .getfield 114, 3), (8, .invokestatic 566, 3), (11, .return_, 1)]),
  (prog_1_method_57_code, [(0, .iload_n 1, 1), (1, .aload_n 0, 1), (2, .getfield 41, 3), (5, .invokestatic 566, 3), (8, .return_, 1)]),
  (prog_1_method_63_code, [(0, .iload_n 1, 1), (1, .istore 4, 2), (3, .iload 4, 2), (5, .ifCond .le 54, 3), (8, .aload_n 0, 1), (9, .getfield 82, 3), (12, .iload 4, 2), (14, .iconst 1, 1), (15, .isub, 1), (16, .iaload, 1), (17, .iload_n 3, 1), (18, .if_icmp .ge 41, 3), (21, .aload_n 0, 1), (22, .getfield 79, 3), (25, .iload 4, 2), (27, .aload_n 0, 1), (28, .getfield 79, 3), (31, .iload 4, 2), (33, .iconst 1, 1), (34, .isub, 1), (35, .iaload, 1), (36, .iastore, 1), (37, .aload_n 0, 1), (38, .getfield 82, 3), (41, .iload 4, 2), (43, .aload_n 0, 1), (44, .getfield 82, 3), (47, .iload 4, 2), (49, .iconst 1, 1), (50, .isub, 1), (51, .iaload, 1), (52, .iastore, 1), (53, .iinc 4 (-1), 3), (56, .goto (-53), 3), (59, .aload_n 0, 1), (60, .getfield 79, 3), (63, .iload 4, 2), (65, .iload_n 2, 1), (66, .iastore, 1), (67, .aload_n 0, 1), (68, .getfield 82, 3), (71, .iload 4, 2), (73, .iload_n 3, 1), (74, .iastore, 1), (75, .return_, 1)]),
  (prog_1_method_64_code, [(0, .iconst 0, 1), (1, .istore_n 1, 1), (2, .iconst 0, 1), (3, .istore_n 2, 1), (4, .iload_n 2, 1), (5, .aload_n 0, 1), (6, .getfield 31, 3), (9, .if_icmp .ge 37, 3), (12, .aload_n 0, 1), (13, .getfield 47, 3), (16, .iload_n 2, 1), (17, .invokevirtual 163, 3), (20, .ifCond .le 20, 3), (23, .aload_n 0, 1), (24, .iload_n 1, 1), (25, .iload_n 2, 1), (26, .aload_n 0, 1), (27, .getfield 47, 3), (30, .iload_n 2, 1), (31, .invokevirtual 176, 3), (34, .invokevirtual 571, 3), (37, .iinc 1 1, 3), (40, .iinc 2 1, 3), (43, .goto (-39), 3), (46, .iload_n 1, 1), (47, .ireturn, 1)]),
  (prog_1_method_66_code, [(0, .aload_n 0, 1), (1, .getfield 20, 3), (4, .iload_n 1, 1), (5, .aaload, 1), (6, .astore 4, 2), (8, .aload_n 0, 1), (9, .getfield 37, 3), (12, .iload_n 3, 1), (13, .aaload, 1), (14, .astore 5, 2), (16, .aload 4, 2), (18, .getfield 230, 3), (21, .iconst (-1), 1), (22, .if_icmp .ne 105, 3), (25, .aload 4, 2), (27, .getfield 375, 3), (30, .ifCond .ne 97, 3), (33, .aload_n 0, 1), (34, .getfield 47, 3), (37, .iload_n 1, 1), (38, .invokevirtual 179, 3), (41, .bipush 30, 2), (43, .if_icmp .gt 84, 3), (46, .aload 5, 2), (48, .getfield 580, 3), (51, .bipush 45, 2), (53, .if_icmp .eq 16, 3), (56, .aload 5, 2), (58, .getfield 580, 3), (61, .aload 4, 2), (63, .getfield 583, 3), (66, .if_icmp .ne 61, 3), (69, .iload_n 2, 1), (70, .aload 5, 2), (72, .getfield 584, 3), (75, .if_icmp .lt 52, 3), (78, .aload 4, 2), (80, .getfield 188, 3), (83, .aload 5, 2), (85, .getfield 218, 3), (88, .if_icmp .lt 39, 3), (91, .aload_n 0, 1), (92, .iload_n 3, 1), (93, .invokevirtual 587, 3), (96, .aload 5, 2), (98, .getfield 590, 3), (101, .if_icmp .ge 26, 3), (104, .aload_n 0, 1), (105, .iload_n 3, 1), (106, .invokevirtual 235, 3), (109, .aload 4, 2), (111, .getfield 577, 3), (114, .iadd, 1), (115, .aload 5, 2), (117, .getfield 593, 3), (120, .if_icmp .gt 7, 3), (123, .iconst 1, 1), (124, .goto 4, 3), (127, .iconst 0, 1), (128, .ireturn, 1)]),
  (prog_1_method_67_code, [(0, .iconst 0, 1), (1, .istore_n 2, 1), (2, .iconst 0, 1), (3, .istore_n 3, 1), (4, .iload_n 3, 1), (5, .aload_n 0, 1), (6, .getfield 31, 3), (9, .if_icmp .ge 25, 3), (12, .aload_n 0, 1), (13, .getfield 20, 3), (16, .iload_n 3, 1), (17, .aaload, 1), (18, .getfield 230, 3), (21, .iload_n 1, 1), (22, .if_icmp .ne 6, 3), (25, .iinc 2 1, 3), (28, .iinc 3 1, 3), (31, .goto (-27), 3), (34, .iload_n 2, 1), (35, .ireturn, 1)])]
noncomputable def a_prog_4 : List (ByteArray × List (Nat × Instr × Nat)) := [
  (prog_1_method_68_code, [(0, .iconst 0, 1), (1, .istore_n 2, 1), (2, .iconst 0, 1), (3, .istore_n 3, 1), (4, .iload_n 3, 1), (5, .aload_n 0, 1), (6, .getfield 31, 3), (9, .if_icmp .ge 34, 3), (12, .aload_n 0, 1), (13, .getfield 20, 3), (16, .iload_n 3, 1), (17, .aaload, 1), (18, .getfield 230, 3), (21, .iload_n 1, 1), (22, .if_icmp .ne 15, 3), (25, .iload_n 2, 1), (26, .aload_n 0, 1), (27, .getfield 20, 3), (30, .iload_n 3, 1), (31, .aaload, 1), (32, .getfield 577, 3), (35, .iadd, 1), (36, .istore_n 2, 1), (37, .iinc 3 1, 3), (40, .goto (-36), 3), (43, .iload_n 2, 1), (44, .ireturn, 1)]),
  (prog_1_method_72_code, [(0, .iconst 0, 1), (1, .istore_n 1, 1), (2, .iload_n 1, 1), (3, .aload_n 0, 1), (4, .getfield 41, 3), (7, .if_icmp .ge 45, 3), (10, .aload_n 0, 1), (11, .iload_n 1, 1), (12, .invokevirtual 587, 3), (15, .aload_n 0, 1), (16, .getfield 37, 3), (19, .iload_n 1, 1), (20, .aaload, 1), (21, .getfield 590, 3), (24, .if_icmp .gt 20, 3), (27, .aload_n 0, 1), (28, .iload_n 1, 1), (29, .invokevirtual 235, 3), (32, .aload_n 0, 1), (33, .getfield 37, 3), (36, .iload_n 1, 1), (37, .aaload, 1), (38, .getfield 593, 3), (41, .if_icmp .le 5, 3), (44, .iconst 0, 1), (45, .ireturn, 1), (46, .iinc 1 1, 3), (49, .goto (-47), 3), (52, .iconst 1, 1), (53, .ireturn, 1)]),
  (prog_1_method_73_code, [(0, .iconst 0, 1), (1, .istore_n 1, 1), (2, .iload_n 1, 1), (3, .aload_n 0, 1), (4, .getfield 41, 3), (7, .if_icmp .ge 48, 3), (10, .aload_n 0, 1), (11, .getfield 61, 3), (14, .aload_n 0, 1), (15, .getfield 20, 3), (18, .aload_n 0, 1), (19, .getfield 37, 3), (22, .iload_n 1, 1), (23, .aaload, 1), (24, .invokevirtual 477, 3), (27, .aload_n 0, 1), (28, .getfield 61, 3), (31, .aload_n 0, 1), (32, .getfield 20, 3), (35, .aload_n 0, 1), (36, .getfield 37, 3), (39, .iload_n 1, 1), (40, .aaload, 1), (41, .invokevirtual 603, 3), (44, .if_icmp .eq 5, 3), (47, .iconst 0, 1), (48, .ireturn, 1), (49, .iinc 1 1, 3), (52, .goto (-50), 3), (55, .iconst 1, 1), (56, .ireturn, 1)]),
  (method_2_code, [(0, .ldc 7, 2), (2, .iload_n 1, 1), (3, .aload_n 0, 1), (4, .arraylength, 1), (5, .if_icmp .ge 9, 3), (8, .aload_n 0, 1), (9, .iload_n 1, 1), (10, .iaload, 1), (11, .goto 4, 3), (14, .iconst 0, 1), (15, .sipush 1009, 3), (18, .iload_n 1, 1), (19, .imul, 1), (20, .iadd, 1), (21, .imul, 1), (22, .sipush 12345, 3), (25, .iadd, 1), (26, .istore_n 2, 1), (27, .iload_n 2, 1), (28, .iload_n 2, 1), (29, .bipush 13, 2), (31, .iushr, 1), (32, .ixor, 1), (33, .ldc 8, 2), (35, .imul, 1), (36, .istore_n 2, 1), (37, .iload_n 2, 1), (38, .iload_n 2, 1), (39, .bipush 16, 2), (41, .iushr, 1), (42, .ixor, 1), (43, .ireturn, 1)]),
  (method_3_code, [(0, .aload_n 0, 1), (1, .iload_n 1, 1), (2, .iload_n 2, 1), (3, .iload_n 3, 1), (4, .invokevirtual 9, 3), (7, .ireturn, 1), (8, .astore 4, 2), (10, .ldc 17, 2), (12, .ireturn, 1), (13, .astore 4, 2), (15, .ldc 20, 2), (17, .ireturn, 1)]),
  (method_4_code, [(0, .aload_n 0, 1), (1, .iload_n 1, 1), (2, .invokevirtual 21, 3), (5, .ireturn, 1), (6, .astore_n 2, 1), (7, .ldc 17, 2), (9, .ireturn, 1), (10, .astore_n 2, 1), (11, .ldc 20, 2), (13, .ireturn, 1)]),
  (method_5_code, [(0, .aload_n 0, 1), (1, .iload_n 1, 1), (2, .iload_n 2, 1), (3, .invokevirtual 25, 3), (6, .ireturn, 1), (7, .astore_n 3, 1), (8, .ldc 17, 2), (10, .ireturn, 1), (11, .astore_n 3, 1), (12, .ldc 20, 2), (14, .ireturn, 1), (15, .astore_n 3, 1), (16, .ldc 33, 2), (18, .ireturn, 1)]),
  (method_6_code, [(0, .aload_n 0, 1), (1, .iload_n 1, 1), (2, .iload_n 2, 1), (3, .iload_n 3, 1), (4, .invokevirtual 34, 3), (7, .ireturn, 1), (8, .astore 4, 2), (10, .ldc 17, 2), (12, .ireturn, 1), (13, .astore 4, 2), (15, .ldc 20, 2), (17, .ireturn, 1), (18, .astore 4, 2), (20, .ldc 33, 2), (22, .ireturn, 1)]),
  (method_7_code, [(0, .aload_n 0, 1), (1, .iload_n 1, 1), (2, .iload_n 2, 1), (3, .invokevirtual 38, 3), (6, .ireturn, 1), (7, .astore_n 3, 1), (8, .ldc 17, 2), (10, .ireturn, 1), (11, .astore_n 3, 1), (12, .ldc 20, 2), (14, .ireturn, 1)]),
  (method_8_code, [(0, .aload_n 0, 1), (1, .iload_n 1, 1), (2, .invokevirtual 43, 3), (5, .ireturn, 1), (6, .astore_n 2, 1), (7, .ldc 17, 2), (9, .ireturn, 1), (10, .astore_n 2, 1), (11, .ldc 20, 2), (13, .ireturn, 1)]),
  (method_9_code, [(0, .aload_n 0, 1), (1, .iload_n 1, 1), (2, .iload_n 2, 1), (3, .invokevirtual 46, 3), (6, .ireturn, 1), (7, .astore_n 3, 1), (8, .ldc 17, 2), (10, .ireturn, 1), (11, .astore_n 3, 1), (12, .ldc 20, 2), (14, .ireturn, 1)]),
  (method_10_code, [(0, .aload_n 0, 1), (1, .iload_n 1, 1), (2, .iload_n 2, 1), (3, .iload_n 3, 1), (4, .iload 4, 2), (6, .iload 5, 2), (8, .invokevirtual 50, 3), (11, .ireturn, 1), (12, .astore 6, 2), (14, .ldc 17, 2), (16, .ireturn, 1), (17, .astore 6, 2), (19, .ldc 20, 2), (21, .ireturn, 1)]),
  (method_11_code, [(0, .aload_n 0, 1), (1, .iload_n 1, 1), (2, .invokevirtual 54, 3), (5, .ireturn, 1), (6, .astore_n 2, 1), (7, .ldc 17, 2), (9, .ireturn, 1)]),
  (method_12_code, [(0, .aload_n 0, 1), (1, .iload_n 1, 1), (2, .invokevirtual 57, 3), (5, .ireturn, 1), (6, .astore_n 2, 1), (7, .ldc 17, 2), (9, .ireturn, 1), (10, .astore_n 2, 1), (11, .ldc 20, 2), (13, .ireturn, 1)]),
  (method_13_code, [(0, .aload_n 0, 1), (1, .iload_n 1, 1), (2, .invokevirtual 60, 3), (5, .ireturn, 1), (6, .astore_n 2, 1), (7, .ldc 17, 2), (9, .ireturn, 1)]),
  (method_14_code, [(0, .aload_n 0, 1), (1, .iload_n 1, 1), (2, .invokestatic 63, 3), (5, .ldc 69, 2), (7, .iand, 1), (8, .iload_n 2, 1), (9, .irem, 1), (10, .ireturn, 1)])]
noncomputable def a_prog : List (ByteArray × List (Nat × Instr × Nat)) := a_prog_0 ++ (a_prog_1 ++ (a_prog_2 ++ (a_prog_3 ++ (a_prog_4))))
noncomputable def a_progC : List (List (ByteArray × List (Nat × Instr × Nat))) := [a_prog_0, a_prog_1, a_prog_2, a_prog_3, a_prog_4]
def a_chk (P : List (ByteArray × List (Nat × Instr × Nat))) : Bool := P.all fun m => m.2.all fun e => decide (decode m.1 e.1 = .ok e.2)
theorem f_chkP {P : List (ByteArray × List (Nat × Instr × Nat))} (h : (P.all fun m => f_walk m.1 m.2 0 (f_bytes m.1)) = true) : a_chk P = true := by
  unfold a_chk
  refine List.all_eq_true.mpr fun m hm => List.all_eq_true.mpr fun e he => ?_
  have k := List.all_eq_true.mp h m hm
  exact decide_eq_true (f_walk_ok (p := 0) k e he)
theorem f_chkA {c : ByteArray} {L : List (Nat × Instr × Nat)} {p : Nat} (h : f_walk c L p ((f_bytes c).drop p) = true) : a_chk [(c, L)] = true := by
  unfold a_chk
  refine List.all_eq_true.mpr fun m hm => List.all_eq_true.mpr fun e he => ?_
  rw [List.mem_singleton.mp hm] at he ⊢
  exact decide_eq_true (f_walk_ok h e he)
theorem a_chk_prog_0 : a_chk a_prog_0 = true := f_chkP (by decide +kernel)
theorem a_chk_prog_1 : a_chk a_prog_1 = true := f_chkP (by decide +kernel)
theorem a_chk_prog_2 : a_chk a_prog_2 = true := f_chkP (by decide +kernel)
theorem a_chk_prog_3 : a_chk a_prog_3 = true := f_chkP (by decide +kernel)
theorem a_chk_prog_4 : a_chk a_prog_4 = true := f_chkP (by decide +kernel)
def a_chs (k : Nat) : List Cond := match k with
  | 0 => k2_sels lw_privs
  | 1 => tables_1_1
  | 2 => tables_1_2
  | 3 => tables_1_3
  | 4 => tables_1_4
  | _ => []
theorem a_chs_in {k : Nat} {w : Cond} (h : w ∈ a_chs k) : w ∈ lw_tbl := by
  unfold lw_tbl tables_1
  match k, h with
  | 0, h => exact List.mem_append_left _ h
  | 1, h => exact List.mem_append_right _ (List.mem_append_left _ h)
  | 2, h => exact List.mem_append_right _ (List.mem_append_right _ (List.mem_append_left _ h))
  | 3, h => exact List.mem_append_right _ (List.mem_append_right _ (List.mem_append_right _ (List.mem_append_left _ h)))
  | 4, h => exact List.mem_append_right _ (List.mem_append_right _ (List.mem_append_right _ (List.mem_append_right _ (h))))
  | k + 5, h => exact absurd h List.not_mem_nil
-- method numbers
abbrev m_X0_init : Nat := 0
abbrev m_X0_add : Nat := 1
abbrev m_X1_init : Nat := 2
abbrev m_X1_findWinner : Nat := 3
abbrev m_X1_dropWithdrawn : Nat := 4
abbrev m_X1_placeOn : Nat := 5
abbrev m_X1_firstOn : Nat := 6
abbrev m_X1_isRanked : Nat := 7
abbrev m_X1_firstsOf : Nat := 8
abbrev m_X1_pointsOf : Nat := 9
abbrev m_X1_withMost : Nat := 10
abbrev m_X1_byDuels : Nat := 11
abbrev m_X1_winsEachDuel : Nat := 12
abbrev m_X1_leadOf : Nat := 13
abbrev m_X1_byRounds : Nat := 14
abbrev m_X1_withFewestFirsts : Nat := 15
abbrev m_X1_recount : Nat := 16
abbrev m_X1_tallyBallots : Nat := 17
abbrev m_X1_tallyBallot : Nat := 18
abbrev m_X1_tallied : Nat := 19
abbrev m_X1_recountDuels : Nat := 20
abbrev m_X1_recountRounds : Nat := 21
abbrev m_X2_init : Nat := 22
abbrev m_X2_begin : Nat := 23
abbrev m_X2_showElsewhere : Nat := 24
abbrev m_X2_enter : Nat := 25
abbrev m_X3_init : Nat := 26
abbrev m_X3_isSeatedElsewhere : Nat := 27
abbrev m_X3_keepsApart : Nat := 28
abbrev m_X3_areOfOneSection : Nat := 29
abbrev m_X3_keepsSeats : Nat := 30
abbrev m_X4_init : Nat := 31
abbrev m_X5_init : Nat := 32
abbrev m_X6_init : Nat := 33
abbrev m_X6_addReader : Nat := 34
abbrev m_X6_isFree : Nat := 35
abbrev m_X6_countFree : Nat := 36
abbrev m_X6_dealOnce : Nat := 37
abbrev m_X6_countDealt : Nat := 38
abbrev m_X6_tell : Nat := 39
abbrev m_X6_countTold : Nat := 40
abbrev m_X6_evenScore : Nat := 41
abbrev m_X6_meanOfEven : Nat := 42
abbrev m_X6_spread : Nat := 43
abbrev m_X7_init : Nat := 44
abbrev m_X7_isOver : Nat := 45
abbrev m_X7_keepApart : Nat := 46
abbrev m_X8_init : Nat := 47
abbrev m_X8_begin : Nat := 48
abbrev m_X9_init : Nat := 49
abbrev m_X9_standsIn : Nat := 50
abbrev m_X9_countSeats : Nat := 51
abbrev m_X10_init : Nat := 52
abbrev m_X11_init : Nat := 53
abbrev m_X11_film : Nat := 54
abbrev m_X11_reader : Nat := 55
abbrev m_X11_deal : Nat := 56
abbrev m_X11_isDealt : Nat := 57
abbrev m_X11_read : Nat := 58
abbrev m_X11_even : Nat := 59
abbrev m_X11_score : Nat := 60
abbrev m_X11_isInQuarrel : Nat := 61
abbrev m_X11_rival : Nat := 62
abbrev m_X11_section : Nat := 63
abbrev m_X11_choose : Nat := 64
abbrev m_X11_sectionOf : Nat := 65
abbrev m_X11_minutes : Nat := 66
abbrev m_X11_isSound : Nat := 67
abbrev m_X11_isWithin : Nat := 68
abbrev m_X11_isForm : Nat := 69
abbrev m_X11_levelOf : Nat := 70
abbrev m_X11_premiereOf : Nat := 71
abbrev m_X11_checkNumber : Nat := 72
abbrev m_X11_checkFilm : Nat := 73
abbrev m_X11_checkReader : Nat := 74
abbrev m_X11_checkSection : Nat := 75
abbrev m_X11_putInOrder : Nat := 76
abbrev m_X11_orderByScore : Nat := 77
abbrev m_X11_canBeChosen : Nat := 78
abbrev m_X11_filmsIn : Nat := 79
abbrev m_X11_minutesIn : Nat := 80
abbrev m_X11_areSectionsKept : Nat := 81
abbrev m_X11_areWinnersRight : Nat := 82
abbrev m_L_cell : Nat := 83
abbrev m_L_film : Nat := 84
abbrev m_L_reader : Nat := 85
abbrev m_L_deal : Nat := 86
abbrev m_L_read : Nat := 87
abbrev m_L_even : Nat := 88
abbrev m_L_score : Nat := 89
abbrev m_L_rival : Nat := 90
abbrev m_L_section : Nat := 91
abbrev m_L_choose : Nat := 92
abbrev m_L_sectionOf : Nat := 93
abbrev m_L_minutes : Nat := 94
abbrev m_L_in : Nat := 95
abbrev m_L_law : Nat := 96
