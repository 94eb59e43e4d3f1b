/-! The groups of the model's arrays, one by one -/
theorem c_q50 : c_K.2.1 50 = some (12, 56, 0, [(1, 366, 0), (1, 367, 0), (1, 368, 0), (1, 369, 0), (1, 370, 0), (1, 371, 0), (1, 372, 0), (1, 373, 0), (1, 374, 0), (1, 375, 0), (1, 376, 0), (1, 377, 0), (1, 398, 0), (1, 419, 0), (1, 420, 0), (1, 421, 0), (1, 422, 0), (1, 423, 0), (1, 424, 0), (1, 425, 0), (1, 426, 0), (1, 427, 0), (1, 428, 0), (1, 489, 0), (1, 490, 0), (1, 491, 0), (1, 492, 0), (1, 493, 0), (1, 494, 0), (1, 555, 0), (1, 556, 0), (1, 617, 0), (1, 618, 0), (1, 619, 0), (1, 620, 0), (1, 626, 0), (1, 657, 0), (1, 688, 0), (1, 694, 0), (1, 725, 0), (1, 726, 0), (1, 767, 0), (1, 768, 0), (1, 769, 0), (0, 0, 20), (0, 0, 8), (0, 0, 5), (0, 0, 4), (0, 0, 60), (0, 0, 60), (0, 0, 16), (0, 0, 9), (0, 0, 40), (0, 0, 400), (0, 0, 50), (0, 0, 4)]) := by rfl
theorem c_a365 : c_K.1 365 = some 50 := by decide +kernel
theorem c_q51 : c_K.2.1 51 = some (22, 20, 1, [(0, 0, 150)]) := by rfl
theorem c_a366 : c_K.1 366 = some 51 := by decide +kernel
theorem c_q52 : c_K.2.1 52 = some (20, 20, 1, [(0, 0, 300)]) := by rfl
theorem c_a367 : c_K.1 367 = some 52 := by decide +kernel
theorem c_q53 : c_K.2.1 53 = some (20, 20, 1, [(0, 0, 9)]) := by rfl
theorem c_a368 : c_K.1 368 = some 53 := by decide +kernel
theorem c_q54 : c_K.2.1 54 = some (20, 20, 1, [(0, 0, 3)]) := by rfl
theorem c_a369 : c_K.1 369 = some 54 := by decide +kernel
theorem c_q55 : c_K.2.1 55 = some (20, 20, 1, [(0, (-1), 4)]) := by rfl
theorem c_a370 : c_K.1 370 = some 55 := by decide +kernel
theorem c_q56 : c_K.2.1 56 = some (20, 20, 1, [(0, 0, 3)]) := by rfl
theorem c_a371 : c_K.1 371 = some 56 := by decide +kernel
theorem c_q57 : c_K.2.1 57 = some (21, 20, 1, [(0, 0, 1)]) := by rfl
theorem c_a372 : c_K.1 372 = some 57 := by decide +kernel
theorem c_q58 : c_K.2.1 58 = some (22, 20, 1, [(0, 0, 150)]) := by rfl
theorem c_a373 : c_K.1 373 = some 58 := by decide +kernel
theorem c_q59 : c_K.2.1 59 = some (20, 20, 1, [(0, 0, 49)]) := by rfl
theorem c_a374 : c_K.1 374 = some 59 := by decide +kernel
theorem c_q60 : c_K.2.1 60 = some (20, 8, 1, [(0, 0, 9)]) := by rfl
theorem c_a375 : c_K.1 375 = some 60 := by decide +kernel
theorem c_q61 : c_K.2.1 61 = some (20, 8, 1, [(0, (-2147483648), 2147483647)]) := by rfl
theorem c_a376 : c_K.1 376 = some 61 := by decide +kernel
theorem c_q62 : c_K.2.1 62 = some (30, 20, 1, [(2, 63, 0)]) := by rfl
theorem c_a377 : c_K.1 377 = some 62 := by decide +kernel
theorem c_q63 : c_K.2.1 63 = some (21, 8, 1, [(0, 0, 1)]) := by rfl
theorem c_q64 : c_K.2.1 64 = some (29, 20, 1, [(2, 65, 0)]) := by rfl
theorem c_a398 : c_K.1 398 = some 64 := by decide +kernel
theorem c_q65 : c_K.2.1 65 = some (20, 8, 1, [(0, (-1), 100)]) := by rfl
theorem c_q66 : c_K.2.1 66 = some (20, 5, 1, [(0, 0, 9)]) := by rfl
theorem c_a419 : c_K.1 419 = some 66 := by decide +kernel
theorem c_q67 : c_K.2.1 67 = some (20, 5, 1, [(0, 0, 2000)]) := by rfl
theorem c_a420 : c_K.1 420 = some 67 := by decide +kernel
theorem c_q68 : c_K.2.1 68 = some (20, 5, 1, [(0, 0, 100)]) := by rfl
theorem c_a421 : c_K.1 421 = some 68 := by decide +kernel
theorem c_q69 : c_K.2.1 69 = some (22, 5, 1, [(0, 0, 150)]) := by rfl
theorem c_a422 : c_K.1 422 = some 69 := by decide +kernel
theorem c_q70 : c_K.2.1 70 = some (20, 5, 1, [(0, 0, 3)]) := by rfl
theorem c_a423 : c_K.1 423 = some 70 := by decide +kernel
theorem c_q71 : c_K.2.1 71 = some (22, 5, 1, [(0, 0, 150)]) := by rfl
theorem c_a424 : c_K.1 424 = some 71 := by decide +kernel
theorem c_q72 : c_K.2.1 72 = some (21, 5, 1, [(0, 0, 1)]) := by rfl
theorem c_a425 : c_K.1 425 = some 72 := by decide +kernel
theorem c_q73 : c_K.2.1 73 = some (20, 4, 1, [(0, 0, 9)]) := by rfl
theorem c_a426 : c_K.1 426 = some 73 := by decide +kernel
theorem c_q74 : c_K.2.1 74 = some (21, 4, 1, [(0, 0, 1)]) := by rfl
theorem c_a427 : c_K.1 427 = some 74 := by decide +kernel
theorem c_q75 : c_K.2.1 75 = some (29, 60, 1, [(2, 76, 0)]) := by rfl
theorem c_a428 : c_K.1 428 = some 75 := by decide +kernel
theorem c_q76 : c_K.2.1 76 = some (20, 4, 1, [(0, 0, 49)]) := by rfl
theorem c_q77 : c_K.2.1 77 = some (20, 60, 1, [(0, 0, 19)]) := by rfl
theorem c_a489 : c_K.1 489 = some 77 := by decide +kernel
theorem c_q78 : c_K.2.1 78 = some (20, 60, 1, [(0, 0, 3)]) := by rfl
theorem c_a490 : c_K.1 490 = some 78 := by decide +kernel
theorem c_q79 : c_K.2.1 79 = some (20, 60, 1, [(0, 0, 49)]) := by rfl
theorem c_a491 : c_K.1 491 = some 79 := by decide +kernel
theorem c_q80 : c_K.2.1 80 = some (22, 60, 1, [(0, 0, 150)]) := by rfl
theorem c_a492 : c_K.1 492 = some 80 := by decide +kernel
theorem c_q81 : c_K.2.1 81 = some (21, 60, 1, [(0, 0, 1)]) := by rfl
theorem c_a493 : c_K.1 493 = some 81 := by decide +kernel
theorem c_q82 : c_K.2.1 82 = some (29, 60, 1, [(2, 83, 0)]) := by rfl
theorem c_a494 : c_K.1 494 = some 82 := by decide +kernel
theorem c_q83 : c_K.2.1 83 = some (20, 16, 1, [(0, 0, 15)]) := by rfl
theorem c_q84 : c_K.2.1 84 = some (20, 60, 1, [(0, 0, 16)]) := by rfl
theorem c_a555 : c_K.1 555 = some 84 := by decide +kernel
theorem c_q85 : c_K.2.1 85 = some (30, 60, 1, [(2, 86, 0)]) := by rfl
theorem c_a556 : c_K.1 556 = some 85 := by decide +kernel
theorem c_q86 : c_K.2.1 86 = some (21, 16, 1, [(0, 0, 1)]) := by rfl
theorem c_q87 : c_K.2.1 87 = some (21, 10, 1, [(0, 0, 1)]) := by rfl
theorem c_a617 : c_K.1 617 = some 87 := by decide +kernel
theorem c_q88 : c_K.2.1 88 = some (20, 16, 1, [(0, 0, 3)]) := by rfl
theorem c_a618 : c_K.1 618 = some 88 := by decide +kernel
theorem c_q89 : c_K.2.1 89 = some (20, 5, 1, [(0, 0, 5)]) := by rfl
theorem c_a619 : c_K.1 619 = some 89 := by decide +kernel
theorem c_q90 : c_K.2.1 90 = some (29, 5, 1, [(2, 91, 0)]) := by rfl
theorem c_a620 : c_K.1 620 = some 90 := by decide +kernel
theorem c_q91 : c_K.2.1 91 = some (20, 5, 1, [(0, 0, 9)]) := by rfl
theorem c_q92 : c_K.2.1 92 = some (32, 5, 1, [(2, 93, 0)]) := by rfl
theorem c_a626 : c_K.1 626 = some 92 := by decide +kernel
theorem c_q93 : c_K.2.1 93 = some (30, 5, 1, [(2, 94, 0)]) := by rfl
theorem c_q94 : c_K.2.1 94 = some (21, 20, 1, [(0, 0, 1)]) := by rfl
theorem c_q95 : c_K.2.1 95 = some (31, 5, 1, [(2, 96, 0)]) := by rfl
theorem c_a657 : c_K.1 657 = some 95 := by decide +kernel
theorem c_q96 : c_K.2.1 96 = some (29, 5, 1, [(2, 97, 0)]) := by rfl
theorem c_q97 : c_K.2.1 97 = some (20, 51, 1, [(0, (-1), 59)]) := by rfl
theorem c_q98 : c_K.2.1 98 = some (29, 5, 1, [(2, 99, 0)]) := by rfl
theorem c_a688 : c_K.1 688 = some 98 := by decide +kernel
theorem c_q99 : c_K.2.1 99 = some (20, 5, 1, [(0, 0, 9)]) := by rfl
theorem c_q100 : c_K.2.1 100 = some (31, 5, 1, [(2, 101, 0)]) := by rfl
theorem c_a694 : c_K.1 694 = some 100 := by decide +kernel
theorem c_q101 : c_K.2.1 101 = some (29, 5, 1, [(2, 102, 0)]) := by rfl
theorem c_q102 : c_K.2.1 102 = some (20, 9, 1, [(0, 0, 19)]) := by rfl
theorem c_q103 : c_K.2.1 103 = some (20, 9, 1, [(0, 0, 19)]) := by rfl
theorem c_a725 : c_K.1 725 = some 103 := by decide +kernel
theorem c_q104 : c_K.2.1 104 = some (29, 40, 1, [(2, 105, 0)]) := by rfl
theorem c_a726 : c_K.1 726 = some 104 := by decide +kernel
theorem c_q105 : c_K.2.1 105 = some (20, 5, 1, [(0, 0, 99)]) := by rfl
theorem c_q106 : c_K.2.1 106 = some (22, 400, 1, [(0, 0, 120)]) := by rfl
theorem c_a767 : c_K.1 767 = some 106 := by decide +kernel
theorem c_q107 : c_K.2.1 107 = some (20, 400, 1, [(0, 0, 19)]) := by rfl
theorem c_a768 : c_K.1 768 = some 107 := by decide +kernel
theorem c_q108 : c_K.2.1 108 = some (21, 20, 1, [(0, 0, 1)]) := by rfl
theorem c_a769 : c_K.1 769 = some 108 := by decide +kernel
