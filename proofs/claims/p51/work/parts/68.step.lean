/-! The law's start, by hand -/
theorem b_R.stp {d mi pc pc' len mc ms c s : Nat} {i : Instr} {al al' : AL} {st st' : List Value} {h h' : AH} {r : AR} (hi : a_ins mi pc = some (i, len)) (h1 : a_end mi i st = none) (h2 : a_trw mi pc i st = none) (h3 : a_call (a_own mi) i st h = none) (h4 : a_stp (a_own mi) (a_ini mi) i len pc al st h = some (pc', al', st', h', c, s)) (hr : b_R d mi pc' al' st' h' (mc + c) (ms + s) r) : b_R d mi pc al st h mc ms r := by
  obtain ⟨f, hf⟩ := hr
  refine ⟨f + 1, ?_⟩
  rw [a_go, hi]
  dsimp only
  rw [h1]
  dsimp only
  rw [h2]
  dsimp only
  rw [h3]
  dsimp only
  rw [h4]
  exact hf
theorem b_R.cal {d mi pc len mt mc ms c s : Nat} {i : Instr} {al : AL} {st as rest : List Value} {h h' : AH} {v : Option Value} {r : AR} (hi : a_ins mi pc = some (i, len)) (h1 : a_end mi i st = none) (h2 : a_trw mi pc i st = none) (h3 : a_call (a_own mi) i st h = some (mt, as, rest)) (h4 : b_lim d mt as h = some (.inl v, h', c, s)) (hr : b_R d mi (pc + 3) al (v.toList ++ rest) h' (mc + c) (ms + s) r) : b_R d mi pc al st h mc ms r := by
  obtain ⟨f, hf⟩ := hr
  refine ⟨f + 1, ?_⟩
  rw [a_go, hi]
  dsimp only
  rw [h1]
  dsimp only
  rw [h2]
  dsimp only
  rw [h3]
  dsimp only
  rw [h4]
  exact hf
