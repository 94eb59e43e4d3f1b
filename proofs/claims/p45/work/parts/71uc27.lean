/-! The juries beside film and go -/
theorem s_filmJ {x y z : Int} {c m : ZS} (h : zR c m) (hT : zTy c m) (hB : zBa c m) : (zAnd zTy zBa) (f_w_film [x, y, z] c).2 (f_m_film [x, y, z] m).2 := by
  obtain ⟨⟨a1, a2, a3⟩, -⟩ := id h
  rw [q_wfilm a1 a2, q_mfilm (by omega) (by omega), a3]
  split
  · split
    · exact ⟨hT.thr.thr, hB.thr.thr⟩
    · rename_i hn
      obtain ⟨tl, ⟨t0, t1, t2⟩, ty⟩ := hT
      refine ⟨zTy.out ⟨?_, ?_, fun k k0 k1 => ?_⟩, zBa.out fun s j s0 s1 j0 j1 => ?_⟩
      · simp (decide := true) only [e_un, zfl_o]
        exact tl
      · simp (decide := true) only [e_un, zfl_o]
        exact ⟨t0, t1, t2⟩
      · simp (decide := true) only [e_un, zfl_o] at k1
        obtain ⟨b1, b2, b3⟩ := ty k k0 k1
        simp (decide := true) only [e_un, e_us, zfl_o]
        exact ⟨b1, b2, by omega⟩
      · obtain ⟨y1, y2, y3⟩ := hB s j s0 s1 j0 j1
        simp (decide := true) only [e_un, e_us, zfl_o]
        refine ⟨y1, fun k k0 k1 => ?_, y3⟩
        obtain ⟨z1, z2, z3⟩ := y2 k k0 k1
        exact ⟨z1, z2, by omega⟩
  · exact ⟨hT.thr, hB.thr⟩
theorem o_filmJ {x y z : Int} {c m : ZS} (h : zR c m) (h2 : zFs c m) (h3 : zSw c m) (h4 : zTy c m) (h5 : zBa c m) : zBo (zAnd (zAnd (zAnd zR zFs) zSw) (zAnd zTy zBa)) (f_w_film [x, y, z] c) (f_m_film [x, y, z] m) := (o_filmG h h2 h3).and (s_filmJ h h4 h5)
theorem o_goJ {n : Int} {c m : ZS} (h : zHr c m) (hT : zTo c m) (hA : zSa c m) : zBo (zAnd (zAnd zHr zTo) zSa) (f_w_go [n] c) (f_m_go [n] m) := by
  refine (o_go h hT).and ?_
  obtain ⟨h0, h1, h2⟩ := id h
  show zSa (e_try (f_x_go [n] c) (fun v1 S1 => ((0, [0]), e_upd S1 r_out 0 0 0 v1)) [(1, 1), (2, 2)]).2 (f_m_go [n] m).2
  unfold f_x_go f_m_go
  dsimp only
  simp only [zb_n, zb_d, q_within, q_isIn, h2, e_us]
  by_cases hn : 1 ≤ n ∧ n ≤ 50
  · have hw : e_wr (c r_Grid_hour 0 0 0 + n) = c r_Grid_hour 0 0 0 + n := e_wr_id (by omega) (by omega)
    by_cases hs : c r_Grid_hour 0 0 0 + n ≤ 50
    · simp (decide := true) only [if_pos hn, hw, if_pos hs, ↓reduceIte, Int.reduceEq]
      have key : zSa (e_upd c r_Grid_hour 0 0 0 (c r_Grid_hour 0 0 0 + n)) m := fun s j s0 s1 j0 j1 => by
        obtain ⟨y1, y2, y3⟩ := hA s j s0 s1 j0 j1
        simp (decide := true) only [e_un, e_us]
        exact ⟨by omega, y2, y3⟩
      exact zSa.out (zSa_rel.um (zSa_rel.um (zSa_rel.um key (by decide)) (by decide)) (by decide))
    · simp (decide := true) only [if_pos hn, hw, if_neg hs, ↓reduceIte, Int.reduceEq]
      exact hA.thr.thr
  · simp (decide := true) only [if_neg hn, ↓reduceIte]
    exact hA.thr
