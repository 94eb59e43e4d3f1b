/-! film beside the grid; the grid's relations at the start -/
theorem s_filmSw {x y z : Int} {c m : ZS} (h : zR c m) (hs : zSw c m) : zSw (f_w_film [x, y, z] c).2 (f_m_film [x, y, z] m).2 := by
  obtain ⟨⟨a1, a2, a3⟩, -⟩ := id h
  rw [q_wfilm a1 a2, q_mfilm (by omega) (by omega), a3]
  split
  · split
    · exact hs.thr.thr
    · rename_i hn
      refine zSw.out ?_
      obtain ⟨s1, s2, s3⟩ := hs
      refine ⟨?_, fun i i0 i1 => ?_, fun i i0 i1 => ?_⟩
      · simp (decide := true) only [e_un, zfl_o]
        exact s1
      · simp (decide := true) only [e_un] at i1
        obtain ⟨⟨b1, b2, b3⟩, b4, b5, b6⟩ := s2 i i0 i1
        simp (decide := true) only [e_un, e_us, e_ur, zfl_o]
        refine ⟨⟨b1, b2, by omega⟩, b4, b5, ?_⟩
        have hne : ¬ (c r_Show_film i 0 0 = c r_x_filmCount 0 0 0) := by omega
        simp only [hne, false_and, ↓reduceIte]
        exact b6
      · simp (decide := true) only [e_un, zfl_o]
        exact s3 i i0 i1
  · exact hs.thr
theorem o_filmG {x y z : Int} {c m : ZS} (h : zR c m) (h2 : zFs c m) (h3 : zSw c m) : zBo (zAnd (zAnd zR zFs) zSw) (f_w_film [x, y, z] c) (f_m_film [x, y, z] m) := ((o_film h).bo.and (s_film h h2)).and (s_filmSw h h3)
/-- a relation that neither call's regions touch -/
theorem zKeep {R : ZS → ZS → Prop} {KC KM : List Nat} (hr : zRel R KC KM) {nv nv' : Nat} {W W' : List Nat} {φ φ' : ZFn} (h : z_kp nv W φ) (h' : z_kp nv' W' φ') {L : List Int} (hL : L.length = nv) (hL' : L.length = nv') {c m c' m' : ZS} {k v : Int} (e1 : φ L c = ((0, [k]), c')) (e2 : φ' L m = ((0, [v]), m')) (hd : z_dis W KC = true) (hd' : z_dis W' KM = true) (hR : R c m) : R c' m' := hr hR (fun r hq => by
  have := h.r hL (S := c) (by rw [e1]) (z_dis_ok hd hq)
  rw [e1] at this
  exact this) (fun r hq => by
  have := h'.r hL' (S := m) (by rw [e2]) (z_dis_ok hd' hq)
  rw [e2] at this
  exact this)
