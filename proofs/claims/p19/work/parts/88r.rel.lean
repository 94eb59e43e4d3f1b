/-! The relation of the heap at the loop's head (wip/law4.py) -/
theorem c_gF : ∀ i, i < 20 → c_K.1 (17 + i) = some 3 := by decide +kernel
theorem c_gS : ∀ i, i < 5 → c_K.1 (280 + 17 * i) = some 21 := by decide +kernel
theorem c_rq0 : c_K.2.1 0 = some (11, 15, 0, [(1, 2, 0), (1, 3, 0), (1, 4, 0), (1, 11, 0), (0, 0, 20), (1, 217, 0), (0, 0, 5), (1, 218, 0), (1, 244, 0), (1, 246, 0), (1, 271, 0), (1, 277, 0), (0, 0, 9), (1, 278, 0), (1, 279, 0)]) := rfl
theorem c_rq2 : c_K.2.1 2 = some (25, 20, 1, [(2, 3, 0)]) := rfl
theorem c_rq3 : c_K.2.1 3 = some (2, 9, 0, [(0, 45, 150), (0, 0, 300), (0, 0, 9), (0, (-1), 4), (0, 0, 1), (0, 0, 3), (0, 0, 3), (0, 45, 150), (0, 0, 49)]) := rfl
theorem c_rq20 : c_K.2.1 20 = some (28, 5, 1, [(2, 21, 0)]) := rfl
theorem c_rq21 : c_K.2.1 21 = some (8, 9, 0, [(0, 0, 9), (0, 0, 2000), (0, 0, 100), (0, 45, 150), (0, 0, 3), (0, 63, 150), (0, 0, 1), (2, 22, 0), (0, 0, 5)]) := rfl
theorem c_rq50 : c_K.2.1 50 = some (12, 56, 0, [(1, 366, 0), (1, 367, 0), (1, 368, 0), (1, 369, 0), (1, 370, 0), (1, 371, 0), (1, 372, 0), (1, 373, 0), (1, 374, 0), (1, 375, 0), (1, 376, 0), (1, 377, 0), (1, 398, 0), (1, 419, 0), (1, 420, 0), (1, 421, 0), (1, 422, 0), (1, 423, 0), (1, 424, 0), (1, 425, 0), (1, 426, 0), (1, 427, 0), (1, 428, 0), (1, 489, 0), (1, 490, 0), (1, 491, 0), (1, 492, 0), (1, 493, 0), (1, 494, 0), (1, 555, 0), (1, 556, 0), (1, 617, 0), (1, 618, 0), (1, 619, 0), (1, 620, 0), (1, 626, 0), (1, 657, 0), (1, 688, 0), (1, 694, 0), (1, 725, 0), (1, 726, 0), (1, 767, 0), (1, 768, 0), (1, 769, 0), (0, 0, 20), (0, 0, 8), (0, 0, 5), (0, 0, 4), (0, 0, 60), (0, 0, 60), (0, 0, 16), (0, 0, 9), (0, 0, 40), (0, 0, 400), (0, 0, 50), (0, 0, 4)]) := rfl
theorem c_rq111 : c_K.2.1 111 = some (19, 0, 2, [(0, (-2147483648), 2147483647)]) := rfl
theorem c_ra0 : c_K.1 0 = some 111 := by decide +kernel
theorem c_ra1 : c_K.1 1 = some 0 := by decide +kernel
theorem c_ra3 : c_K.1 3 = some 2 := by decide +kernel
theorem c_ra217 : c_K.1 217 = some 20 := by decide +kernel
theorem c_ra365 : c_K.1 365 = some 50 := by decide +kernel
def c_Fx (h : AH) : Prop := (∀ i, i < 20 → c_at h 3 i = some (.ref (17 + i))) ∧ (∀ i, i < 5 → c_at h 217 i = some (.ref (280 + 17 * i)))
def c_Rel (h : AH) : Prop := c_Fx h
def c_relW : BW := [(2, 0), (20, 0)]
theorem c_Fx_frm {W : BW} {h h' : AH} (H : b_H c_K h) (f : b_frm c_K W h h') (hW : ∀ w ∈ ([(2, 0), (20, 0)] : BW), w ∉ W) (R : c_Fx h) : c_Fx h' := ⟨fun i hi => by rw [f.k H c_ra3 c_rq2 (by decide) (by simpa using hW (2, 0) (by decide))]; exact R.1 i hi, fun i hi => by rw [f.k H c_ra217 c_rq20 (by decide) (by simpa using hW (20, 0) (by decide))]; exact R.2 i hi⟩
theorem c_Rel_frm {W : BW} {h h' : AH} (H : b_H c_K h) (f : b_frm c_K W h h') (hW : ∀ w ∈ c_relW, w ∉ W) (R : c_Rel h) : c_Rel h' := c_Fx_frm H f (fun w hw => hW w (by simp only [List.mem_cons, List.not_mem_nil, or_false] at hw; rcases hw with rfl | rfl <;> decide)) R
theorem c_at_cons {x : AC} {l : AH} {n j : Nat} : c_at (x :: l) (n + 1) j = c_at l n j := rfl
theorem c_I_cons {x : AC} {l : AH} {n j : Nat} : c_I (x :: l) (n + 1) j = c_I l n j := rfl
set_option maxRecDepth 100000 in
theorem c_Fx0 : (∀ i, i < 20 → c_at c_h0 2 i = some (.ref (17 + i))) ∧ (∀ i, i < 5 → c_at c_h0 216 i = some (.ref (280 + 17 * i))) := by decide +kernel
theorem c_Rel0 {x : AC} : c_Rel (x :: c_h0) := by
  exact ⟨fun i hi => (c_at_cons (n := 2)).trans (c_Fx0.1 i hi), fun i hi => (c_at_cons (n := 216)).trans (c_Fx0.2 i hi)⟩
/-- the script's ints of a call -/
theorem c_scr {ν : BN} {h : AH} (g : b_G c_K ν h h (c_E28, c_F28, [(0, 1, -6)], [], [])) {j : Nat} (hj : j < 6) : ∃ x : Int32, c_at h 0 ((ν 0).toNat + j) = some (.int x) := by
  obtain ⟨vs, k1, -, k3⟩ := g.2.2.2.2.1.1 0 111 _ c_ra0 c_rq111
  have f := g.2.1 ((2, 0, 0), (9, 0, 0), (1, 1, 0)) (by decide)
  obtain ⟨a, t, us, q1, q2, q3⟩ := f
  have q1 := q1.k
  subst q1
  rw [k1] at q2
  cases q2
  rw [if_pos rfl] at q3
  have q3 := q3.v
  have c := g.co (a := 0) (b := 1) (c := -6) (by decide)
  have i0 := g.iv 0 (lo := 0) (hi := 3072) rfl
  have hl : (ν 0).toNat + j < vs.length := by omega
  have ty := k3 ((ν 0).toNat + j) _ (0, -2147483648, 2147483647) (List.getElem?_eq_getElem hl) rfl
  have e := c_at_of k1 (List.getElem?_eq_getElem hl)
  unfold b_st at ty
  cases hv : vs[(ν 0).toNat + j] with
  | int x => rw [hv] at e; exact ⟨x, e⟩
  | _ => rw [hv] at ty; exact ty.elim
def c_places : List Nat := [252, 306, 334, 374, 414, 466, 506, 534, 562, 604, 684, 712, 740, 768, 796, 824, 880, 934, 1026, 1078, 1130, 1158, 1200, 1228, 1268, 1296, 1309, 1337, 1377, 1405, 1433, 1473, 1501, 1541, 1581, 1623, 1675, 1703, 1716, 1756, 1784, 1812, 1888, 1940, 1996, 2009, 2026, 2043, 2056]
