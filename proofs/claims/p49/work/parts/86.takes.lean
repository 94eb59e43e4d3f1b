/-! takes -/
theorem tO : b_cal c_K (b_lim 5) (b_orc c_K [c_r208] 3000 5) := b_orc_ok c_hJ (List.forall_mem_cons.mpr ⟨c_v208, fun _ h => absurd h List.not_mem_nil⟩) 3000 5
def tA : BSg := ((219, 0), ([some (2, 365, 0), some (1, 0, 0), some (1, 1, 0), some (1, 2, 0), none, none, none, none, none], [], ([(0, 100, 115), (0, (-1), 9), (0, (-1), 19)], [], [])), [], [
  (.inr (11, [some (2, 365, 0), some (1, 0, 0), some (1, 1, 0), some (1, 2, 0), some (1, 3, 0), some (0, 0, 0), none, none, none], [(0, 0, 60)]), ([(0, 0, 60)], [((2, 365, 0), (0, 0, 49), (1, 3, 0))], []), (0, 0))])
theorem tAC : b_sgc c_K (b_orc c_K [c_r208] 3000 5) tA [11] 3000 = true := by decide +kernel
def tB : BSg := ((219, 15), ([some (2, 365, 0), some (1, 0, 0), some (1, 1, 0), some (1, 2, 0), some (1, 3, 0), some (0, 0, 0), some (3, 4, 0), none, none], [], ([(0, 100, 115), (0, (-1), 9), (0, (-1), 19), (0, 0, 60), (1, 1, 0)], [], [])), [], [
  (.inr (18, [some (2, 365, 0), some (1, 0, 0), some (1, 1, 0), some (1, 2, 0), some (1, 3, 0), some (0, 0, 0), some (3, 4, 0), some (0, 0, 0), none], []), ([], [], []), (0, 0))])
theorem tBC : b_sgc c_K (b_orc c_K [c_r208] 3000 5) tB [18] 3000 = true := by decide +kernel
def tC : BSg := ((219, 18), ([some (2, 365, 0), some (1, 0, 0), some (1, 1, 0), some (1, 2, 0), some (1, 3, 0), some (0, 0, 0), some (3, 4, 0), some (1, 5, 0), none], [], ([(0, 100, 115), (0, (-1), 9), (0, (-1), 19), (0, 0, 60), (1, 1, 0), (0, 0, 60)], [], [])), [], [
  (.inr (44, [some (2, 365, 0), some (1, 0, 0), some (1, 1, 0), some (1, 2, 0), some (1, 3, 0), some (0, 0, 0), some (3, 4, 0), none, none], []), ([], [], [(3, 5, 0)]), (0, 0)),
  (.inr (34, [some (2, 365, 0), some (1, 0, 0), some (1, 1, 0), some (1, 2, 0), some (1, 3, 0), some (0, 0, 0), some (3, 4, 0), some (1, 6, 0), none], [(1, 2, 0), (1, 1, 0), (1, 6, 0), (2, 365, 0), (1, 6, 0), (3, 4, 0)]), ([(0, 0, 59)], [], [(6, 5, 0), (5, 6, 0), (6, 3, (-1))]), (0, 0))])
theorem tCC : b_sgc c_K (b_orc c_K [c_r208] 3000 5) tC [44, 34] 3000 = true := by decide +kernel
def tD : BSg := ((219, 38), ([some (2, 365, 0), some (1, 0, 0), some (1, 1, 0), some (1, 2, 0), some (1, 3, 0), some (0, 0, 0), some (3, 4, 0), some (1, 5, 0), none], [], ([(0, 100, 115), (0, (-1), 9), (0, (-1), 19), (0, 0, 60), (1, 1, 0), (0, 0, 59)], [], [])), [], [
  (.inr (18, [some (2, 365, 0), some (1, 0, 0), some (1, 1, 0), some (1, 2, 0), some (1, 3, 0), some (0, 0, 0), some (3, 4, 0), some (1, 5, 1), none], []), ([], [], []), (0, 0))])
theorem tDC : b_sgc c_K (b_orc c_K [c_r208] 3000 5) tD [18] 3000 = true := by decide +kernel
def tE : BSg := ((219, 44), ([some (2, 365, 0), some (1, 0, 0), some (1, 1, 0), some (1, 2, 0), some (1, 3, 0), some (0, 0, 0), some (3, 4, 0), none, none], [], ([(0, 100, 115), (0, (-1), 9), (0, (-1), 19), (0, 0, 60), (1, 1, 0)], [], [])), [], [
  (.inr (47, [some (2, 365, 0), some (1, 0, 0), some (1, 1, 0), some (1, 2, 0), some (1, 3, 0), some (0, 0, 0), some (3, 4, 0), some (0, 0, 0), none], []), ([], [], []), (0, 0))])
theorem tEC : b_sgc c_K (b_orc c_K [c_r208] 3000 5) tE [47] 3000 = true := by decide +kernel
def tF : BSg := ((219, 47), ([some (2, 365, 0), some (1, 0, 0), some (1, 1, 0), some (1, 2, 0), some (1, 3, 0), some (1, 5, 0), some (3, 4, 0), some (1, 6, 0), none], [], ([(0, 100, 115), (0, (-1), 9), (0, (-1), 19), (0, 0, 60), (1, 1, 0), (0, 0, 60), (0, 0, 60)], [], [(5, 6, 0)])), [], [
  (.inr (92, [some (2, 365, 0), some (1, 0, 0), some (1, 1, 0), some (1, 2, 0), some (1, 3, 0), some (1, 5, 0), some (3, 4, 0), none, none], []), ([], [], []), (0, 0)),
  (.inr (58, [some (2, 365, 0), some (1, 0, 0), some (1, 1, 0), some (1, 2, 0), some (1, 3, 0), some (1, 7, 0), some (3, 4, 0), some (1, 8, 0), none], [(1, 8, 0), (3, 4, 0)]), ([(0, 0, 59), (0, 0, 59)], [], [(7, 5, 0), (5, 7, 0), (8, 6, 0), (6, 8, 0), (8, 3, (-1))]), (0, 0))])
theorem tFC : b_sgc c_K (b_orc c_K [c_r208] 3000 5) tF [92, 58] 3000 = true := by decide +kernel
def tG0 : BSg := ((219, 59), ([some (2, 365, 0), some (1, 0, 0), some (1, 1, 0), some (1, 2, 0), some (1, 3, 0), some (1, 5, 0), some (3, 4, 0), some (1, 6, 0), none], [(0, 0, 0)], ([(0, 100, 115), (0, (-1), 9), (0, (-1), 19), (0, 0, 60), (1, 1, 0), (0, 0, 59), (0, 0, 59)], [], [])), [], [
  (.inr (47, [some (2, 365, 0), some (1, 0, 0), some (1, 1, 0), some (1, 2, 0), some (1, 3, 0), some (1, 5, 0), some (3, 4, 0), some (1, 6, 1), none], []), ([], [], []), (0, 0))])
theorem tG0C : b_sgc c_K (b_orc c_K [c_r208] 3000 5) tG0 [47] 3000 = true := by decide +kernel
def tG1 : BSg := ((219, 59), ([some (2, 365, 0), some (1, 0, 0), some (1, 1, 0), some (1, 2, 0), some (1, 3, 0), some (1, 5, 0), some (3, 4, 0), some (1, 6, 0), none], [(0, 0, 1)], ([(0, 100, 115), (0, (-1), 9), (0, (-1), 19), (0, 0, 60), (1, 1, 0), (0, 0, 59), (0, 0, 59)], [], [])), [(50, 53), (80, 0), (106, 0), (107, 0)], [
  (.inr (47, [some (2, 365, 0), some (1, 0, 0), some (1, 1, 0), some (1, 2, 0), some (1, 3, 0), some (1, 5, 1), some (3, 4, 0), some (1, 6, 1), none], []), ([], [], []), (0, 0))])
theorem tG1C : b_sgc c_K (b_orc c_K [c_r208] 3000 5) tG1 [47] 3000 = true := by decide +kernel
def tH : BSg := ((219, 92), ([some (2, 365, 0), some (1, 0, 0), some (1, 1, 0), some (1, 2, 0), some (1, 3, 0), some (1, 5, 0), some (3, 4, 0), none, none], [], ([(0, 100, 115), (0, (-1), 9), (0, (-1), 19), (0, 0, 60), (1, 1, 0), (0, 0, 60)], [], [])), [], [
  (.inr (95, [some (2, 365, 0), some (1, 0, 0), some (1, 1, 0), some (1, 2, 0), some (1, 3, 0), some (1, 5, 0), some (3, 4, 0), some (0, 0, 0), none], []), ([], [], []), (0, 0))])
theorem tHC : b_sgc c_K (b_orc c_K [c_r208] 3000 5) tH [95] 3000 = true := by decide +kernel
def tI : BSg := ((219, 95), ([some (2, 365, 0), some (1, 0, 0), some (1, 1, 0), some (1, 2, 0), some (1, 3, 0), some (1, 5, 0), some (3, 4, 0), some (1, 6, 0), none], [], ([(0, 100, 115), (0, (-1), 9), (0, (-1), 19), (0, 0, 60), (1, 1, 0), (0, 0, 60), (0, 0, 60)], [], [])), [], [
  (.inl (.inl (some (1, 5, 0))), ([], [], []), (0, 0)),
  (.inr (106, [some (2, 365, 0), some (1, 0, 0), some (1, 1, 0), some (1, 2, 0), some (1, 3, 0), some (1, 5, 0), some (3, 4, 0), some (1, 7, 0), none], [(1, 7, 0), (3, 4, 0)]), ([(0, 0, 59)], [], [(7, 6, 0), (6, 7, 0), (7, 3, (-1))]), (0, 0))])
theorem tIC : b_sgc c_K (b_orc c_K [c_r208] 3000 5) tI [106] 3000 = true := by decide +kernel
def tJ0 : BSg := ((219, 107), ([some (2, 365, 0), some (1, 0, 0), some (1, 1, 0), some (1, 2, 0), some (1, 3, 0), some (1, 5, 0), some (3, 4, 0), some (1, 6, 0), none], [(0, 0, 0)], ([(0, 100, 115), (0, (-1), 9), (0, (-1), 19), (0, 0, 60), (1, 1, 0), (0, 0, 60), (0, 0, 59)], [], [])), [], [
  (.inr (95, [some (2, 365, 0), some (1, 0, 0), some (1, 1, 0), some (1, 2, 0), some (1, 3, 0), some (1, 5, 0), some (3, 4, 0), some (1, 6, 1), none], []), ([], [], []), (0, 0))])
theorem tJ0C : b_sgc c_K (b_orc c_K [c_r208] 3000 5) tJ0 [95] 3000 = true := by decide +kernel
def tJ1 : BSg := ((219, 107), ([some (2, 365, 0), some (1, 0, 0), some (1, 1, 0), some (1, 2, 0), some (1, 3, 0), some (1, 5, 0), some (3, 4, 0), some (1, 6, 0), none], [(0, 0, 1)], ([(0, 100, 115), (0, (-1), 9), (0, (-1), 19), (0, 0, 60), (1, 1, 0), (0, 0, 60), (0, 0, 59), (0, 0, 59)], [((2, 365, 0), (0, 0, 49), (1, 7, 0))], [])), [(50, 49), (50, 53), (77, 0), (78, 0), (79, 0), (106, 0), (107, 0)], [
  (.inr (95, [some (2, 365, 0), some (1, 0, 0), some (1, 1, 0), some (1, 2, 0), some (1, 3, 0), some (1, 5, 0), some (3, 4, 0), some (1, 6, 1), none], []), ([], [((2, 365, 0), (0, 0, 49), (1, 7, 0))], []), (0, 0)),
  (.inr (150, [some (2, 365, 0), some (1, 0, 0), some (1, 1, 0), some (1, 2, 0), some (1, 3, 0), some (1, 5, 0), some (3, 4, 0), some (1, 6, 0), some (1, 7, 0)], [(0, 0, 16), (0, 0, 0), (3, 8, 0), (0, 0, 0), (3, 9, 0)]), ([(84, 0, 0), (84, 0, 0)], [((2, 365, 0), (0, 0, 49), (1, 7, 1)), ((2, 494, 0), (1, 7, 0), (3, 8, 0)), ((2, 494, 0), (1, 6, 0), (3, 9, 0))], []), (0, 0))])
theorem tJ1C : b_sgc c_K (b_orc c_K [c_r208] 3000 5) tJ1 [95, 150] 3000 = true := by decide +kernel
def tK : BSg := ((219, 167), ([some (2, 365, 0), some (1, 0, 0), some (1, 1, 0), some (1, 2, 0), some (1, 3, 0), some (1, 5, 0), some (3, 4, 0), some (1, 6, 0), none], [], ([(0, 100, 115), (0, (-1), 9), (0, (-1), 19), (0, 0, 60), (1, 1, 0), (0, 0, 60), (0, 0, 59)], [], [])), [], [
  (.inr (95, [some (2, 365, 0), some (1, 0, 0), some (1, 1, 0), some (1, 2, 0), some (1, 3, 0), some (1, 5, 0), some (3, 4, 0), some (1, 6, 1), none], []), ([], [], []), (0, 0))])
theorem tKC : b_sgc c_K (b_orc c_K [c_r208] 3000 5) tK [95] 3000 = true := by decide +kernel
/-! A new array beyond the typed cells -/
theorem c_gtL : c_gt.length = 772 := by decide +kernel
theorem c_big {a : Nat} (h : 772 ≤ a) : c_K.1 a = none := List.getElem?_eq_none (by rw [c_gtL]; exact h)
theorem c_typed {a g : Nat} (h : c_K.1 a = some g) : a < 772 := by
  have h : c_gt[a]? = some g := h
  rw [← c_gtL]
  exact (List.getElem?_eq_some_iff.mp h).1
theorem c_len {h : AH} (H : b_H c_K h) : 772 ≤ h.length := by
  obtain ⟨vs, k, -⟩ := H.1 771 110 (24, 1, 1, [(4, 0, 0)]) (by decide +kernel) (by rfl)
  have := (List.getElem?_eq_some_iff.mp k).1
  omega
theorem frm_setE {W : BW} {h h1 : AH} {a : Nat} {c : AC} (f : b_frm c_K W h h1) (ha : h.length ≤ a) : b_frm c_K W h (h1.set a c) := fun b d hb => by
  obtain ⟨us, k1, k2, k3⟩ := f b d hb
  refine ⟨us, ?_, k2, k3⟩
  have := (List.getElem?_eq_some_iff.mp hb).1
  rw [List.getElem?_set_ne (by omega)]
  exact k1
theorem H_setE {h : AH} {a : Nat} {c : AC} (H : b_H c_K h) (ha : 772 ≤ a) : b_H c_K (h.set a c) := by
  refine ⟨fun b g row h1 h2 => ?_, c_Ja_setL H.2.1 (by omega), c_Jb_set H.2.2 (by omega) (by omega)⟩
  have := c_typed h1
  rw [List.getElem?_set_ne (by omega)]
  exact H.1 b g row h1 h2
theorem GO_frm {W : BW} {h1 h2 : AH} {a t : Nat} {vs : List Value} (f : b_frm c_K W h1 h2) (ha : 772 ≤ a) (e : h1[a]? = some (t, vs)) : h2[a]? = some (t, vs) := by
  obtain ⟨us, k1, k2, k3⟩ := f a _ e
  rw [k1, show us = vs from List.ext_getElem? fun j => k3 j (fun w _ q => by
    unfold b_key at q
    rw [c_big ha] at q
    cases q)]
theorem a_prs_all : ∀ (xs pre ws : List Value), ws.length = xs.length → a_prs 0 (xs.zipIdx pre.length) (pre ++ ws) = pre ++ xs
  | [], pre, ws, h => by
    have : ws = [] := List.eq_nil_of_length_eq_zero h
    rw [this]
    rfl
  | x :: xs, pre, [], h => by cases h
  | x :: xs, pre, w :: ws, h => by
    rw [List.zipIdx_cons, a_prs]
    have e : (pre ++ w :: ws).set (0 + pre.length) x = (pre ++ [x]) ++ ws := by
      rw [Nat.zero_add, List.set_append_right _ _ (Nat.le_refl _), Nat.sub_self, List.append_assoc]
      rfl
    have ih := a_prs_all xs (pre ++ [x]) ws (Nat.succ.inj h)
    rw [List.length_append] at ih
    show a_prs 0 (xs.zipIdx (pre.length + 1)) ((pre ++ w :: ws).set (0 + pre.length) x) = _
    rw [e]
    exact ih.trans (by rw [List.append_assoc]; rfl)
/-- a row laid over another, with its length -/
theorem J_copy {h : AH} (J : c_Ja h) {s s0 rn rk t u t5 : Nat} {n : Int32} {ws wn ms : List Value} (hs : c_wr[s]? = some rn) (hs0 : c_wr[s0]? = some rk) (hk : h[rk]? = some (t, ws)) (hn : h[rn]? = some (u, wn)) (h5 : h[555]? = some (t5, ms)) (hm : ms[s0]? = some (.int n)) (hl : s < ms.length) : c_Ja ((h.set rn (u, ws)).set 555 (t5, ms.set s (.int n))) := by
  obtain ⟨⟨t0, q1⟩, -, q3, q4⟩ := J
  obtain ⟨w1, w2⟩ := c_wrI hs
  have lt5 := (List.getElem?_eq_some_iff.mp h5).1
  have ltn := (List.getElem?_eq_some_iff.mp hn).1
  refine ⟨⟨t0, by rw [List.getElem?_set_ne (by omega), List.getElem?_set_ne (by omega)]; exact q1⟩, ⟨_, List.getElem?_set_self (by rw [List.length_set]; exact lt5)⟩, fun b hb => ?_, fun s' b t1 t2 ms' ws' n' hs' hB hn' hb i j hij hj => ?_⟩
  · obtain ⟨s', q⟩ := List.mem_iff_getElem?.mp hb
    have := c_wrI q
    rw [List.getElem?_set_ne (by omega)]
    by_cases e : b = rn
    · subst e
      exact ⟨_, List.getElem?_set_self ltn⟩
    · rw [List.getElem?_set_ne (Ne.symm e)]
      exact q3 b hb
  · obtain ⟨v1, v2⟩ := c_wrI hs'
    rw [List.getElem?_set_self (by rw [List.length_set]; exact lt5)] at hB
    cases hB
    rw [List.getElem?_set_ne (by omega)] at hb
    by_cases e : s' = s
    · subst e
      have eb : b = rn := by omega
      subst eb
      rw [List.getElem?_set_self ltn] at hb
      cases hb
      rw [List.getElem?_set_self hl] at hn'
      cases hn'
      exact q4 s0 rk t5 t ms ws n hs0 h5 hm hk i j hij hj
    · rw [List.getElem?_set_ne (by omega)] at hb
      rw [List.getElem?_set_ne (Ne.symm e)] at hn'
      exact q4 s' b t5 t2 ms ws' n' hs' h5 hn' hb i j hij hj
theorem tI11 : a_ins 219 11 = some (.newarray .boolean, 2) := by decide +kernel
theorem tI13 : a_ins 219 13 = some (.astore 6, 2) := by decide +kernel
theorem tI34 : a_ins 219 34 = some (.invokevirtual 296, 3) := by decide +kernel
theorem tI37 : a_ins 219 37 = some (.bastore, 1) := by decide +kernel
theorem tI58 : a_ins 219 58 = some (.baload, 1) := by decide +kernel
theorem tI106 : a_ins 219 106 = some (.baload, 1) := by decide +kernel
theorem tI150 : a_ins 219 150 = some (.invokestatic 166, 3) := by decide +kernel
theorem tI153 : a_ins 219 153 = some (.aload_n 0, 1) := by decide +kernel
theorem tI154 : a_ins 219 154 = some (.getfield 103, 3) := by decide +kernel
theorem tI157 : a_ins 219 157 = some (.iload 8, 2) := by decide +kernel
theorem tI159 : a_ins 219 159 = some (.aload_n 0, 1) := by decide +kernel
theorem tI160 : a_ins 219 160 = some (.getfield 103, 3) := by decide +kernel
theorem tI163 : a_ins 219 163 = some (.iload 7, 2) := by decide +kernel
theorem tI165 : a_ins 219 165 = some (.iaload, 1) := by decide +kernel
theorem tI166 : a_ins 219 166 = some (.iastore, 1) := by decide +kernel
theorem tI34c : (a_of a_inv (a_own 219)).find? (fun e => e.1 == 296 && e.2.1 == 0) = some (296, 0, 218, (8, 161), (8, 163), (0, 45), (1, 13)) := by rfl
theorem tIo : a_own 219 = 12 := by decide +kernel
theorem tIf : a_field (a_own 219) 103 = some (12, 29) := by decide +kernel
theorem tIn : b_noc 12 (.invokestatic 166) = true ∧ ((a_of a_mat 12).find? (fun e => e.1 == 166)).isNone = true := by decide +kernel
theorem tN {pc : Nat} {own : Nat} {ini : Bool} {al : AL} {st : List Value} {h : AH} : a_stp own ini (.newarray .boolean) 2 pc al (.int 60 :: st) h = some (pc + 2, al, .ref h.length :: st, h ++ [(21, List.replicate 60 (.int 0))], 1, 60) := by
  have e : a_row .boolean 60 = (21, List.replicate 60 (.int 0)) := by decide +kernel
  rw [← e]
  exact a_by5 rfl rfl
/-- from the copying of a row to the loop's end -/
theorem t150 {d mc ms : Nat} {al : AL} {h : AH} {rn rk t12 : Nat} {vM ws wn m5 : List Value} {n k nx : Int32} {c16 z1 z2 : Int32} {r : AR} (hM : h[365]? = some (t12, vM)) (ht : t12 = 12) (hM29 : vM[29]? = some (.ref 555)) (hk : h[rk]? = some (20, ws)) (hn : h[rn]? = some (20, wn)) (lw : ws.length = 16) (ln : wn.length = 16) (tw : ∀ v ∈ ws, ∃ x : Int32, v = .int x) (h5 : h[555]? = some (20, m5)) (l5 : m5.length = 60) (e16 : c16.toInt = 16) (e1 : z1.toInt = 0) (e2 : z2.toInt = 0) (n365 : rn ≠ 365) (n555 : rn ≠ 555) (a0 : a_get al 0 = some (.ref 365)) (a7 : a_get al 7 = some (.int k)) (a8 : a_get al 8 = some (.int nx)) (hk0 : 0 ≤ k.toInt ∧ k.toInt < 60) (hx0 : 0 ≤ nx.toInt ∧ nx.toInt < 60) (hmk : m5[k.toInt.toNat]? = some (.int n)) (hr : b_R d 219 167 al [] ((h.set rn (20, ws)).set 555 (20, m5.set nx.toInt.toNat (.int n))) mc ms r) : b_R d 219 150 al [.int c16, .int z1, .ref rn, .int z2, .ref rk] h mc ms r := by
  subst ht
  have neg : ∀ X : Int32, 0 ≤ X.toInt → ¬ X < 0 := fun X hX q => by
    have := Int32.lt_iff_toInt_lt.mp q
    have z : (0 : Int32).toInt = 0 := by decide
    omega
  have cN : c16.toNatClampNeg = c16.toInt.toNat := rfl
  have cD : z1.toNatClampNeg = z1.toInt.toNat := rfl
  have cS : z2.toNatClampNeg = z2.toInt.toNat := rfl
  have n16 : c16.toNatClampNeg = 16 := by omega
  have d0 : z1.toNatClampNeg = 0 := by omega
  have s0 : z2.toNatClampNeg = 0 := by omega
  have sl : a_sl ws 0 16 = ws := by
    unfold a_sl
    rw [List.drop_zero, List.take_of_length_le (by omega)]
  have hfit : a_fitL .int ws = true := List.all_eq_true.mpr fun v hv => by
    obtain ⟨x, rfl⟩ := tw v hv
    rfl
  have e : a_acp (a_own 219) (.invokestatic 166) 3 [.int c16, .int z1, .ref rn, .int z2, .ref rk] h = some ([], h.set rn (20, ws)) := by
    unfold a_acp
    dsimp only
    rw [if_pos ⟨tIo, rfl, rfl, by decide, neg _ (by omega), neg _ (by omega), neg _ (by omega)⟩, hk, hn]
    dsimp only
    rw [show a_aty 20 = some .int from rfl]
    dsimp only
    rw [n16, d0, s0, sl, if_pos ⟨rfl, by decide, rfl, by omega, by omega, hfit⟩]
    have := a_prs_all ws [] wn (by omega)
    rw [show a_prs 0 ws.zipIdx wn = ws from this]
  refine b_R.acp tI150 rfl rfl (b_noc_ok (by rw [tIo]; exact tIn.1)) (a_stpN (i := .invokestatic 166) (k := 5) rfl (by decide) (by
    unfold a_st5
    dsimp only
    rw [tIo, Option.isNone_iff_eq_none.mp tIn.2])) e ?_
  have hM' : (h.set rn (20, ws))[365]? = some (12, vM) := by rw [List.getElem?_set_ne n365]; exact hM
  have h5' : (h.set rn (20, ws))[555]? = some (20, m5) := by rw [List.getElem?_set_ne n555]; exact h5
  have ld : ∀ {pc : Nat} {st : List Value}, a_st1 (.aload_n 0) pc al st (h.set rn (20, ws)) = some (pc + 1, al, .ref 365 :: st, h.set rn (20, ws), 0, 0) := fun {pc st} => by
    show (match a_get al 0 with
      | some v => if a_kind v = 4 then some (pc + 1, al, v :: st, h.set rn (20, ws), 0, 0) else none
      | none => none) = _
    rw [a0]
    rfl
  have gf : ∀ {pc : Nat} {st : List Value}, a_stp (a_own 219) (a_ini 219) (.getfield 103) 3 pc al (.ref 365 :: st) (h.set rn (20, ws)) = some (pc + 3, al, .ref 555 :: st, h.set rn (20, ws), 0, 0) := fun {pc st} => a_by4 rfl (by
    unfold a_st4
    dsimp only
    rw [tIf]
    dsimp only
    rw [hM']
    dsimp only
    rw [if_pos rfl, hM29]
    rfl)
  refine b_R.stp tI153 rfl rfl rfl (a_by1 rfl ld) ?_
  refine b_R.stp tI154 rfl rfl rfl gf ?_
  refine b_R.stp tI157 rfl rfl rfl (a_by1 (r := (159, al, [.int nx, .ref 555], h.set rn (20, ws), 0, 0)) rfl (by
    show (match a_get al 8 with
      | some v => if a_kind v = 0 then some (159, al, [v, .ref 555], h.set rn (20, ws), 0, 0) else none
      | none => none) = _
    rw [a8]
    rfl)) ?_
  refine b_R.stp tI159 rfl rfl rfl (a_by1 rfl ld) ?_
  refine b_R.stp tI160 rfl rfl rfl gf ?_
  refine b_R.stp tI163 rfl rfl rfl (a_by1 (r := (165, al, [.int k, .ref 555, .int nx, .ref 555], h.set rn (20, ws), 0, 0)) rfl (by
    show (match a_get al 7 with
      | some v => if a_kind v = 0 then some (165, al, [v, .ref 555, .int nx, .ref 555], h.set rn (20, ws), 0, 0) else none
      | none => none) = _
    rw [a7]
    rfl)) ?_
  obtain ⟨k1, k2, k3⟩ := b_ix_ok (j := k) (n := m5.length) hk0.1 (by omega)
  have kk : k.toNatClampNeg = k.toInt.toNat := rfl
  refine b_R.stp tI165 rfl rfl rfl (a_by3 (r := (166, al, [.int n, .int nx, .ref 555], h.set rn (20, ws), 0, 0)) rfl (by
    unfold a_st3
    dsimp only
    rw [h5']
    dsimp only
    rw [if_pos (show a_ald .iaload 20 = true by decide), k1]
    show (m5[k.toNatClampNeg]?).map _ = _
    rw [kk, hmk]
    rfl)) ?_
  obtain ⟨x1, x2, x3⟩ := b_ix_ok (j := nx) (n := m5.length) hx0.1 (by omega)
  exact b_R.ast tI166 h5' x1 hr
