/-! What is claimed, of the abstract run alone -/
theorem x_tab_ok : ∀ e ∈ x_tab, x_P 13 3000 e := by
  intro e he
  simp only [x_tab, List.mem_cons, List.not_mem_nil, or_false] at he
  rcases he with rfl | rfl
  · exact x_qX11
  · exact x_qX12
def x_rho (xs : Nat → Int32) : GV := (fun k => if k < 8 then xs k else if k < 16 then s_i2c (xs (k - 8)) else xs (k - 16) &&& 63, (99, []))
theorem x_rho_fix (xs : Nat → Int32) : s_fix (x_rho xs) := by
  intro n hn
  have h1 : (x_rho xs).1 n = xs n := if_pos hn
  refine ⟨?_, ?_⟩
  · rw [h1]
    show (if 8 + n < 8 then xs (8 + n) else if 8 + n < 16 then s_i2c (xs (8 + n - 8)) else xs (8 + n - 16) &&& 63) = _
    rw [if_neg (by omega), if_pos (by omega), show 8 + n - 8 = n from by omega]
  · rw [h1]
    show (if 16 + n < 8 then xs (16 + n) else if 16 + n < 16 then s_i2c (xs (16 + n - 8)) else xs (16 + n - 16) &&& 63) = _
    rw [if_neg (by omega), if_neg (by omega), show 16 + n - 16 = n from by omega]
theorem x_full (x : Int32) : s_in [(-2147483648, 2147483647)] x.toInt := by
  have h1 := Int32.le_toInt x
  have h2 := Int32.toInt_lt x
  exact ⟨_, List.mem_cons_self, by dsimp only; omega, by dsimp only; omega⟩
theorem x_rho_sat (xs : Nat → Int32) : s_sat x_E (x_rho xs) := by
  intro k S hS
  have hk : k < 24 := (List.getElem?_eq_some_iff.mp hS).1
  show s_in S (if k < 8 then xs k else if k < 16 then s_i2c (xs (k - 8)) else xs (k - 16) &&& 63).toInt
  by_cases h1 : k < 8
  · rw [if_pos h1]
    have e : x_E[k]? = some [(-2147483648, 2147483647)] := by
      unfold x_E
      rw [List.getElem?_append_left (by simpa using h1), List.getElem?_replicate, if_pos h1]
    rw [e] at hS
    cases hS
    exact x_full _
  · rw [if_neg h1]
    by_cases h2 : k < 16
    · rw [if_pos h2]
      have e : x_E[k]? = some [(0, 65535)] := by
        unfold x_E
        rw [List.getElem?_append_right (by simp; omega), List.getElem?_append_left (by simp; omega), List.getElem?_replicate, if_pos (by simp; omega)]
      rw [e] at hS
      cases hS
      exact s_i2c_in _
    · rw [if_neg h2]
      have e : x_E[k]? = some [(0, 63)] := by
        unfold x_E
        rw [List.getElem?_append_right (by simp; omega), List.getElem?_append_right (by simp; omega), List.getElem?_replicate, if_pos (by simp; omega)]
      rw [e] at hS
      cases hS
      exact s_and_in _
theorem x_good_ok {xs : Nat → Int32} {E : SE} {L : Nat} (hL : L ≤ 6) (hs : s_sat E (x_rho xs)) (h : x_good (x_run x_tab 13 3000 E 301 [.ref 0] (x_hL L)) = true) : ∃ r, a_run (13 + 1) 3000 301 [.ref 0] [(19, (List.range L).map fun j => .int (xs j))] = some r ∧ r.1 = .inl (some (.int 1)) ∧ r.2.2.1 ≤ 600006 ∧ r.2.2.2 ≤ 7302087 := by
  cases ho : x_run x_tab 13 3000 E 301 [.ref 0] (x_hL L) with
  | none => rw [ho] at h; cases h
  | some outs =>
    rw [ho] at h
    obtain ⟨o, hm, -, h1⟩ := x_run_ok (x_rho_fix xs) x_tab_ok ho hs
    have h2 := List.all_eq_true.mp (show (outs.all x_gd) = true from h) o hm
    have e0 : ((List.range L).map Value.retAddr).map (g_v (x_rho xs)) = (List.range L).map fun j => Value.int (xs j) := by
      rw [List.map_map]
      refine List.map_congr_left fun j hj => ?_
      have hj8 : j < 8 := by have := List.mem_range.mp hj; omega
      exact congrArg Value.int (if_pos hj8)
    have e1 : g_H (x_rho xs) (x_hL L) = [(19, (List.range L).map fun j => .int (xs j))] := by
      rw [← e0]; rfl
    have e2 : g_S (x_rho xs) [.ref 0] = [.ref 0] := rfl
    rw [e1, e2] at h1
    refine ⟨g_r (x_rho xs) o.2, h1, ?_⟩
    obtain ⟨E', res, h', c, s⟩ := o
    unfold x_gd at h2
    dsimp only at h2
    split at h2
    · rename_i v
      rw [Bool.and_eq_true, Bool.and_eq_true, decide_eq_true_eq] at h2
      obtain ⟨rfl, h3, h4⟩ := h2
      exact ⟨rfl, Nat.le_of_ble_eq_true h3, Nat.le_of_ble_eq_true h4⟩
    · cases h2
theorem x_ops (xs : Nat → Int32) : ∃ E, s_sat E (x_rho xs) ∧ x_good (x_run x_tab 13 3000 E 301 [.ref 0] (x_hL 6)) = true := by
  have h0 : (x_rho xs).1 16 = xs 0 &&& 63 := rfl
  obtain ⟨q, hq, h1, h2⟩ := s_and_in (xs 0)
  cases List.mem_singleton.mp hq
  generalize hv : (xs 0 &&& 63).toInt = v at h1 h2
  have up : ∀ a b : Int, a ≤ v → v ≤ b → s_sat (x_E.set 16 [(a, b)]) (x_rho xs) := fun a b g1 g2 => (x_rho_sat xs).upd (k := 16) (S := [(a, b)]) ⟨(a, b), List.mem_cons_self, by rw [h0, hv]; exact g1, by rw [h0, hv]; exact g2⟩
  have up1 : ∀ a lo hi : Int, v = a → lo ≤ (xs 1).toInt → (xs 1).toInt ≤ hi → s_sat ((x_E.set 16 [(a, a)]).set 1 [(lo, hi)]) (x_rho xs) := fun a lo hi g g1 g2 => (up a a (by omega) (by omega)).upd (k := 1) (S := [(lo, hi)]) ⟨(lo, hi), List.mem_cons_self, g1, g2⟩
  obtain ⟨w, hw, h3, h4⟩ := x_full (xs 1)
  cases List.mem_singleton.mp hw
  dsimp only at h1 h2 h3 h4
  rcases (by omega : v = 0 ∨ v = 1 ∨ v = 2 ∨ v = 3 ∨ v = 4 ∨ v = 5 ∨ v = 6 ∨ v = 7 ∨ v = 8 ∨ v = 9 ∨ v = 10 ∨ v = 11 ∨ v = 12 ∨ v = 13 ∨ v = 14 ∨ v = 15 ∨ v = 16 ∨ v = 17 ∨ v = 18 ∨ v = 19 ∨ v = 20 ∨ v = 21 ∨ v = 22 ∨ v = 23 ∨ v = 24 ∨ v = 25 ∨ v = 26 ∨ v = 27 ∨ v = 28 ∨ v = 29 ∨ v = 30 ∨ v = 31 ∨ v = 32 ∨ v = 33 ∨ v = 34 ∨ v = 35 ∨ v = 36 ∨ v = 37 ∨ v = 38 ∨ v = 39 ∨ v = 40 ∨ v = 41 ∨ v = 42 ∨ v = 43 ∨ v = 44 ∨ v = 45 ∨ v = 46 ∨ v = 47 ∨ 48 ≤ v) with h | h | h | h | h | h | h | h | h | h | h | h | h | h | h | h | h | h | h | h | h | h | h | h | h | h | h | h | h | h | h | h | h | h | h | h | h | h | h | h | h | h | h | h | h | h | h | h | h
  · exact ⟨_, up 0 0 (by omega) (by omega), x_op0⟩
  · exact ⟨_, up 1 1 (by omega) (by omega), x_op1⟩
  · exact ⟨_, up 2 2 (by omega) (by omega), x_op2⟩
  · exact ⟨_, up 3 3 (by omega) (by omega), x_op3⟩
  · exact ⟨_, up 4 4 (by omega) (by omega), x_op4⟩
  · exact ⟨_, up 5 5 (by omega) (by omega), x_op5⟩
  · exact ⟨_, up 6 6 (by omega) (by omega), x_op6⟩
  · exact ⟨_, up 7 7 (by omega) (by omega), x_op7⟩
  · exact ⟨_, up 8 8 (by omega) (by omega), x_op8⟩
  · exact ⟨_, up 9 9 (by omega) (by omega), x_op9⟩
  · exact ⟨_, up 10 10 (by omega) (by omega), x_op10⟩
  · exact ⟨_, up 11 11 (by omega) (by omega), x_op11⟩
  · exact ⟨_, up 12 12 (by omega) (by omega), x_op12⟩
  · exact ⟨_, up 13 13 (by omega) (by omega), x_op13⟩
  · exact ⟨_, up 14 14 (by omega) (by omega), x_op14⟩
  · exact ⟨_, up 15 15 (by omega) (by omega), x_op15⟩
  · exact ⟨_, up 16 16 (by omega) (by omega), x_op16⟩
  · exact ⟨_, up 17 17 (by omega) (by omega), x_op17⟩
  · exact ⟨_, up 18 18 (by omega) (by omega), x_op18⟩
  · exact ⟨_, up 19 19 (by omega) (by omega), x_op19⟩
  · exact ⟨_, up 20 20 (by omega) (by omega), x_op20⟩
  · exact ⟨_, up 21 21 (by omega) (by omega), x_op21⟩
  · exact ⟨_, up 22 22 (by omega) (by omega), x_op22⟩
  · exact ⟨_, up 23 23 (by omega) (by omega), x_op23⟩
  · rcases (by omega : ((-2147483648) ≤ (xs 1).toInt ∧ (xs 1).toInt ≤ 0) ∨ (1 ≤ (xs 1).toInt ∧ (xs 1).toInt ≤ 10) ∨ (11 ≤ (xs 1).toInt ∧ (xs 1).toInt ≤ 20) ∨ (21 ≤ (xs 1).toInt ∧ (xs 1).toInt ≤ 30) ∨ (31 ≤ (xs 1).toInt ∧ (xs 1).toInt ≤ 40) ∨ (41 ≤ (xs 1).toInt ∧ (xs 1).toInt ≤ 50) ∨ (51 ≤ (xs 1).toInt ∧ (xs 1).toInt ≤ 2147483647)) with g | g | g | g | g | g | g
    · exact ⟨_, up1 24 (-2147483648) 0 h g.1 g.2, x_op24_0⟩
    · exact ⟨_, up1 24 1 10 h g.1 g.2, x_op24_1⟩
    · exact ⟨_, up1 24 11 20 h g.1 g.2, x_op24_2⟩
    · exact ⟨_, up1 24 21 30 h g.1 g.2, x_op24_3⟩
    · exact ⟨_, up1 24 31 40 h g.1 g.2, x_op24_4⟩
    · exact ⟨_, up1 24 41 50 h g.1 g.2, x_op24_5⟩
    · exact ⟨_, up1 24 51 2147483647 h g.1 g.2, x_op24_6⟩
  · exact ⟨_, up 25 25 (by omega) (by omega), x_op25⟩
  · exact ⟨_, up 26 26 (by omega) (by omega), x_op26⟩
  · exact ⟨_, up 27 27 (by omega) (by omega), x_op27⟩
  · exact ⟨_, up 28 28 (by omega) (by omega), x_op28⟩
  · exact ⟨_, up 29 29 (by omega) (by omega), x_op29⟩
  · exact ⟨_, up 30 30 (by omega) (by omega), x_op30⟩
  · exact ⟨_, up 31 31 (by omega) (by omega), x_op31⟩
  · exact ⟨_, up 32 32 (by omega) (by omega), x_op32⟩
  · exact ⟨_, up 33 33 (by omega) (by omega), x_op33⟩
  · exact ⟨_, up 34 34 (by omega) (by omega), x_op34⟩
  · exact ⟨_, up 35 35 (by omega) (by omega), x_op35⟩
  · exact ⟨_, up 36 36 (by omega) (by omega), x_op36⟩
  · exact ⟨_, up 37 37 (by omega) (by omega), x_op37⟩
  · exact ⟨_, up 38 38 (by omega) (by omega), x_op38⟩
  · exact ⟨_, up 39 39 (by omega) (by omega), x_op39⟩
  · exact ⟨_, up 40 40 (by omega) (by omega), x_op40⟩
  · exact ⟨_, up 41 41 (by omega) (by omega), x_op41⟩
  · exact ⟨_, up 42 42 (by omega) (by omega), x_op42⟩
  · exact ⟨_, up 43 43 (by omega) (by omega), x_op43⟩
  · exact ⟨_, up 44 44 (by omega) (by omega), x_op44⟩
  · exact ⟨_, up 45 45 (by omega) (by omega), x_op45⟩
  · exact ⟨_, up 46 46 (by omega) (by omega), x_op46⟩
  · exact ⟨_, up 47 47 (by omega) (by omega), x_op47⟩
  · exact ⟨_, up 48 63 h h2, x_op48⟩
theorem a_claim (L : Nat) (xs : Nat → Int32) (hL : L ≤ 6) : ∃ (d F : Nat) (r : AR), d ≤ 14 ∧ a_go (a_run d F) 301 F 0 (a_args 301 [.ref 0]) [] [(19, (List.range L).map fun j => .int (xs j))] 0 0 = some r ∧ r.1 = .inl (some (.int 1)) ∧ r.2.2.1 ≤ 600006 ∧ r.2.2.2 ≤ 7302087 := by
  have key : ∃ r, a_run (13 + 1) 3000 301 [.ref 0] [(19, (List.range L).map fun j => .int (xs j))] = some r ∧ r.1 = .inl (some (.int 1)) ∧ r.2.2.1 ≤ 600006 ∧ r.2.2.2 ≤ 7302087 := by
    by_cases h6 : L = 6
    · subst h6
      obtain ⟨E, h1, h2⟩ := x_ops xs
      exact x_good_ok (Nat.le_refl _) h1 h2
    · have : x_sh L = true := by
        rcases (by omega : L = 0 ∨ L = 1 ∨ L = 2 ∨ L = 3 ∨ L = 4 ∨ L = 5) with rfl | rfl | rfl | rfl | rfl | rfl
        · exact x_sh0
        · exact x_sh1
        · exact x_sh2
        · exact x_sh3
        · exact x_sh4
        · exact x_sh5
      exact x_good_ok hL (x_rho_sat xs) this
  obtain ⟨r, h1, h2⟩ := key
  refine ⟨13, 3000, r, by decide, ?_, h2⟩
  rw [a_run] at h1
  split at h1
  · exact h1
  · cases h1
