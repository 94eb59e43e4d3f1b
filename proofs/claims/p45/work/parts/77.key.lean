/-! key and sell: a new array each, copied into a row -/
theorem kO : b_cal c_K (b_lim 2) (b_orc c_K [] 3000 2) := b_orc_ok c_hJ (fun _ h => absurd h List.not_mem_nil) 3000 2
def kA : BSg := ((199, 0), ([some (2, 365, 0), some (1, 0, 0), some (1, 1, 0), some (1, 2, 0), some (1, 3, 0), none], [], ([(0, (-2147483648), 2147483647), (0, (-2147483648), 2147483647), (0, (-2147483648), 2147483647), (0, (-2147483648), 2147483647)], [], [])), [(50, 55)], [
  (.inl (.inl (some (0, 0, 0))), ([], [], []), (0, 0)),
  (.inr (84, [some (2, 365, 0), some (1, 4, 0), some (1, 5, 0), some (1, 6, 0), some (1, 7, 0), none], []), ([(0, 0, 19), (0, 0, 3), (0, 0, 49), (0, 0, 49), (0, 0, 59)], [((2, 365, 0), (0, 0, 48), (1, 8, 0))], []), (0, 0))])
theorem kAC : b_sgc c_K (b_orc c_K [] 3000 2) kA [84] 3000 = true := by decide +kernel
def kB : BSg := ((199, 106), ([some (2, 365, 0), some (1, 4, 0), some (1, 5, 0), some (1, 6, 0), some (1, 7, 0), some (3, 9, 0)], [], ([(0, (-2147483648), 2147483647), (0, (-2147483648), 2147483647), (0, (-2147483648), 2147483647), (0, (-2147483648), 2147483647), (0, 0, 19), (0, 0, 3), (0, 0, 49), (0, 0, 49), (0, 0, 59), (1, 1, 0)], [((2, 365, 0), (0, 0, 48), (1, 8, 0))], [])), [], [
  (.inr (120, [some (2, 365, 0), some (1, 4, 0), some (1, 5, 0), some (1, 6, 0), some (1, 7, 0), none], [(0, 0, 4), (0, 0, 0), (3, 10, 0), (0, 0, 0), (3, 9, 0)]), ([(77, 0, 0)], [((2, 365, 0), (0, 0, 48), (1, 8, 0))], []), (0, 0))])
theorem kBC : b_sgc c_K (b_orc c_K [] 3000 2) kB [120] 3000 = true := by decide +kernel
def kC : BSg := ((199, 123), ([some (2, 365, 0), some (1, 4, 0), some (1, 5, 0), some (1, 6, 0), some (1, 7, 0), none], [], ([(0, (-2147483648), 2147483647), (0, (-2147483648), 2147483647), (0, (-2147483648), 2147483647), (0, (-2147483648), 2147483647), (0, 0, 19), (0, 0, 3), (0, 0, 49), (0, 0, 49), (0, 0, 59), (1, 1, 0), (77, 0, 0)], [((2, 365, 0), (0, 0, 48), (1, 8, 0))], [])), [(50, 48)], [
  (.inl (.inl (some (1, 11, 0))), ([(0, 0, 60)], [], []), (0, 0))])
theorem kCC : b_sgc c_K (b_orc c_K [] 3000 2) kC [] 3000 = true := by decide +kernel
theorem kI84 : a_ins 199 84 = some (.iconst 4, 1) := by decide +kernel
theorem kI85 : a_ins 199 85 = some (.newarray .int, 2) := by decide +kernel
theorem kI87 : a_ins 199 87 = some (.dup, 1) := by decide +kernel
theorem kI88 : a_ins 199 88 = some (.iconst 0, 1) := by decide +kernel
theorem kI89 : a_ins 199 89 = some (.iload_n 1, 1) := by decide +kernel
theorem kI90 : a_ins 199 90 = some (.iastore, 1) := by decide +kernel
theorem kI91 : a_ins 199 91 = some (.dup, 1) := by decide +kernel
theorem kI92 : a_ins 199 92 = some (.iconst 1, 1) := by decide +kernel
theorem kI93 : a_ins 199 93 = some (.iload_n 2, 1) := by decide +kernel
theorem kI94 : a_ins 199 94 = some (.iastore, 1) := by decide +kernel
theorem kI95 : a_ins 199 95 = some (.dup, 1) := by decide +kernel
theorem kI96 : a_ins 199 96 = some (.iconst 2, 1) := by decide +kernel
theorem kI97 : a_ins 199 97 = some (.iload_n 3, 1) := by decide +kernel
theorem kI98 : a_ins 199 98 = some (.iastore, 1) := by decide +kernel
theorem kI99 : a_ins 199 99 = some (.dup, 1) := by decide +kernel
theorem kI100 : a_ins 199 100 = some (.iconst 3, 1) := by decide +kernel
theorem kI101 : a_ins 199 101 = some (.iload 4, 2) := by decide +kernel
theorem kI103 : a_ins 199 103 = some (.iastore, 1) := by decide +kernel
theorem kI104 : a_ins 199 104 = some (.astore 5, 2) := by decide +kernel
theorem kN {pc : Nat} {own : Nat} {ini : Bool} {al : AL} {st : List Value} {h : AH} : a_stp own ini (.newarray .int) 2 pc al (.int (Int32.ofInt 4) :: st) h = some (pc + 2, al, .ref h.length :: st, h ++ [(20, [.int 0, .int 0, .int 0, .int 0])], 1, 4) := by
  have e : a_row .int 4 = (20, [.int 0, .int 0, .int 0, .int 0]) := by decide +kernel
  rw [← e]
  exact a_by5 rfl rfl
theorem kM {d mc ms : Nat} {al al2 : AL} {h : AH} {f0 f1 f2 f3 : Int32} {r : AR} (g0 : a_get al 1 = some (.int f0)) (g1 : a_get al 2 = some (.int f1)) (g2 : a_get al 3 = some (.int f2)) (g3 : a_get al 4 = some (.int f3)) (ha : a_sto al 5 (.ref h.length) = some al2) (hr : b_R d 199 106 al2 [] (h ++ [(20, [.int f0, .int f1, .int f2, .int f3])]) (mc + 1) (ms + 4) r) : b_R d 199 84 al [] h mc ms r := by
  refine b_R.stp kI84 rfl rfl rfl (a_by1 rfl rfl) ?_
  refine b_R.stp kI85 rfl rfl rfl kN ?_
  refine c_fill (k := 1) (m := 0) (x := f0) kI87 kI88 kI89 kI90 ⟨rfl, rfl, rfl, rfl, fun _ => rfl, fun _ q => by cases q⟩ (ln := 4) rfl (by decide) g0 ?_
  refine c_fill (k := 2) (m := 1) (x := f1) kI91 kI92 kI93 kI94 ⟨rfl, rfl, rfl, rfl, fun _ => rfl, fun _ q => by cases q⟩ (ln := 4) rfl (by decide) g1 ?_
  refine c_fill (k := 3) (m := 2) (x := f2) kI95 kI96 kI97 kI98 ⟨rfl, rfl, rfl, rfl, fun _ => rfl, fun _ q => by cases q⟩ (ln := 4) rfl (by decide) g2 ?_
  refine c_fill (k := 4) (m := 3) (x := f3) kI99 kI100 kI101 kI103 ⟨rfl, rfl, rfl, rfl, fun _ => rfl, fun _ q => by cases q⟩ (ln := 4) rfl (by decide) g3 ?_
  refine b_R.stp kI104 rfl rfl rfl (a_by1 rfl (by show (a_sto al 5 (.ref h.length)).map _ = _; rw [ha]; rfl)) ?_
  exact hr
theorem k106 {ν : BN} {h : AH} {a : Nat} {vs : List Value} (g : b_G c_K ν h h (kB.2.1.2.2.1, kB.2.1.2.2.2.1, [], [], [])) (ha : (a : Int) = ν 9) (h1 : h[a]? = some (20, vs)) (h2 : vs.length = 4) (h3 : ∀ v ∈ vs, ∃ x : Int32, v = .int x ∧ 0 ≤ x.toInt ∧ x.toInt ≤ 49) : b_gd c_K c_r199 2 106 kB.2.1.1 [] kB.2.1.2.2.1.length ν h 1 4 := by
  refine b_gd.sg c_hJ kO kBC rfl (by decide) (by decide) g (b_al.c ?_ b_al.n)
  intro ν1 h1' x1 g1
  refine b_pq.to rfl ?_
  have f1 := g1.2.2.2.2.2
  have t1 : h1'[a]? = some (20, vs) := by
    obtain ⟨us, u1, u2, u3⟩ := f1 a _ h1
    rw [u1, show us = vs from List.ext_getElem? fun j => u3 j (fun w hw => by cases hw)]
  have n1 : ν1 9 = ν 9 := x1.2 9 (by decide)
  refine b_gd.acp c_hJ (gg := 76) (lo := 0) (hi := 49) (n := 4) (by decide +kernel) (by decide +kernel) (by decide +kernel) (by rfl) (by decide) (by decide) rfl (fun aa haa => ⟨vs, ?_, h2, h3⟩) rfl (by decide) g1.here (fun b us g2 => ?_) rfl
  · have e : aa = a := by have := haa.v; omega
    rw [e]; exact t1
  · refine b_gd.sg (S := kC) c_hJ kO kCC rfl (by decide) (by decide) (g2.wk (by decide +kernel)) (b_al.c ?_ b_al.n)
    intro ν3 h3' x3 g4
    exact b_pq.int (lo := 0) (hi := 60) (by decide) g4
theorem k84 {ν : BN} {h : AH} (g : b_G c_K ν h h ([(0, (-2147483648), 2147483647), (0, (-2147483648), 2147483647), (0, (-2147483648), 2147483647), (0, (-2147483648), 2147483647), (0, 0, 19), (0, 0, 3), (0, 0, 49), (0, 0, 49), (0, 0, 59)], [((2, 365, 0), (0, 0, 48), (1, 8, 0))], [], [], [])) : b_gd c_K c_r199 2 84 [some (2, 365, 0), some (1, 4, 0), some (1, 5, 0), some (1, 6, 0), some (1, 7, 0), none] [] 9 ν h 0 0 := by
  intro al st hl hs
  obtain rfl := hs.inv0
  obtain ⟨v0, a0, b0⟩ := hl.2 1 (1, 4, 0) rfl
  obtain ⟨f0, rfl, e0⟩ := b0.int (by show 1 < 2; decide)
  have i0 := g.iv 4 (lo := 0) (hi := 19) rfl
  have w0 := e0.v
  obtain ⟨v1, a1, b1⟩ := hl.2 2 (1, 5, 0) rfl
  obtain ⟨f1, rfl, e1⟩ := b1.int (by show 1 < 2; decide)
  have i1 := g.iv 5 (lo := 0) (hi := 3) rfl
  have w1 := e1.v
  obtain ⟨v2, a2, b2⟩ := hl.2 3 (1, 6, 0) rfl
  obtain ⟨f2, rfl, e2⟩ := b2.int (by show 1 < 2; decide)
  have i2 := g.iv 6 (lo := 0) (hi := 49) rfl
  have w2 := e2.v
  obtain ⟨v3, a3, b3⟩ := hl.2 4 (1, 7, 0) rfl
  obtain ⟨f3, rfl, e3⟩ := b3.int (by show 1 < 2; decide)
  have i3 := g.iv 7 (lo := 0) (hi := 49) rfl
  have w3 := e3.v
  have g1 := g.ad (ν' := b_nu ν 9 h.length) (E' := [(1, 1, 0)]) (F' := []) (C' := []) (fun n hn => if_neg (Nat.ne_of_lt hn)) ⟨by show b_q _ _ (b_nu ν 9 h.length 9); rw [b_nu_n]; exact b_q.r0, trivial⟩ trivial trivial
  have g2 := g1.app c_hJ (c := (20, [.int f0, .int f1, .int f2, .int f3]))
  have hl2 : b_L 10 (b_nu ν 9 h.length) [some (2, 365, 0), some (1, 4, 0), some (1, 5, 0), some (1, 6, 0), some (1, 7, 0), none] al := hl.ext b_nu_ext
  obtain ⟨al2, s1, s2⟩ := b_sto_ok (k := 5) (b := (3, 9, 0)) (bl' := kB.2.1.1) hl2 (v := .ref h.length) (Or.inr ⟨rfl, by decide, by rw [b_nu_n]⟩) rfl
  obtain ⟨r, r1, r2⟩ := k106 (a := h.length) (vs := [.int f0, .int f1, .int f2, .int f3]) (g2.wk (by decide)) (by rw [b_nu_n]) c_atE rfl (fun v hv => by
    simp only [List.mem_cons, List.not_mem_nil, or_false] at hv
    rcases hv with rfl | rfl | rfl | rfl
    · exact ⟨f0, rfl, by omega, by omega⟩
    · exact ⟨f1, rfl, by omega, by omega⟩
    · exact ⟨f2, rfl, by omega, by omega⟩
    · exact ⟨f3, rfl, by omega, by omega⟩) al2 [] s2 b_S.nil
  exact ⟨r, kM a0 a1 a2 a3 s1 r1, (r2.cut (W := []) b_frm.app (fun w hw => by cases hw)).ext (N := 10) ⟨by decide, fun n hn => if_neg (by have hn : n < 4 := hn; omega)⟩⟩
/-- JuryreelModel.key(IIII)I -/
theorem c_v199 : b_valid c_K c_r199 := b_gd.valid (d := 2) rfl (by decide +kernel) fun ν h g => by
  refine b_gd.sg (S := kA) c_hJ kO kAC rfl (by decide) (by decide) g (b_al.c ?_ (b_al.c ?_ b_al.n))
  · intro ν3 h3 x3 g3
    exact b_pq.int (lo := 0) (hi := 60) (by decide) g3
  · intro ν1 h1 x1 g1
    exact b_pq.to rfl (k84 (g1.wk (by decide)))
theorem sO : b_cal c_K (b_lim 2) (b_orc c_K [] 3000 2) := b_orc_ok c_hJ (fun _ h => absurd h List.not_mem_nil) 3000 2
def sA : BSg := ((249, 0), ([some (2, 365, 0), some (1, 0, 0), some (1, 1, 0), some (1, 2, 0), some (1, 3, 0), some (1, 4, 0), none, none, none], [], ([(0, (-2147483648), 2147483647), (0, (-2147483648), 2147483647), (0, (-2147483648), 2147483647), (0, (-2147483648), 2147483647), (0, (-2147483648), 2147483647)], [], [])), [(50, 55)], [
  (.inl (.inl (some (0, 0, 0))), ([], [], []), (0, 0)),
  (.inr (205, [some (2, 365, 0), some (1, 5, 0), some (1, 6, 0), some (1, 7, 0), some (1, 8, 0), some (1, 9, 0), none, none, none], []), ([(0, 0, 19), (0, 0, 9), (0, 0, 99), (0, 0, 99), (0, 0, 9), (0, 0, 39)], [((2, 365, 0), (0, 0, 52), (1, 10, 0))], []), (0, 0))])
def sAT : List BCu := [(93, [some (2, 365, 0), some (1, 5, 0), some (1, 6, 0), some (1, 7, 0), some (1, 8, 0), some (1, 9, 0), none, some (1, 10, 0), some (1, 11, 0)], ([(0, (-2147483648), 2147483647), (0, (-2147483648), 2147483647), (0, (-2147483648), 2147483647), (0, (-2147483648), 2147483647), (0, (-2147483648), 2147483647), (0, 0, 19), (0, 0, 9), (0, 0, 99), (0, 0, 99), (0, 0, 9), (0, 0, 1), (0, 0, 40)], [], []), ([(11, (-1))], 50), none)]
theorem sAC : b_rgc c_K (b_orc c_K [] 3000 2) sA sAT [205] 3000 = true := by decide +kernel
def sB : BSg := ((249, 232), ([some (2, 365, 0), some (1, 5, 0), some (1, 6, 0), some (1, 7, 0), some (1, 8, 0), some (1, 9, 0), none, none, some (3, 11, 0)], [], ([(0, (-2147483648), 2147483647), (0, (-2147483648), 2147483647), (0, (-2147483648), 2147483647), (0, (-2147483648), 2147483647), (0, (-2147483648), 2147483647), (0, 0, 19), (0, 0, 9), (0, 0, 99), (0, 0, 99), (0, 0, 9), (0, 0, 39), (1, 1, 0)], [((2, 365, 0), (0, 0, 52), (1, 10, 0))], [])), [], [
  (.inr (246, [some (2, 365, 0), some (1, 5, 0), some (1, 6, 0), some (1, 7, 0), some (1, 8, 0), some (1, 9, 0), none, none, none], [(0, 0, 5), (0, 0, 0), (3, 12, 0), (0, 0, 0), (3, 11, 0)]), ([(106, 0, 0)], [((2, 365, 0), (0, 0, 52), (1, 10, 0))], []), (0, 0))])
theorem sBC : b_sgc c_K (b_orc c_K [] 3000 2) sB [246] 3000 = true := by decide +kernel
def sC : BSg := ((249, 249), ([some (2, 365, 0), some (1, 5, 0), some (1, 6, 0), some (1, 7, 0), some (1, 8, 0), some (1, 9, 0), none, none, none], [], ([(0, (-2147483648), 2147483647), (0, (-2147483648), 2147483647), (0, (-2147483648), 2147483647), (0, (-2147483648), 2147483647), (0, (-2147483648), 2147483647), (0, 0, 19), (0, 0, 9), (0, 0, 99), (0, 0, 99), (0, 0, 9), (0, 0, 39), (1, 1, 0), (106, 0, 0)], [((2, 365, 0), (0, 0, 52), (1, 10, 0))], [])), [(50, 52), (50, 53), (106, 0), (107, 0)], [
  (.inl (.inl (some (1, 13, 0))), ([(0, 0, 40)], [], []), (0, 0))])
theorem sCC : b_sgc c_K (b_orc c_K [] 3000 2) sC [] 3000 = true := by decide +kernel
theorem sI205 : a_ins 249 205 = some (.iconst 5, 1) := by decide +kernel
theorem sI206 : a_ins 249 206 = some (.newarray .int, 2) := by decide +kernel
theorem sI208 : a_ins 249 208 = some (.dup, 1) := by decide +kernel
theorem sI209 : a_ins 249 209 = some (.iconst 0, 1) := by decide +kernel
theorem sI210 : a_ins 249 210 = some (.iload_n 1, 1) := by decide +kernel
theorem sI211 : a_ins 249 211 = some (.iastore, 1) := by decide +kernel
theorem sI212 : a_ins 249 212 = some (.dup, 1) := by decide +kernel
theorem sI213 : a_ins 249 213 = some (.iconst 1, 1) := by decide +kernel
theorem sI214 : a_ins 249 214 = some (.iload_n 2, 1) := by decide +kernel
theorem sI215 : a_ins 249 215 = some (.iastore, 1) := by decide +kernel
theorem sI216 : a_ins 249 216 = some (.dup, 1) := by decide +kernel
theorem sI217 : a_ins 249 217 = some (.iconst 2, 1) := by decide +kernel
theorem sI218 : a_ins 249 218 = some (.iload_n 3, 1) := by decide +kernel
theorem sI219 : a_ins 249 219 = some (.iastore, 1) := by decide +kernel
theorem sI220 : a_ins 249 220 = some (.dup, 1) := by decide +kernel
theorem sI221 : a_ins 249 221 = some (.iconst 3, 1) := by decide +kernel
theorem sI222 : a_ins 249 222 = some (.iload 4, 2) := by decide +kernel
theorem sI224 : a_ins 249 224 = some (.iastore, 1) := by decide +kernel
theorem sI225 : a_ins 249 225 = some (.dup, 1) := by decide +kernel
theorem sI226 : a_ins 249 226 = some (.iconst 4, 1) := by decide +kernel
theorem sI227 : a_ins 249 227 = some (.iload 5, 2) := by decide +kernel
theorem sI229 : a_ins 249 229 = some (.iastore, 1) := by decide +kernel
theorem sI230 : a_ins 249 230 = some (.astore 8, 2) := by decide +kernel
theorem sN {pc : Nat} {own : Nat} {ini : Bool} {al : AL} {st : List Value} {h : AH} : a_stp own ini (.newarray .int) 2 pc al (.int (Int32.ofInt 5) :: st) h = some (pc + 2, al, .ref h.length :: st, h ++ [(20, [.int 0, .int 0, .int 0, .int 0, .int 0])], 1, 5) := by
  have e : a_row .int 5 = (20, [.int 0, .int 0, .int 0, .int 0, .int 0]) := by decide +kernel
  rw [← e]
  exact a_by5 rfl rfl
theorem sM {d mc ms : Nat} {al al2 : AL} {h : AH} {f0 f1 f2 f3 f4 : Int32} {r : AR} (g0 : a_get al 1 = some (.int f0)) (g1 : a_get al 2 = some (.int f1)) (g2 : a_get al 3 = some (.int f2)) (g3 : a_get al 4 = some (.int f3)) (g4 : a_get al 5 = some (.int f4)) (ha : a_sto al 8 (.ref h.length) = some al2) (hr : b_R d 249 232 al2 [] (h ++ [(20, [.int f0, .int f1, .int f2, .int f3, .int f4])]) (mc + 1) (ms + 5) r) : b_R d 249 205 al [] h mc ms r := by
  refine b_R.stp sI205 rfl rfl rfl (a_by1 rfl rfl) ?_
  refine b_R.stp sI206 rfl rfl rfl sN ?_
  refine c_fill (k := 1) (m := 0) (x := f0) sI208 sI209 sI210 sI211 ⟨rfl, rfl, rfl, rfl, fun _ => rfl, fun _ q => by cases q⟩ (ln := 5) rfl (by decide) g0 ?_
  refine c_fill (k := 2) (m := 1) (x := f1) sI212 sI213 sI214 sI215 ⟨rfl, rfl, rfl, rfl, fun _ => rfl, fun _ q => by cases q⟩ (ln := 5) rfl (by decide) g1 ?_
  refine c_fill (k := 3) (m := 2) (x := f2) sI216 sI217 sI218 sI219 ⟨rfl, rfl, rfl, rfl, fun _ => rfl, fun _ q => by cases q⟩ (ln := 5) rfl (by decide) g2 ?_
  refine c_fill (k := 4) (m := 3) (x := f3) sI220 sI221 sI222 sI224 ⟨rfl, rfl, rfl, rfl, fun _ => rfl, fun _ q => by cases q⟩ (ln := 5) rfl (by decide) g3 ?_
  refine c_fill (k := 5) (m := 4) (x := f4) sI225 sI226 sI227 sI229 ⟨rfl, rfl, rfl, rfl, fun _ => rfl, fun _ q => by cases q⟩ (ln := 5) rfl (by decide) g4 ?_
  refine b_R.stp sI230 rfl rfl rfl (a_by1 rfl (by show (a_sto al 8 (.ref h.length)).map _ = _; rw [ha]; rfl)) ?_
  exact hr
theorem s106 {ν : BN} {h : AH} {a : Nat} {vs : List Value} (g : b_G c_K ν h h (sB.2.1.2.2.1, sB.2.1.2.2.2.1, [], [], [])) (ha : (a : Int) = ν 11) (h1 : h[a]? = some (20, vs)) (h2 : vs.length = 5) (h3 : ∀ v ∈ vs, ∃ x : Int32, v = .int x ∧ 0 ≤ x.toInt ∧ x.toInt ≤ 99) : b_gd c_K c_r249 2 232 sB.2.1.1 [] sB.2.1.2.2.1.length ν h 1 5 := by
  refine b_gd.sg c_hJ sO sBC rfl (by decide) (by decide) g (b_al.c ?_ b_al.n)
  intro ν1 h1' x1 g1
  refine b_pq.to rfl ?_
  have f1 := g1.2.2.2.2.2
  have t1 : h1'[a]? = some (20, vs) := by
    obtain ⟨us, u1, u2, u3⟩ := f1 a _ h1
    rw [u1, show us = vs from List.ext_getElem? fun j => u3 j (fun w hw => by cases hw)]
  have n1 : ν1 11 = ν 11 := x1.2 11 (by decide)
  refine b_gd.acp c_hJ (gg := 105) (lo := 0) (hi := 99) (n := 5) (by decide +kernel) (by decide +kernel) (by decide +kernel) (by rfl) (by decide) (by decide) rfl (fun aa haa => ⟨vs, ?_, h2, h3⟩) rfl (by decide) g1.here (fun b us g2 => ?_) rfl
  · have e : aa = a := by have := haa.v; omega
    rw [e]; exact t1
  · refine b_gd.sg (S := sC) c_hJ sO sCC rfl (by decide) (by decide) (g2.wk (by decide +kernel)) (b_al.c ?_ b_al.n)
    intro ν3 h3' x3 g4
    exact b_pq.int (lo := 0) (hi := 40) (by decide) g4
theorem s84 {ν : BN} {h : AH} (g : b_G c_K ν h h ([(0, (-2147483648), 2147483647), (0, (-2147483648), 2147483647), (0, (-2147483648), 2147483647), (0, (-2147483648), 2147483647), (0, (-2147483648), 2147483647), (0, 0, 19), (0, 0, 9), (0, 0, 99), (0, 0, 99), (0, 0, 9), (0, 0, 39)], [((2, 365, 0), (0, 0, 52), (1, 10, 0))], [], [], [])) : b_gd c_K c_r249 2 205 [some (2, 365, 0), some (1, 5, 0), some (1, 6, 0), some (1, 7, 0), some (1, 8, 0), some (1, 9, 0), none, none, none] [] 11 ν h 0 0 := by
  intro al st hl hs
  obtain rfl := hs.inv0
  obtain ⟨v0, a0, b0⟩ := hl.2 1 (1, 5, 0) rfl
  obtain ⟨f0, rfl, e0⟩ := b0.int (by show 1 < 2; decide)
  have i0 := g.iv 5 (lo := 0) (hi := 19) rfl
  have w0 := e0.v
  obtain ⟨v1, a1, b1⟩ := hl.2 2 (1, 6, 0) rfl
  obtain ⟨f1, rfl, e1⟩ := b1.int (by show 1 < 2; decide)
  have i1 := g.iv 6 (lo := 0) (hi := 9) rfl
  have w1 := e1.v
  obtain ⟨v2, a2, b2⟩ := hl.2 3 (1, 7, 0) rfl
  obtain ⟨f2, rfl, e2⟩ := b2.int (by show 1 < 2; decide)
  have i2 := g.iv 7 (lo := 0) (hi := 99) rfl
  have w2 := e2.v
  obtain ⟨v3, a3, b3⟩ := hl.2 4 (1, 8, 0) rfl
  obtain ⟨f3, rfl, e3⟩ := b3.int (by show 1 < 2; decide)
  have i3 := g.iv 8 (lo := 0) (hi := 99) rfl
  have w3 := e3.v
  obtain ⟨v4, a4, b4⟩ := hl.2 5 (1, 9, 0) rfl
  obtain ⟨f4, rfl, e4⟩ := b4.int (by show 1 < 2; decide)
  have i4 := g.iv 9 (lo := 0) (hi := 9) rfl
  have w4 := e4.v
  have g1 := g.ad (ν' := b_nu ν 11 h.length) (E' := [(1, 1, 0)]) (F' := []) (C' := []) (fun n hn => if_neg (Nat.ne_of_lt hn)) ⟨by show b_q _ _ (b_nu ν 11 h.length 11); rw [b_nu_n]; exact b_q.r0, trivial⟩ trivial trivial
  have g2 := g1.app c_hJ (c := (20, [.int f0, .int f1, .int f2, .int f3, .int f4]))
  have hl2 : b_L 12 (b_nu ν 11 h.length) [some (2, 365, 0), some (1, 5, 0), some (1, 6, 0), some (1, 7, 0), some (1, 8, 0), some (1, 9, 0), none, none, none] al := hl.ext b_nu_ext
  obtain ⟨al2, s1, s2⟩ := b_sto_ok (k := 8) (b := (3, 11, 0)) (bl' := sB.2.1.1) hl2 (v := .ref h.length) (Or.inr ⟨rfl, by decide, by rw [b_nu_n]⟩) rfl
  obtain ⟨r, r1, r2⟩ := s106 (a := h.length) (vs := [.int f0, .int f1, .int f2, .int f3, .int f4]) (g2.wk (by decide)) (by rw [b_nu_n]) c_atE rfl (fun v hv => by
    simp only [List.mem_cons, List.not_mem_nil, or_false] at hv
    rcases hv with rfl | rfl | rfl | rfl | rfl
    · exact ⟨f0, rfl, by omega, by omega⟩
    · exact ⟨f1, rfl, by omega, by omega⟩
    · exact ⟨f2, rfl, by omega, by omega⟩
    · exact ⟨f3, rfl, by omega, by omega⟩
    · exact ⟨f4, rfl, by omega, by omega⟩) al2 [] s2 b_S.nil
  exact ⟨r, sM a0 a1 a2 a3 a4 s1 r1, (r2.cut (W := []) b_frm.app (fun w hw => by cases hw)).ext (N := 12) ⟨by decide, fun n hn => if_neg (by have hn : n < 5 := hn; omega)⟩⟩
/-- JuryreelModel.sell(IIIII)I -/
theorem c_v249 : b_valid c_K c_r249 := b_gd.valid (d := 2) rfl (by decide +kernel) fun ν h g => by
  refine b_gd.rg (S := sA) c_hJ sO sAC rfl (by decide) (by decide) g (b_al.c ?_ (b_al.c ?_ b_al.n))
  · intro ν3 h3 x3 g3
    exact b_pq.int (lo := 0) (hi := 40) (by decide) g3
  · intro ν1 h1 x1 g1
    exact b_pq.to rfl (s84 (g1.wk (by decide)))
