/-! The law's loop: turn by turn (wip/g3/71.turn.txt) -/
def c_eqF : BF → BF → Bool
  | [], [] => true
  | f :: l, g :: m => (decide (f.1 = g.1) && (decide (f.2.1 = g.2.1) && decide (f.2.2 = g.2.2))) && c_eqF l m
  | _, _ => false
theorem c_eqF_ok : ∀ {a b : BF}, c_eqF a b = true → a = b
  | [], [], _ => rfl
  | f :: l, g :: m, h => by
    rw [c_eqF, Bool.and_eq_true, Bool.and_eq_true, Bool.and_eq_true, decide_eq_true_eq, decide_eq_true_eq, decide_eq_true_eq] at h
    obtain ⟨⟨h1, h2, h3⟩, h4⟩ := h
    rw [c_eqF_ok h4]
    obtain ⟨x, y, z⟩ := f
    obtain ⟨x', y', z'⟩ := g
    have h1 : x = x' := h1
    have h2 : y = y' := h2
    have h3 : z = z' := h3
    rw [h1, h2, h3]
  | [], _ :: _, h => by cases h
  | _ :: _, [], h => by cases h
def c_goal (pc : Nat) : Prop := ∀ (ν : BN) (al : AL) (h : AH) (mc ms : Nat), b_L c_E28.length ν c_bl28 al → b_G c_K ν h h (c_E28, c_F28, [(0, 1, -6)], [], []) → c_Rel h → c_res pc ν al h mc ms c_Rel
theorem b_al_of {P : BSo → Prop} : ∀ {l : List BSo}, (∀ p ∈ l, P p) → b_al P l
  | [], _ => trivial
  | q :: l, h => ⟨h q List.mem_cons_self, b_al_of fun p hp => h p (List.mem_cons_of_mem _ hp)⟩
/-- a stretch that writes none of the relation's places -/
def c_gen (S : BSg) : Bool := decide (S.2.1.2.2.1 = c_E28) && (c_eqF S.2.1.2.2.2.1 c_F28 && ((S.2.1.2.2.2.2.all fun c => decide (c = (0, 1, -6)) || decide (c = (0, 0, 1))) && c_relW.all fun w => !(S.2.2.1.contains w)))
theorem c_goal_gen {S : BSg} {F : Nat} {cB : BK} (hc : b_cal c_K (b_lim 12) cB) (hk : b_sgc c_K cB S [28] F = true) (hs : c_shp S = true) (hg : c_gen S = true) : c_goal S.1.2 := by
  intro ν al h mc ms hl g R
  unfold c_gen at hg
  simp only [Bool.and_eq_true, decide_eq_true_eq] at hg
  obtain ⟨g1, g2, g3, g4⟩ := hg
  refine c_sp hc hk hs hl (fun _ _ => rfl) (ν := ν) ?_ (b_al_of fun p hp ν' h' x g' => ?_)
  · rw [g1, c_eqF_ok g2]
    refine ⟨g.1, g.2.1, fun c hc => ?_, (fun o ho => by cases ho), g.2.2.2.2.1, b_frm.rf⟩
    have q := List.all_eq_true.mp g3 c hc
    simp only [Bool.or_eq_true, decide_eq_true_eq] at q
    rcases q with rfl | rfl
    · exact g.2.2.1 _ List.mem_cons_self
    · exact ⟨show 0 < c_E28.length by decide, show 0 < c_E28.length by decide, show ν 0 ≤ ν 0 + 1 by omega⟩
  · exact c_Rel_frm g.2.2.2.2.1 g'.2.2.2.2.2 (fun w hw => by
      have := List.all_eq_true.mp g4 w hw
      simpa using this) R
def c_lawB : Bool := c_law28.2.2.2.all fun p => (match p.1 with
  | .inl k => decide (k = .inl (some (0, 0, 1))) && decide (p.2.2 = (0, 0))
  | .inr z => decide (p.2.1.1 = []) && (c_eqF p.2.1.2.1 c_F28 && (decide (p.2.1.2.2 = [(0, 1, -6)]) && decide (p.2.2 = (0, 0)))) && ((decide (z.2.1 = c_bl28) && decide (z.2.2 = [])) && c_places.contains z.1))
theorem c_lawB_ok : c_lawB = true := by decide +kernel
theorem c_lawW : c_law28.2.2.1 = [] := by rfl
theorem c_turn (hv : ∀ pc ∈ c_places, c_goal pc) : ∀ (n : Nat) (ν : BN) (al : AL) (h : AH) (mc ms : Nat), (ν 1 - ν 0 + 6).toNat < n → b_L c_E28.length ν c_bl28 al → b_G c_K ν h h (c_E28, c_F28, [], [], []) → c_Rel h → ∃ r, b_R 12 301 28 al [] h mc ms r ∧ r.1 = .inl (some (.int 1)) ∧ r.2.2.1 ≤ mc + 2 * n ∧ r.2.2.2 ≤ ms + 66 * n
  | 0, ν, al, h, mc, ms, hn, _, _, _ => absurd hn (Nat.not_lt_zero _)
  | n + 1, ν, al, h, mc, ms, hn, hl, g, R => by
    have hB := c_lawB_ok
    unfold c_lawB at hB
    obtain ⟨p, p1, ν1, h1, x1, g1, q1⟩ := b_sgc_ok (S := c_law28) (mc := mc) (ms := ms) c_hJ (b_orc_ok c_hJ (tab := []) (fun _ h => absurd h List.not_mem_nil) 3000 12) c_law28C hl b_S.nil g
    have k1 := List.all_eq_true.mp hB p p1
    unfold b_sgq at q1
    cases hp : p.1 with
    | inl k =>
      rw [hp] at k1 q1
      dsimp only at k1 q1
      rw [Bool.and_eq_true, decide_eq_true_eq, decide_eq_true_eq] at k1
      obtain ⟨r, r1, r2, r3, r4⟩ := q1
      rw [k1.1] at r2
      rw [k1.2] at r4
      refine ⟨r, r1, ?_, by rw [r4]; show mc + 0 ≤ _; omega, by rw [r4]; show ms + 0 ≤ _; omega⟩
      cases hr : r.1 with
      | inr k' => rw [hr] at r2; exact r2.elim
      | inl v =>
        rw [hr] at r2
        cases v with
        | none => exact r2.elim
        | some v =>
          obtain ⟨x, rfl, hx⟩ := b_v.int (b := (0, 0, 1)) r2 (by decide)
          have hx1 := hx.c0 rfl
          have : x = 1 := Int32.toInt_inj.mp (hx1.trans (by decide))
          rw [this]
    | inr z =>
      obtain ⟨pc, blz, bsz⟩ := z
      rw [hp] at k1 q1
      dsimp only at k1 q1
      simp only [Bool.and_eq_true, decide_eq_true_eq] at k1
      obtain ⟨⟨a1, a2, a3, a4⟩, ⟨a5, a6⟩, a7⟩ := k1
      obtain ⟨al1, st1, d1, d2, d3⟩ := q1
      subst a5
      subst a6
      obtain rfl := d2.inv0
      have lE : (c_law28.2.1.2.2.1 ++ p.2.1.1).length = c_E28.length := by rw [a1, List.append_nil]; rfl
      rw [lE] at d1
      rw [a1, List.append_nil, c_eqF_ok a2, a3] at g1
      have fr := g1.2.2.2.2.2
      rw [c_lawW] at fr
      have R1 : c_Rel h1 := c_Rel_frm g.2.2.2.2.1 fr (fun w _ => List.not_mem_nil) R
      have g1' : b_G c_K ν1 h1 h1 (c_E28, c_F28, [(0, 1, -6)], [], []) := ⟨g1.1, g1.2.1, g1.2.2.1, (fun o ho => by cases ho), g1.2.2.2.2.1, b_frm.rf⟩
      obtain ⟨ν2, al2, h2, c, s, c2, c3, n0, n1, l2, gz, hit, R2⟩ := hv pc (by simpa using a7) ν1 al1 h1 mc ms d1 g1' R1
      have hC : ν1 0 ≤ ν1 1 + (-6) := g1'.co (by decide)
      have m0 : ν1 0 = ν 0 := x1.2 0 (by decide)
      have m1 : ν1 1 = ν 1 := x1.2 1 (by decide)
      obtain ⟨r, r1, r2, r3, r4⟩ := c_turn hv n ν2 al2 h2 (mc + c) (ms + s) (by rw [n0, n1]; omega) l2 gz R2
      have f1 := hit.R r1
      have cz : p.2.2 = (0, 0) := a4
      have d3' := d3 r (by rw [cz]; exact f1)
      exact ⟨r, d3', r2, by omega, by omega⟩
