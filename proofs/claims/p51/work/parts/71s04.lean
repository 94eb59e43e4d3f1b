/-! Values by symbols; moves -/
def z_val (ν : List Int) (b : ZV) (w : Value) : Prop := b.2.1.1 ≤ ν.length ∧ b.2.2.1 ≤ ν.length ∧ match b.1 with
  | 0 => e_v w = o_v ν b.2.1
  | 1 => e_v w = o_v ν b.2.1
  | f + 2 => ∃ a, w = .ref a ∧ z_ad f (o_v ν b.2.1) (o_v ν b.2.2) = some a
def z_stk (ν : List Int) : List ZV → List Value → Prop
  | [], [] => True
  | b :: bs, w :: ws => z_val ν b w ∧ z_stk ν bs ws
  | _, _ => False
abbrev ZL : Type := List (Option ZV)
def z_loc (ν : List Int) (bl : ZL) (al : AL) : Prop := bl.length = al.length ∧ ∀ i b, bl[i]? = some (some b) → ∃ w, a_get al i = some w ∧ z_val ν b w ∧ (b.1 ≠ 1 → w.category ≠ 2)
theorem o_app {ν : List Int} {x : ZN} (h : x.1 ≤ ν.length) (z : Int) : o_v (ν ++ [z]) x = o_v ν x := by
  unfold o_v
  split
  · rfl
  · rename_i n e
    rw [List.getD_eq_getElem?_getD, List.getD_eq_getElem?_getD, List.getElem?_append_left (by omega)]
theorem o_new {ν : List Int} {z c : Int} : o_v (ν ++ [z]) (ν.length + 1, c) = z := by
  show (ν ++ [z]).getD ν.length 0 = z
  rw [List.getD_eq_getElem?_getD, List.getElem?_append_right (Nat.le_refl _), Nat.sub_self]
  rfl
theorem z_val.app {ν : List Int} {b : ZV} {w : Value} (h : z_val ν b w) (z : Int) : z_val (ν ++ [z]) b w := by
  obtain ⟨h1, h2, h3⟩ := h
  refine ⟨by rw [List.length_append]; omega, by rw [List.length_append]; omega, ?_⟩
  rw [o_app h1, o_app h2]
  exact h3
theorem z_stk.app {ν : List Int} (z : Int) : ∀ {bs : List ZV} {ws : List Value}, z_stk ν bs ws → z_stk (ν ++ [z]) bs ws
  | [], [], _ => trivial
  | b :: bs, w :: ws, h => ⟨h.1.app z, z_stk.app z h.2⟩
  | [], _ :: _, h => h.elim
  | _ :: _, [], h => h.elim
theorem z_loc.app {ν : List Int} {bl : ZL} {al : AL} (h : z_loc ν bl al) (z : Int) : z_loc (ν ++ [z]) bl al := ⟨h.1, fun i b hb => by
  obtain ⟨w, h1, h2, h3⟩ := h.2 i b hb
  exact ⟨w, h1, h2.app z, h3⟩⟩
theorem z_num {ν : List Int} {b : ZV} {w : Value} (h : z_val ν b w) (hk : b.1 < 2) : e_v w = o_v ν b.2.1 := by
  have h3 := h.2.2
  split at h3
  · exact h3
  · exact h3
  · rename_i f e
    omega
theorem z_ref {ν : List Int} {b : ZV} {w : Value} {f : Nat} (h : z_val ν b w) (hk : b.1 = f + 2) : ∃ a, w = .ref a ∧ z_ad f (o_v ν b.2.1) (o_v ν b.2.2) = some a := by
  have h3 := h.2.2
  split at h3
  · omega
  · omega
  · rename_i f' e
    have : f' = f := by omega
    subst this
    exact h3
theorem z_val.n {ν : List Int} {w : Value} {k : Nat} {x y : ZN} (hk : k < 2) (hx : x.1 ≤ ν.length) (hy : y.1 ≤ ν.length) (h : e_v w = o_v ν x) : z_val ν (k, x, y) w := by
  refine ⟨hx, hy, ?_⟩
  match k, hk with
  | 0, _ => exact h
  | 1, _ => exact h
theorem z_val.new {ν : List Int} {w : Value} {z : Int} (h : e_v w = z) : z_val (ν ++ [z]) (0, (ν.length + 1, 0), (0, 0)) w := by
  refine ⟨by show ν.length + 1 ≤ (ν ++ [z]).length; rw [List.length_append]; exact Nat.le_refl _, Nat.zero_le _, ?_⟩
  show e_v w = o_v _ (ν.length + 1, 0)
  rw [o_new]
  exact h
theorem z_stk.c {ν : List Int} {b : ZV} {bs : List ZV} {st : List Value} (h : z_stk ν (b :: bs) st) : ∃ w ws, st = w :: ws ∧ z_val ν b w ∧ z_stk ν bs ws := by
  cases st with
  | nil => exact h.elim
  | cons w ws => exact ⟨w, ws, rfl, h.1, h.2⟩
theorem z_stk.n {ν : List Int} {st : List Value} (h : z_stk ν [] st) : st = [] := by
  cases st with
  | nil => rfl
  | cons w ws => exact h.elim
theorem z_stk.len {ν : List Int} : ∀ {bs : List ZV} {ws : List Value}, z_stk ν bs ws → bs.length = ws.length
  | [], [], _ => rfl
  | b :: bs, w :: ws, h => by rw [List.length_cons, List.length_cons, z_stk.len h.2]
  | [], _ :: _, h => h.elim
  | _ :: _, [], h => h.elim
theorem z_stk.take {ν : List Int} : ∀ (n : Nat) {bs : List ZV} {ws : List Value}, z_stk ν bs ws → z_stk ν (bs.take n) (ws.take n) ∧ z_stk ν (bs.drop n) (ws.drop n)
  | 0, bs, ws, h => ⟨trivial, h⟩
  | n + 1, [], [], _ => ⟨trivial, trivial⟩
  | n + 1, b :: bs, w :: ws, h => ⟨⟨h.1, (z_stk.take n h.2).1⟩, (z_stk.take n h.2).2⟩
  | n + 1, [], _ :: _, h => h.elim
  | n + 1, _ :: _, [], h => h.elim
theorem z_stk.cat {ν : List Int} : ∀ {bs bs' : List ZV} {ws ws' : List Value}, z_stk ν bs ws → z_stk ν bs' ws' → z_stk ν (bs ++ bs') (ws ++ ws')
  | [], _, [], _, _, h' => h'
  | b :: bs, _, w :: ws, _, h, h' => ⟨h.1, z_stk.cat h.2 h'⟩
  | [], _, _ :: _, _, h, _ => h.elim
  | _ :: _, _, [], _, h, _ => h.elim
theorem z_stk.rev {ν : List Int} : ∀ {bs : List ZV} {ws : List Value}, z_stk ν bs ws → z_stk ν bs.reverse ws.reverse
  | [], [], _ => trivial
  | b :: bs, w :: ws, h => by
    rw [List.reverse_cons, List.reverse_cons]
    exact (z_stk.rev h.2).cat ⟨h.1, trivial⟩
  | [], _ :: _, h => h.elim
  | _ :: _, [], h => h.elim
/-! Locals -/
def z_kill (bl : ZL) (k : Nat) : ZL := match k with
  | 0 => bl
  | j + 1 => match bl[j]? with
    | some (some b) => if b.1 = 1 then bl.set j none else bl
    | _ => bl
def z_sto (kd : Nat) (bl : ZL) (k : Nat) (v : ZV) : Option ZL :=
  if kd = 1 ∨ kd = 3 then (if v.1 < 2 ∧ k + 1 < bl.length then some (((z_kill bl k).set k (some (1, v.2))).set (k + 1) none) else none)
  else if k < bl.length then some ((z_kill bl k).set k (some (if v.1 = 1 then (0, v.2) else v))) else none
theorem z_get_set {al : AL} {k i : Nat} {o : Option Value} : a_get (al.set k o) i = if i = k ∧ k < al.length then o else a_get al i := by
  unfold a_get
  by_cases e : i = k
  · subst e
    by_cases c : i < al.length
    · rw [if_pos ⟨rfl, c⟩, List.getElem?_set_self c]
      rfl
    · rw [if_neg (fun q => c q.2), List.set_eq_of_length_le (by omega)]
  · rw [if_neg (fun q => e q.1), List.getElem?_set_ne (Ne.symm e)]
theorem z_kill_len {bl : ZL} {k : Nat} : (z_kill bl k).length = bl.length := by
  unfold z_kill
  split
  · rfl
  · split
    · split
      · exact List.length_set
      · rfl
    · rfl
theorem z_akill_len {al : AL} {k : Nat} : (a_kill al k).length = al.length := by
  unfold a_kill
  split
  · rfl
  · split
    · exact List.length_set
    · rfl
theorem z_loc.kill {ν : List Int} {bl : ZL} {al : AL} (h : z_loc ν bl al) (k : Nat) : z_loc ν (z_kill bl k) (a_kill al k) := by
  refine ⟨by rw [z_kill_len, z_akill_len]; exact h.1, fun i b hb => ?_⟩
  cases k with
  | zero => exact h.2 i b hb
  | succ j =>
    have key : i ≠ j → bl[i]? = some (some b) → ∃ w, a_get (a_kill al (j + 1)) i = some w ∧ z_val ν b w ∧ (b.1 ≠ 1 → w.category ≠ 2) := fun e hb => by
      obtain ⟨w, h1, h2, h3⟩ := h.2 i b hb
      refine ⟨w, ?_, h2, h3⟩
      unfold a_kill
      dsimp only
      split
      · rw [z_get_set, if_neg (fun q => e q.1)]
        exact h1
      · exact h1
    have same : bl[i]? = some (some b) → b.1 ≠ 1 → ∃ w, a_get (a_kill al (j + 1)) i = some w ∧ z_val ν b w ∧ (b.1 ≠ 1 → w.category ≠ 2) := fun hb2 hk => by
      by_cases e : i = j
      · subst e
        obtain ⟨w, h1, h2, h3⟩ := h.2 i b hb2
        refine ⟨w, ?_, h2, h3⟩
        unfold a_kill
        dsimp only
        rw [if_neg (by rw [h1]; simp; exact h3 hk)]
        exact h1
      · exact key e hb2
    unfold z_kill at hb
    dsimp only at hb
    split at hb
    · rename_i b' hb'
      split at hb
      · rename_i e1
        by_cases e : i = j
        · subst e
          rw [List.getElem?_set_self (List.getElem?_eq_some_iff.mp hb').1] at hb
          cases hb
        · rw [List.getElem?_set_ne (Ne.symm e)] at hb
          exact key e hb
      · rename_i e1
        by_cases e : i = j
        · subst e
          rw [hb'] at hb
          cases hb
          exact same hb' e1
        · exact key e hb
    · rename_i hno
      by_cases e : i = j
      · subst e
        exact absurd hb (hno b)
      · exact key e hb
theorem z_loc.set {ν : List Int} {bl : ZL} {al : AL} (h : z_loc ν bl al) {k : Nat} {b : ZV} {w : Value} (hk : k < bl.length) (hv : z_val ν b w) (hc : b.1 ≠ 1 → w.category ≠ 2) : z_loc ν (bl.set k (some b)) (al.set k (some w)) := by
  refine ⟨by rw [List.length_set, List.length_set]; exact h.1, fun i b' hb => ?_⟩
  rw [z_get_set]
  by_cases e : i = k
  · subst e
    rw [List.getElem?_set_self hk] at hb
    cases hb
    rw [if_pos ⟨rfl, by rw [← h.1]; exact hk⟩]
    exact ⟨w, rfl, hv, hc⟩
  · rw [if_neg (fun q => e q.1)]
    rw [List.getElem?_set_ne (Ne.symm e)] at hb
    exact h.2 i b' hb
theorem z_loc.setN {ν : List Int} {bl : ZL} {al : AL} (h : z_loc ν bl al) (k : Nat) : z_loc ν (bl.set k none) (al.set k none) := by
  refine ⟨by rw [List.length_set, List.length_set]; exact h.1, fun i b' hb => ?_⟩
  by_cases e : i = k
  · subst e
    rcases Nat.lt_or_ge i bl.length with q | q
    · rw [List.getElem?_set_self q] at hb
      cases hb
    · rw [List.getElem?_eq_none (by rw [List.length_set]; exact q)] at hb
      cases hb
  · rw [List.getElem?_set_ne (Ne.symm e)] at hb
    rw [z_get_set, if_neg (fun q => e q.1)]
    exact h.2 i b' hb
theorem z_sto_ok {ν : List Int} {bl bl' : ZL} {al al' : AL} {kd k : Nat} {b : ZV} {w : Value} (h : z_loc ν bl al) (hs : z_sto kd bl k b = some bl') (hv : z_val ν b w) (hk : a_kind w = kd) (ha : a_sto al k w = some al') : z_loc ν bl' al' := by
  unfold z_sto at hs
  split at hs
  · rename_i e
    have hc : w.category = 2 := by cases w <;> simp [a_kind] at hk <;> first | rfl | omega
    split at hs
    · rename_i hq
      cases hs
      unfold a_sto at ha
      rw [if_pos hc] at ha
      split at ha
      · cases ha
        unfold a_set2
        have h1 := (h.kill k).set (k := k) (b := (1, b.2)) (w := w) (by rw [z_kill_len]; omega) (z_val.n (by decide) hv.1 hv.2.1 (z_num hv hq.1)) (fun q => absurd rfl q)
        exact h1.setN (k + 1)
      · cases ha
    · cases hs
  · rename_i e
    have hc : w.category ≠ 2 := by cases w <;> simp [a_kind] at hk <;> first | (show (1 : Nat) ≠ 2; decide) | omega
    split at hs
    · rename_i hq
      cases hs
      unfold a_sto at ha
      rw [if_neg hc] at ha
      split at ha
      · cases ha
        unfold a_set1
        refine (h.kill k).set (by rw [z_kill_len]; exact hq) ?_ (fun _ => hc)
        split
        · rename_i e1
          exact z_val.n (by decide) hv.1 hv.2.1 (z_num hv (by omega))
        · exact hv
      · cases ha
    · cases hs
/-! Moves -/
def z_isA (f : Nat) : Bool := match z_tab[f]? with
  | some row => row.2.1 != 0
  | none => false
def z_mv (own : Nat) (i : Instr) (pc : Nat) (bl : ZL) (bs : List ZV) : Option (Nat × ZL × List ZV) := match i, bs with
  | .goto off, bs => (a_tgt pc off).map fun t => (t, bl, bs)
  | .dup, v :: bs => some (pc + 1, bl, v :: v :: bs)
  | .dup2, v :: u :: bs => some (pc + 1, bl, v :: u :: v :: u :: bs)
  | .pop, _ :: bs => some (pc + 1, bl, bs)
  | .pop2, _ :: bs => some (pc + 1, bl, bs)
  | .i2l, v :: bs => if v.1 < 2 then some (pc + 1, bl, (0, v.2) :: bs) else none
  | .ldc idx, bs => ((a_of a_cst own).find? (fun e => e.1 == idx)).map fun e => (pc + 2, bl, (0, (0, e.2.1.toInt), (0, 0)) :: bs)
  | .ldc_w idx, bs => ((a_of a_cst own).find? (fun e => e.1 == idx)).map fun e => (pc + 3, bl, (0, (0, e.2.1.toInt), (0, 0)) :: bs)
  | .ldc2_w idx, bs => ((a_of a_csl own).find? (fun e => e.1 == idx)).map fun e => (pc + 3, bl, (0, (0, e.2.1.toInt), (0, 0)) :: bs)
  | .getfield idx, b :: bs => match a_field own idx with
    | some (_, k) => if 2 ≤ b.1 then (z_po (b.1 - 2) k).map fun g => (pc + 3, bl, (g + 2, b.2) :: bs) else none
    | none => none
  | .aaload, e :: b :: bs => if 2 ≤ b.1 ∧ e.1 < 2 then (z_pa (b.1 - 2)).map fun q => (pc + 1, bl, (if q.2 = 1 then (q.1 + 2, e.2.1, b.2.2) else (q.1 + 2, b.2.1, e.2.1)) :: bs) else none
  | i, bs => match a_const i with
    | some v => some (pc + a_len i, bl, (0, (0, e_v v), (0, 0)) :: bs)
    | none => match a_load i with
      | some (k, _) => (match bl[k]? with
        | some (some b) => some (pc + a_len i, bl, b :: bs)
        | _ => none)
      | none => match a_store i, bs with
        | some (k, kd), v :: bs => (z_sto kd bl k v).map fun bl' => (pc + a_len i, bl', bs)
        | _, _ => none
