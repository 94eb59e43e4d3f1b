/-! needs: n03. The law's run as a judgement: the first locals, the law's memory, what is known of the class -/
/-- the first locals of N -/
def n_L (N : Nat) (al : AL) (vl : List Value) : Prop := al.length = N ∧ (∀ v ∈ vl, v.category = 1) ∧ ∀ (q : Nat) (v : Value), vl[q]? = some v → al[q]? = some (some v)
def n_put (vl : List Value) (q : Nat) (v : Value) : List Value := if q < vl.length then vl.set q v else vl ++ [v]
abbrev n_p (a : Nat) : Value := .ref (z_N0 + a)
theorem n_L.get {N q : Nat} {al : AL} {vl : List Value} {v : Value} (h : n_L N al vl) (hv : vl[q]? = some v) : a_get al q = some v := by
  unfold a_get
  rw [h.2.2 q v hv]
  rfl
theorem n_L.kill {N q : Nat} {al : AL} {vl : List Value} (h : n_L N al vl) (hq : q ≤ vl.length) : a_kill al q = al := by
  cases q with
  | zero => rfl
  | succ j =>
    have hj : j < vl.length := by omega
    have e : a_get al j = some vl[j] := h.get (List.getElem?_eq_getElem hj)
    have hc : vl[j].category = 1 := h.2.1 _ (List.getElem_mem hj)
    unfold a_kill
    dsimp only
    rw [e]
    show (if (vl[j].category == 2) = true then _ else al) = al
    rw [hc]
    rfl
theorem n_put_mem {q : Nat} {vl : List Value} {v w : Value} (h : w ∈ n_put vl q v) : w ∈ vl ∨ w = v := by
  unfold n_put at h
  split at h
  · exact List.mem_or_eq_of_mem_set h
  · rcases List.mem_append.mp h with k | k
    · exact Or.inl k
    · exact Or.inr (List.mem_singleton.mp k)
theorem n_put_at {q p : Nat} {vl : List Value} {v w : Value} (hq : q ≤ vl.length) (h : (n_put vl q v)[p]? = some w) : (p = q ∧ w = v) ∨ (p ≠ q ∧ vl[p]? = some w) := by
  unfold n_put at h
  split at h
  · rename_i h1
    by_cases e : p = q
    · subst e
      rw [List.getElem?_set_self h1] at h
      exact Or.inl ⟨rfl, (Option.some.inj h).symm⟩
    · rw [List.getElem?_set_ne (Ne.symm e)] at h
      exact Or.inr ⟨e, h⟩
  · rename_i h1
    have e : q = vl.length := by omega
    subst e
    rcases Nat.lt_or_ge p vl.length with k | k
    · rw [List.getElem?_append_left k] at h
      exact Or.inr ⟨by omega, h⟩
    · rw [List.getElem?_append_right k] at h
      have k2 := (List.getElem?_eq_some_iff.mp h).1
      have k2 : p - vl.length < 1 := k2
      have k3 : p = vl.length := by omega
      subst k3
      rw [Nat.sub_self] at h
      exact Or.inl ⟨rfl, (Option.some.inj h).symm⟩
theorem n_L.sto {N q : Nat} {al : AL} {vl : List Value} {v : Value} (h : n_L N al vl) (hq : q ≤ vl.length) (hN : q < N) (hc : v.category = 1) : ∃ al', a_sto al q v = some al' ∧ n_L N al' (n_put vl q v) := by
  refine ⟨al.set q (some v), ?_, by rw [List.length_set]; exact h.1, fun w hw => ?_, fun p w hp => ?_⟩
  · unfold a_sto a_set1
    rw [if_neg (by rw [hc]; decide), if_pos (by rw [h.1]; exact hN), h.kill hq]
  · rcases n_put_mem hw with k | rfl
    · exact h.2.1 w k
    · exact hc
  · rcases n_put_at hq hp with ⟨rfl, rfl⟩ | ⟨e, k⟩
    · exact List.getElem?_set_self (by rw [h.1]; exact hN)
    · rw [List.getElem?_set_ne (Ne.symm e)]
      exact h.2.2 p w k
theorem n_L.pre {N : Nat} {al : AL} {vl vr : List Value} (h : n_L N al (vl ++ vr)) : n_L N al vl := ⟨h.1, fun v hv => h.2.1 v (List.mem_append_left _ hv), fun q v hq => h.2.2 q v (by
  rw [List.getElem?_append_left (List.getElem?_eq_some_iff.mp hq).1]
  exact hq)⟩
def n_cl (K : ZS → Prop) : Prop := ∀ S S' : ZS, (∀ r, r / 64 < z_new → S' r = S r) → K S → K S'
def n_J (d mi : Nat) (P : Value → AH → Prop) (T : Nat → Nat) (l : Nat → Int) (pc : Nat) (vl st : List Value) (n : Nat) (A : Nat → Int → Int) (K : ZS → Prop) (b : Nat) : Prop := ∀ al h, n_L (a_mxl mi) al vl → n_M h n T l A → n_I h → K (z_al h) → n_ok d mi P pc al st h b
section
variable {d mi : Nat} {P : Value → AH → Prop} {T : Nat → Nat} {l : Nat → Int} {pc p' len n : Nat} {vl vl' st : List Value} {A : Nat → Int → Int} {K : ZS → Prop} {b : Nat} {i : Instr}
theorem n_J.mono {K' : ZS → Prop} {b' : Nat} (k : n_J d mi P T l pc vl st n A K' b') (hK : ∀ S, K S → K' S) (hb : b' ≤ b) : n_J d mi P T l pc vl st n A K b := fun al h a1 a2 a3 a4 => (k al h a1 a2 a3 (hK _ a4)).le hb
theorem n_J.le {b' : Nat} (k : n_J d mi P T l pc vl st n A K b') (hb : b' ≤ b) : n_J d mi P T l pc vl st n A K b := k.mono (fun _ h => h) hb
theorem n_J.pre {vr : List Value} (k : n_J d mi P T l pc vl st n A K b) : n_J d mi P T l pc (vl ++ vr) st n A K b := fun al h a1 a2 a3 a4 => k al h a1.pre a2 a3 a4
/-- what the class's state tells of numbers may be used -/
theorem n_J.ex {K' : ZS → Prop} (hK : ∀ S, K S → K' S) (k : (∃ S, K' S) → n_J d mi P T l pc vl st n A K b) : n_J d mi P T l pc vl st n A K b := fun al h a1 a2 a3 a4 => k ⟨_, hK _ a4⟩ al h a1 a2 a3 a4
theorem n_kpush {z : Int} (hi : a_ins mi pc = some (i, len)) (hz : z_cl i = 1) (hl : len = a_len i) (hv : a_const i = some (n_v z)) (hp : pc + a_len i = p') (k : n_J d mi P T l p' vl (n_v z :: st) n A K b) : n_J d mi P T l pc vl st n A K b := fun al h a1 a2 a3 a4 => n_push hi hz hl hv (by rw [hp]; exact k al h a1 a2 a3 a4)
theorem n_kldc {z : Int} {idx : Nat} (hi : a_ins mi pc = some (.ldc idx, 2)) (hv : ((a_of a_cst (a_own mi)).find? (fun e => e.1 == idx)).map (fun e => e.2.1) = some (Int32.ofInt z)) (hp : pc + 2 = p') (k : n_J d mi P T l p' vl (n_v z :: st) n A K b) : n_J d mi P T l pc vl st n A K b := fun al h a1 a2 a3 a4 => n_s4 hi rfl rfl (pc' := pc + 2) (al' := al) (st' := n_v z :: st) (h' := h) (by
  unfold a_st4
  dsimp only
  rw [Option.map_eq_some_iff] at hv ⊢
  obtain ⟨e, h1, h2⟩ := hv
  exact ⟨e, h1, by rw [h2]⟩) (by rw [hp]; exact k al h a1 a2 a3 a4)
theorem n_kil {q : Nat} {z : Int} (hi : a_ins mi pc = some (.iload q, 2)) (hv : vl[q]? = some (n_v z)) (hp : pc + 2 = p') (k : n_J d mi P T l p' vl (n_v z :: st) n A K b) : n_J d mi P T l pc vl st n A K b := fun al h a1 a2 a3 a4 => n_load (q := q) (kd := 0) hi rfl rfl rfl rfl (a1.get hv) rfl (by show n_ok d mi P (pc + 2) al _ h b; rw [hp]; exact k al h a1 a2 a3 a4)
theorem n_kiln {q : Fin 4} {z : Int} (hi : a_ins mi pc = some (.iload_n q, 1)) (hv : vl[(q : Nat)]? = some (n_v z)) (hp : pc + 1 = p') (k : n_J d mi P T l p' vl (n_v z :: st) n A K b) : n_J d mi P T l pc vl st n A K b := fun al h a1 a2 a3 a4 => n_load (q := q) (kd := 0) hi rfl rfl rfl rfl (a1.get hv) rfl (by show n_ok d mi P (pc + 1) al _ h b; rw [hp]; exact k al h a1 a2 a3 a4)
theorem n_kal {q a : Nat} (hi : a_ins mi pc = some (.aload q, 2)) (hv : vl[q]? = some (.ref a)) (hp : pc + 2 = p') (k : n_J d mi P T l p' vl (.ref a :: st) n A K b) : n_J d mi P T l pc vl st n A K b := fun al h a1 a2 a3 a4 => n_load (q := q) (kd := 4) hi rfl rfl rfl rfl (a1.get hv) rfl (by show n_ok d mi P (pc + 2) al _ h b; rw [hp]; exact k al h a1 a2 a3 a4)
theorem n_kaln {q : Fin 4} {a : Nat} (hi : a_ins mi pc = some (.aload_n q, 1)) (hv : vl[(q : Nat)]? = some (.ref a)) (hp : pc + 1 = p') (k : n_J d mi P T l p' vl (.ref a :: st) n A K b) : n_J d mi P T l pc vl st n A K b := fun al h a1 a2 a3 a4 => n_load (q := q) (kd := 4) hi rfl rfl rfl rfl (a1.get hv) rfl (by show n_ok d mi P (pc + 1) al _ h b; rw [hp]; exact k al h a1 a2 a3 a4)
theorem n_kst {q kd : Nat} {v : Value} (hi : a_ins mi pc = some (i, len)) (hz : z_cl i = 1) (hl : len = a_len i) (hc : a_const i = none) (hd : a_load i = none) (hs : a_store i = some (q, kd)) (hk : a_kind v = kd) (hcat : v.category = 1) (hq : q ≤ vl.length) (hN : q < a_mxl mi) (hv : n_put vl q v = vl') (hp : pc + a_len i = p') (k : n_J d mi P T l p' vl' st n A K b) : n_J d mi P T l pc vl (v :: st) n A K b := fun al h a1 a2 a3 a4 => by
  obtain ⟨al', e1, e2⟩ := a1.sto hq hN hcat
  rw [hv] at e2
  exact n_store hi hz hl hc hd hs hk e1 (by rw [hp]; exact k al' h e2 a2 a3 a4)

theorem n_kis {q : Nat} {z : Int} (hi : a_ins mi pc = some (.istore q, 2)) (hq : decide ((q : Nat) ≤ vl.length) = true) (hm : a_mxl mi = 32) (hN : decide ((q : Nat) < 32) = true) (hv : n_put vl q (n_v z) = vl') (hp : pc + 2 = p') (k : n_J d mi P T l p' vl' st n A K b) : n_J d mi P T l pc vl (n_v z :: st) n A K b := n_kst (q := q) hi rfl rfl rfl rfl rfl rfl rfl (of_decide_eq_true hq) (by rw [hm]; exact of_decide_eq_true hN) hv hp k
theorem n_kisn {q : Fin 4} {z : Int} (hi : a_ins mi pc = some (.istore_n q, 1)) (hq : decide ((q : Nat) ≤ vl.length) = true) (hm : a_mxl mi = 32) (hN : decide ((q : Nat) < 32) = true) (hv : n_put vl q (n_v z) = vl') (hp : pc + 1 = p') (k : n_J d mi P T l p' vl' st n A K b) : n_J d mi P T l pc vl (n_v z :: st) n A K b := n_kst (q := q) hi rfl rfl rfl rfl rfl rfl rfl (of_decide_eq_true hq) (by rw [hm]; exact of_decide_eq_true hN) hv hp k
theorem n_kas {q : Nat} {z : Nat} (hi : a_ins mi pc = some (.astore q, 2)) (hq : decide ((q : Nat) ≤ vl.length) = true) (hm : a_mxl mi = 32) (hN : decide ((q : Nat) < 32) = true) (hv : n_put vl q (.ref z) = vl') (hp : pc + 2 = p') (k : n_J d mi P T l p' vl' st n A K b) : n_J d mi P T l pc vl (.ref z :: st) n A K b := n_kst (q := q) hi rfl rfl rfl rfl rfl rfl rfl (of_decide_eq_true hq) (by rw [hm]; exact of_decide_eq_true hN) hv hp k
theorem n_kasn {q : Fin 4} {z : Nat} (hi : a_ins mi pc = some (.astore_n q, 1)) (hq : decide ((q : Nat) ≤ vl.length) = true) (hm : a_mxl mi = 32) (hN : decide ((q : Nat) < 32) = true) (hv : n_put vl q (.ref z) = vl') (hp : pc + 1 = p') (k : n_J d mi P T l p' vl' st n A K b) : n_J d mi P T l pc vl (.ref z :: st) n A K b := n_kst (q := q) hi rfl rfl rfl rfl rfl rfl rfl (of_decide_eq_true hq) (by rw [hm]; exact of_decide_eq_true hN) hv hp k
theorem n_kinc {q : Nat} {z c : Int} (hi : a_ins mi pc = some (.iinc q c, 3)) (h0 : vl[q]? = some (n_v z)) (hm : a_mxl mi = 32) (hN : decide (q < 32) = true) (hv : n_put vl q (n_v (z + c)) = vl') (hp : pc + 3 = p') (k : n_J d mi P T l p' vl' st n A K b) : n_J d mi P T l pc vl st n A K b := fun al h a1 a2 a3 a4 => by
  have hq : q ≤ vl.length := Nat.le_of_lt (List.getElem?_eq_some_iff.mp h0).1
  obtain ⟨al', e1, e2⟩ := a1.sto (v := n_v (z + c)) hq (by rw [hm]; exact of_decide_eq_true hN) rfl
  rw [hv] at e2
  refine n_iinc hi (a1.get h0) (by rw [n_oadd]; exact e1) (by rw [hp]; exact k al' h e2 a2 a3 a4)
theorem n_kgoto {off : Int} (hi : a_ins mi pc = some (.goto off, 3)) (ht : a_tgt pc off = some p') (k : n_J d mi P T l p' vl st n A K b) : n_J d mi P T l pc vl st n A K b := fun al h a1 a2 a3 a4 => n_goto hi ht (k al h a1 a2 a3 a4)
theorem n_c2eq {x y : Int} {off : Int} {t : Nat} (hi : a_ins mi pc = some (.if_icmp .eq off, 3)) (ht : a_tgt pc off = some t) (hp : pc + 3 = p') (hx : n_r x) (hy : n_r y) (k1 : x = y → n_J d mi P T l t vl st n A K b) (k2 : ¬ x = y → n_J d mi P T l p' vl st n A K b) : n_J d mi P T l pc vl (n_v y :: n_v x :: st) n A K b := fun al h a1 a2 a3 a4 => n_if2 hi ht (fun e => by
  rw [n_i2 hx hy] at e
  exact k1 (by have e : (decide (x = y)) = true := e; first | exact of_decide_eq_true e | simpa using e) al h a1 a2 a3 a4) (fun e => by
  rw [n_i2 hx hy] at e
  rw [hp]
  exact k2 (by have e : (decide (x = y)) = false := e; first | exact of_decide_eq_false e | (have e := of_decide_eq_false e; omega) | simpa using e) al h a1 a2 a3 a4)
theorem n_c1eq {x : Int} {off : Int} {t : Nat} (hi : a_ins mi pc = some (.ifCond .eq off, 3)) (ht : a_tgt pc off = some t) (hp : pc + 3 = p') (hx : n_r x) (k1 : x = 0 → n_J d mi P T l t vl st n A K b) (k2 : ¬ x = 0 → n_J d mi P T l p' vl st n A K b) : n_J d mi P T l pc vl (n_v x :: st) n A K b := fun al h a1 a2 a3 a4 => n_if1 hi ht (fun e => by
  rw [n_i1 hx] at e
  exact k1 (by have e : (decide (x = 0)) = true := e; first | exact of_decide_eq_true e | simpa using e) al h a1 a2 a3 a4) (fun e => by
  rw [n_i1 hx] at e
  rw [hp]
  exact k2 (by have e : (decide (x = 0)) = false := e; first | exact of_decide_eq_false e | (have e := of_decide_eq_false e; omega) | simpa using e) al h a1 a2 a3 a4)
theorem n_c2ne {x y : Int} {off : Int} {t : Nat} (hi : a_ins mi pc = some (.if_icmp .ne off, 3)) (ht : a_tgt pc off = some t) (hp : pc + 3 = p') (hx : n_r x) (hy : n_r y) (k1 : ¬ x = y → n_J d mi P T l t vl st n A K b) (k2 : x = y → n_J d mi P T l p' vl st n A K b) : n_J d mi P T l pc vl (n_v y :: n_v x :: st) n A K b := fun al h a1 a2 a3 a4 => n_if2 hi ht (fun e => by
  rw [n_i2 hx hy] at e
  exact k1 (by have e : (!decide (x = y)) = true := e; first | exact of_decide_eq_true e | simpa using e) al h a1 a2 a3 a4) (fun e => by
  rw [n_i2 hx hy] at e
  rw [hp]
  exact k2 (by have e : (!decide (x = y)) = false := e; first | exact of_decide_eq_false e | (have e := of_decide_eq_false e; omega) | simpa using e) al h a1 a2 a3 a4)
theorem n_c1ne {x : Int} {off : Int} {t : Nat} (hi : a_ins mi pc = some (.ifCond .ne off, 3)) (ht : a_tgt pc off = some t) (hp : pc + 3 = p') (hx : n_r x) (k1 : ¬ x = 0 → n_J d mi P T l t vl st n A K b) (k2 : x = 0 → n_J d mi P T l p' vl st n A K b) : n_J d mi P T l pc vl (n_v x :: st) n A K b := fun al h a1 a2 a3 a4 => n_if1 hi ht (fun e => by
  rw [n_i1 hx] at e
  exact k1 (by have e : (!decide (x = 0)) = true := e; first | exact of_decide_eq_true e | simpa using e) al h a1 a2 a3 a4) (fun e => by
  rw [n_i1 hx] at e
  rw [hp]
  exact k2 (by have e : (!decide (x = 0)) = false := e; first | exact of_decide_eq_false e | (have e := of_decide_eq_false e; omega) | simpa using e) al h a1 a2 a3 a4)
theorem n_c2lt {x y : Int} {off : Int} {t : Nat} (hi : a_ins mi pc = some (.if_icmp .lt off, 3)) (ht : a_tgt pc off = some t) (hp : pc + 3 = p') (hx : n_r x) (hy : n_r y) (k1 : x < y → n_J d mi P T l t vl st n A K b) (k2 : y ≤ x → n_J d mi P T l p' vl st n A K b) : n_J d mi P T l pc vl (n_v y :: n_v x :: st) n A K b := fun al h a1 a2 a3 a4 => n_if2 hi ht (fun e => by
  rw [n_i2 hx hy] at e
  exact k1 (by have e : (decide (x < y)) = true := e; first | exact of_decide_eq_true e | simpa using e) al h a1 a2 a3 a4) (fun e => by
  rw [n_i2 hx hy] at e
  rw [hp]
  exact k2 (by have e : (decide (x < y)) = false := e; first | exact of_decide_eq_false e | (have e := of_decide_eq_false e; omega) | simpa using e) al h a1 a2 a3 a4)
theorem n_c1lt {x : Int} {off : Int} {t : Nat} (hi : a_ins mi pc = some (.ifCond .lt off, 3)) (ht : a_tgt pc off = some t) (hp : pc + 3 = p') (hx : n_r x) (k1 : x < 0 → n_J d mi P T l t vl st n A K b) (k2 : 0 ≤ x → n_J d mi P T l p' vl st n A K b) : n_J d mi P T l pc vl (n_v x :: st) n A K b := fun al h a1 a2 a3 a4 => n_if1 hi ht (fun e => by
  rw [n_i1 hx] at e
  exact k1 (by have e : (decide (x < 0)) = true := e; first | exact of_decide_eq_true e | simpa using e) al h a1 a2 a3 a4) (fun e => by
  rw [n_i1 hx] at e
  rw [hp]
  exact k2 (by have e : (decide (x < 0)) = false := e; first | exact of_decide_eq_false e | (have e := of_decide_eq_false e; omega) | simpa using e) al h a1 a2 a3 a4)
theorem n_c2ge {x y : Int} {off : Int} {t : Nat} (hi : a_ins mi pc = some (.if_icmp .ge off, 3)) (ht : a_tgt pc off = some t) (hp : pc + 3 = p') (hx : n_r x) (hy : n_r y) (k1 : y ≤ x → n_J d mi P T l t vl st n A K b) (k2 : x < y → n_J d mi P T l p' vl st n A K b) : n_J d mi P T l pc vl (n_v y :: n_v x :: st) n A K b := fun al h a1 a2 a3 a4 => n_if2 hi ht (fun e => by
  rw [n_i2 hx hy] at e
  exact k1 (by have e : (decide (y ≤ x)) = true := e; first | exact of_decide_eq_true e | simpa using e) al h a1 a2 a3 a4) (fun e => by
  rw [n_i2 hx hy] at e
  rw [hp]
  exact k2 (by have e : (decide (y ≤ x)) = false := e; first | exact of_decide_eq_false e | (have e := of_decide_eq_false e; omega) | simpa using e) al h a1 a2 a3 a4)
theorem n_c1ge {x : Int} {off : Int} {t : Nat} (hi : a_ins mi pc = some (.ifCond .ge off, 3)) (ht : a_tgt pc off = some t) (hp : pc + 3 = p') (hx : n_r x) (k1 : 0 ≤ x → n_J d mi P T l t vl st n A K b) (k2 : x < 0 → n_J d mi P T l p' vl st n A K b) : n_J d mi P T l pc vl (n_v x :: st) n A K b := fun al h a1 a2 a3 a4 => n_if1 hi ht (fun e => by
  rw [n_i1 hx] at e
  exact k1 (by have e : (decide (0 ≤ x)) = true := e; first | exact of_decide_eq_true e | simpa using e) al h a1 a2 a3 a4) (fun e => by
  rw [n_i1 hx] at e
  rw [hp]
  exact k2 (by have e : (decide (0 ≤ x)) = false := e; first | exact of_decide_eq_false e | (have e := of_decide_eq_false e; omega) | simpa using e) al h a1 a2 a3 a4)
theorem n_c2gt {x y : Int} {off : Int} {t : Nat} (hi : a_ins mi pc = some (.if_icmp .gt off, 3)) (ht : a_tgt pc off = some t) (hp : pc + 3 = p') (hx : n_r x) (hy : n_r y) (k1 : y < x → n_J d mi P T l t vl st n A K b) (k2 : x ≤ y → n_J d mi P T l p' vl st n A K b) : n_J d mi P T l pc vl (n_v y :: n_v x :: st) n A K b := fun al h a1 a2 a3 a4 => n_if2 hi ht (fun e => by
  rw [n_i2 hx hy] at e
  exact k1 (by have e : (decide (y < x)) = true := e; first | exact of_decide_eq_true e | simpa using e) al h a1 a2 a3 a4) (fun e => by
  rw [n_i2 hx hy] at e
  rw [hp]
  exact k2 (by have e : (decide (y < x)) = false := e; first | exact of_decide_eq_false e | (have e := of_decide_eq_false e; omega) | simpa using e) al h a1 a2 a3 a4)
theorem n_c1gt {x : Int} {off : Int} {t : Nat} (hi : a_ins mi pc = some (.ifCond .gt off, 3)) (ht : a_tgt pc off = some t) (hp : pc + 3 = p') (hx : n_r x) (k1 : 0 < x → n_J d mi P T l t vl st n A K b) (k2 : x ≤ 0 → n_J d mi P T l p' vl st n A K b) : n_J d mi P T l pc vl (n_v x :: st) n A K b := fun al h a1 a2 a3 a4 => n_if1 hi ht (fun e => by
  rw [n_i1 hx] at e
  exact k1 (by have e : (decide (0 < x)) = true := e; first | exact of_decide_eq_true e | simpa using e) al h a1 a2 a3 a4) (fun e => by
  rw [n_i1 hx] at e
  rw [hp]
  exact k2 (by have e : (decide (0 < x)) = false := e; first | exact of_decide_eq_false e | (have e := of_decide_eq_false e; omega) | simpa using e) al h a1 a2 a3 a4)
theorem n_c2le {x y : Int} {off : Int} {t : Nat} (hi : a_ins mi pc = some (.if_icmp .le off, 3)) (ht : a_tgt pc off = some t) (hp : pc + 3 = p') (hx : n_r x) (hy : n_r y) (k1 : x ≤ y → n_J d mi P T l t vl st n A K b) (k2 : y < x → n_J d mi P T l p' vl st n A K b) : n_J d mi P T l pc vl (n_v y :: n_v x :: st) n A K b := fun al h a1 a2 a3 a4 => n_if2 hi ht (fun e => by
  rw [n_i2 hx hy] at e
  exact k1 (by have e : (decide (x ≤ y)) = true := e; first | exact of_decide_eq_true e | simpa using e) al h a1 a2 a3 a4) (fun e => by
  rw [n_i2 hx hy] at e
  rw [hp]
  exact k2 (by have e : (decide (x ≤ y)) = false := e; first | exact of_decide_eq_false e | (have e := of_decide_eq_false e; omega) | simpa using e) al h a1 a2 a3 a4)
theorem n_c1le {x : Int} {off : Int} {t : Nat} (hi : a_ins mi pc = some (.ifCond .le off, 3)) (ht : a_tgt pc off = some t) (hp : pc + 3 = p') (hx : n_r x) (k1 : x ≤ 0 → n_J d mi P T l t vl st n A K b) (k2 : 0 < x → n_J d mi P T l p' vl st n A K b) : n_J d mi P T l pc vl (n_v x :: st) n A K b := fun al h a1 a2 a3 a4 => n_if1 hi ht (fun e => by
  rw [n_i1 hx] at e
  exact k1 (by have e : (decide (x ≤ 0)) = true := e; first | exact of_decide_eq_true e | simpa using e) al h a1 a2 a3 a4) (fun e => by
  rw [n_i1 hx] at e
  rw [hp]
  exact k2 (by have e : (decide (x ≤ 0)) = false := e; first | exact of_decide_eq_false e | (have e := of_decide_eq_false e; omega) | simpa using e) al h a1 a2 a3 a4)
theorem n_kadd {x y : Int} (hi : a_ins mi pc = some (.iadd, 1)) (hp : pc + 1 = p') (k : n_J d mi P T l p' vl (n_v (x + y) :: st) n A K b) : n_J d mi P T l pc vl (n_v y :: n_v x :: st) n A K b := fun al h a1 a2 a3 a4 => n_add hi (by rw [hp, n_oadd]; exact k al h a1 a2 a3 a4)
theorem n_ksub {x y : Int} (hi : a_ins mi pc = some (.isub, 1)) (hp : pc + 1 = p') (k : n_J d mi P T l p' vl (n_v (x - y) :: st) n A K b) : n_J d mi P T l pc vl (n_v y :: n_v x :: st) n A K b := fun al h a1 a2 a3 a4 => n_sub hi (by rw [hp, n_osub]; exact k al h a1 a2 a3 a4)
theorem n_kmul {x y : Int} (hi : a_ins mi pc = some (.imul, 1)) (hp : pc + 1 = p') (k : n_J d mi P T l p' vl (n_v (x * y) :: st) n A K b) : n_J d mi P T l pc vl (n_v y :: n_v x :: st) n A K b := fun al h a1 a2 a3 a4 => n_mul hi (by rw [hp, n_omul]; exact k al h a1 a2 a3 a4)
theorem n_kdiv {x y : Int} (hi : a_ins mi pc = some (.idiv, 1)) (hp : pc + 1 = p') (hx : n_r x) (hy : n_r y) (h0 : ¬ y = 0) (k : n_J d mi P T l p' vl (n_v (x.tdiv y) :: st) n A K b) : n_J d mi P T l pc vl (n_v y :: n_v x :: st) n A K b := fun al h a1 a2 a3 a4 => n_div hi (fun q => h0 (by
  have := congrArg Int32.toInt q
  rw [n_to hy] at this
  exact this)) (by rw [hp, n_odiv hx hy]; exact k al h a1 a2 a3 a4)
theorem n_kand (hi : a_ins mi pc = some (.iand, 1)) (hp : pc + 1 = p') (k : n_J d mi P T l p' vl (n_v 1 :: st) n A K b) : n_J d mi P T l pc vl (n_v 1 :: n_v 1 :: st) n A K b := fun al h a1 a2 a3 a4 => n_and hi (by rw [hp]; exact k al h a1 a2 a3 a4)
theorem n_kor {x y : Int} (hi : a_ins mi pc = some (.ior, 1)) (hp : pc + 1 = p') (hx : x = 0 ∨ x = 1) (hy : y = 0 ∨ y = 1) (k : n_J d mi P T l p' vl (n_v (if x = 0 then y else 1) :: st) n A K b) : n_J d mi P T l pc vl (n_v y :: n_v x :: st) n A K b := fun al h a1 a2 a3 a4 => n_or hi (by
  rw [hp]
  have e : Int32.ofInt x ||| Int32.ofInt y = Int32.ofInt (if x = 0 then y else 1) := by
    rcases hx with rfl | rfl <;> rcases hy with rfl | rfl <;> decide
  rw [e]
  exact k al h a1 a2 a3 a4)
theorem n_kdup {v : Value} (hi : a_ins mi pc = some (.dup, 1)) (hv : v.category = 1) (hp : pc + 1 = p') (k : n_J d mi P T l p' vl (v :: v :: st) n A K b) : n_J d mi P T l pc vl (v :: st) n A K b := fun al h a1 a2 a3 a4 => n_dup hi hv (by rw [hp]; exact k al h a1 a2 a3 a4)
theorem n_kdup2 {v u : Value} (hi : a_ins mi pc = some (.dup2, 1)) (hv : v.category = 1 ∧ u.category = 1) (hp : pc + 1 = p') (k : n_J d mi P T l p' vl (v :: u :: v :: u :: st) n A K b) : n_J d mi P T l pc vl (v :: u :: st) n A K b := fun al h a1 a2 a3 a4 => n_dup2 hi hv (by rw [hp]; exact k al h a1 a2 a3 a4)
theorem n_kiald {a : Nat} {j : Int} (hi : a_ins mi pc = some (.iaload, 1)) (ha : a < n) (hT : T a = 20) (j0 : 0 ≤ j) (j1 : j < l a) (jl : l a ≤ 60000) (hp : pc + 1 = p') (k : n_J d mi P T l p' vl (n_v (A a j) :: st) n A K b) : n_J d mi P T l pc vl (n_v j :: n_p a :: st) n A K b := fun al h a1 a2 a3 a4 => n_Mld a2 ha hi rfl rfl (by rw [hT]; decide) j0 j1 jl (by
  rw [hp]
  unfold n_w
  rw [if_neg (by rw [hT]; decide)]
  exact k al h a1 a2 a3 a4)
theorem n_kbald {a : Nat} {j : Int} (hi : a_ins mi pc = some (.baload, 1)) (ha : a < n) (hT : T a = 21) (j0 : 0 ≤ j) (j1 : j < l a) (jl : l a ≤ 60000) (hp : pc + 1 = p') (k : n_J d mi P T l p' vl (n_v (A a j) :: st) n A K b) : n_J d mi P T l pc vl (n_v j :: n_p a :: st) n A K b := fun al h a1 a2 a3 a4 => n_Mld a2 ha hi rfl rfl (by rw [hT]; decide) j0 j1 jl (by
  rw [hp]
  unfold n_w
  rw [if_neg (by rw [hT]; decide)]
  exact k al h a1 a2 a3 a4)
theorem n_kcald {a : Nat} {j : Int} (hi : a_ins mi pc = some (.caload, 1)) (ha : a < n) (hT : T a = 22) (j0 : 0 ≤ j) (j1 : j < l a) (jl : l a ≤ 60000) (hp : pc + 1 = p') (k : n_J d mi P T l p' vl (n_v (A a j) :: st) n A K b) : n_J d mi P T l pc vl (n_v j :: n_p a :: st) n A K b := fun al h a1 a2 a3 a4 => n_Mld a2 ha hi rfl rfl (by rw [hT]; decide) j0 j1 jl (by
  rw [hp]
  unfold n_w
  rw [if_neg (by rw [hT]; decide)]
  exact k al h a1 a2 a3 a4)
theorem n_kaald {a r : Nat} {j : Int} (hi : a_ins mi pc = some (.aaload, 1)) (ha : a < n) (hT : T a = 29 ∨ T a = 30) (j0 : 0 ≤ j) (j1 : j < l a) (jl : l a ≤ 60000) (hr : A a j = ((z_N0 + r : Nat) : Int)) (hp : pc + 1 = p') (k : n_J d mi P T l p' vl (n_p r :: st) n A K b) : n_J d mi P T l pc vl (n_v j :: n_p a :: st) n A K b := fun al h a1 a2 a3 a4 => n_Mld a2 ha hi rfl rfl (by rcases hT with q | q <;> rw [q] <;> decide) j0 j1 jl (by
  rw [hp]
  unfold n_w
  rw [if_pos (by omega), hr, Int.toNat_natCast]
  exact k al h a1 a2 a3 a4)
theorem n_kiast {a : Nat} {j z : Int} (hK : n_cl K) (hi : a_ins mi pc = some (.iastore, 1)) (ha : a < n) (hT : T a = 20) (j0 : 0 ≤ j) (j1 : j < l a) (jl : l a ≤ 60000) (hp : pc + 1 = p') (k : n_J d mi P T l p' vl st n (n_up A a j z) K b) : n_J d mi P T l pc vl (n_v z :: n_v j :: n_p a :: st) n A K b := fun al h a1 a2 a3 a4 => n_iast a2 a3 ha hi hT j0 j1 jl (fun h' m i s => by
  rw [hp]
  exact k al h' a1 m i (hK _ _ s a4))
theorem n_kbast {a : Nat} {j z : Int} (hK : n_cl K) (hi : a_ins mi pc = some (.bastore, 1)) (ha : a < n) (hT : T a = 21) (hz : z = 0 ∨ z = 1) (j0 : 0 ≤ j) (j1 : j < l a) (jl : l a ≤ 60000) (hp : pc + 1 = p') (k : n_J d mi P T l p' vl st n (n_up A a j z) K b) : n_J d mi P T l pc vl (n_v z :: n_v j :: n_p a :: st) n A K b := fun al h a1 a2 a3 a4 => n_bast a2 a3 ha hi hT hz j0 j1 jl (fun h' m i s => by
  rw [hp]
  exact k al h' a1 m i (hK _ _ s a4))
theorem n_kcast {a : Nat} {j z : Int} (hK : n_cl K) (hi : a_ins mi pc = some (.castore, 1)) (ha : a < n) (hT : T a = 22) (hz : z = 102 ∨ z = 100) (j0 : 0 ≤ j) (j1 : j < l a) (jl : l a ≤ 60000) (hp : pc + 1 = p') (k : n_J d mi P T l p' vl st n (n_up A a j z) K b) : n_J d mi P T l pc vl (n_v z :: n_v j :: n_p a :: st) n A K b := fun al h a1 a2 a3 a4 => n_cast a2 a3 ha hi hT hz j0 j1 jl (fun h' m i s => by
  rw [hp]
  exact k al h' a1 m i (hK _ _ s a4))
/-- a new array's place holds zeros -/
def n_zr (A : Nat → Int → Int) (n : Nat) : Nat → Int → Int := fun a k => if a = n then 0 else A a k
theorem n_M.new {h : AH} {ty : FieldType} {m : Nat} {hm : Int} (hM : n_M h n T l A) (hT : T n = a_atag ty) (hT2 : T n < 25) (hd : defaultValue ty = .int 0) (hl : l n = hm) (e : hm = (m : Int)) : n_M (h ++ [a_row ty m]) (n + 1) T l (n_zr A n) := by
  refine ⟨by rw [List.length_append, hM.1]; rfl, fun a ha => ?_⟩
  by_cases q : a = n
  · subst q
    refine ⟨List.replicate m (.int 0), ?_, by rw [List.length_replicate, hl, e], fun k k0 k1 => ?_⟩
    · rw [List.getElem?_append_right (by rw [hM.1]; exact Nat.le_refl _), hM.1, Nat.sub_self]
      show some (a_row ty m) = _
      unfold a_row
      rw [hT, hd]
    · unfold n_zr n_w
      rw [if_pos rfl, if_neg (by omega), List.getElem?_replicate, if_pos (by omega)]
      rfl
  · obtain ⟨us, u1, u2, u3⟩ := hM.2 a (by omega)
    refine ⟨us, ?_, u2, fun k k0 k1 => ?_⟩
    · rw [List.getElem?_append_left (by rw [hM.1]; omega)]
      exact u1
    · unfold n_zr
      rw [if_neg q]
      exact u3 k k0 k1
theorem n_cntv {m : Nat} (hm : m ≤ 60000) : a_cnt (Int32.ofInt (m : Int)) = some m := by
  have hr : n_r (m : Int) := ⟨by omega, by omega⟩
  have e : (Int32.ofInt (m : Int)).toInt = m := n_to hr
  have e2 : (Int32.ofInt (m : Int)).toNatClampNeg = m := by
    show (Int32.ofInt (m : Int)).toInt.toNat = m
    rw [e]
    exact Int.toNat_natCast m
  unfold a_cnt
  rw [e2, if_neg]
  intro q
  rcases q with q | q
  · rw [Int32.lt_iff_toInt_lt, e] at q
    have z : (0 : Int32).toInt = 0 := by decide
    omega
  · omega
theorem n_s5 {al' : AL} {pc' c s b' : Nat} {al : AL} {st st' : List Value} {h h' : AH} (hi : a_ins mi pc = some (i, len)) (hz : z_cl i = 5) (hl : len = a_len i) (h4 : a_st5 (a_own mi) i pc al st h = some (pc', al', st', h', c, s)) (hc : c + b ≤ b') (hs : s + 100 * b ≤ 100 * b') (k : n_ok d mi P pc' al' st' h' b) : n_ok d mi P pc al st h b' := by
  have e : ∀ n, n ≠ 5 → z_cl i ≠ n := fun n hn q => hn (q.symm.trans hz)
  refine n_st hi (z_ne (e 10 (by decide))) (z_nt (e 0 (by decide))) (z_nc (e 0 (by decide)) (e 6 (by decide)) (e 8 (by decide))) ?_ hc hs k
  unfold a_stp
  rw [z_nw (e 0 (by decide)) (e 9 (by decide))]
  dsimp only
  rw [if_pos hl, z_n1 (e 0 (by decide)) (e 1 (by decide))]
  dsimp only
  rw [z_n4 (e 0 (by decide)) (e 4 (by decide))]
  dsimp only
  rw [z_n2 (e 0 (by decide)) (e 2 (by decide))]
  dsimp only
  rw [z_n3 (e 0 (by decide)) (e 3 (by decide))]
  dsimp only
  rw [h4]
theorem n_knew {t : ArrayType} {m : Nat} (hK : n_cl K) (hi : a_ins mi pc = some (.newarray t, 2)) (ht : a_tyok (Op.newarray.typeOf t) = true) (hT : T n = a_atag (Op.newarray.typeOf t)) (hT2 : T n < 25) (hd : defaultValue (Op.newarray.typeOf t) = .int 0) (hm : m ≤ 100) (hl : l n = (m : Int)) (hp : pc + 2 = p') (k : n_J d mi P T l p' vl (n_p n :: st) (n + 1) (n_zr A n) K b) : n_J d mi P T l pc vl (n_v (m : Int) :: st) n A K (b + 1) := fun al h a1 a2 a3 a4 => n_s5 hi rfl rfl (pc' := pc + 2) (al' := al) (st' := .ref h.length :: st) (h' := h ++ [a_row (Op.newarray.typeOf t) m]) (c := 1) (s := m) (by
  unfold a_st5
  dsimp only
  rw [if_pos ht, n_cntv (by omega)]
  rfl) (Nat.le_of_eq (Nat.add_comm 1 b)) (show m + 100 * b ≤ 100 * (b + 1) by omega) (by
  rw [hp, a2.1]
  have e : ∀ a, a < z_N0 → (h ++ [a_row (Op.newarray.typeOf t) m])[a]? = h[a]? := fun a ha => List.getElem?_append_left (by rw [a2.1]; omega)
  exact k al _ a1 (a2.new hT hT2 hd hl rfl) (a3.of e (by rw [List.length_append]; omega)) (hK _ _ (n_alE e) a4))
end
