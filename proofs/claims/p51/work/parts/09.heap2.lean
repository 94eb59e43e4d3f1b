theorem a_narrow_ren {ad : Nat → Nat} {ty : FieldType} {v : Value} (h : narrow ty v = v) : narrow ty (a_ren ad v) = a_ren ad v := by
  cases v <;> first | exact h | (cases ty <;> rfl)
theorem a_fits_ren {ad : Nat → Nat} {ty : FieldType} {v : Value} (h : fits ty v = true) : fits ty (a_ren ad v) = true := by
  cases v <;> first | exact h | (cases ty <;> first | rfl | exact h)
section AW4
variable {p : Program} {l : Launch} {e : Env} {R : Room} {s : State} {m : MethodId} {args : Array Value} {below : List Frame} {meth : Method} {c : Code} {H : Heap} {locs : List Loc} {cells slots : Nat} {Q : State → Prop} {cc : ByteArray} {pc : Nat} {ls : Array Slot} {rest : List Value} {i : Instr} {D : AD} {B : Nat} {ad : Nat → Nat} {h : AH} {H0 : Heap}
theorem a_st3_ok (hx : p.tables.exec = Jvm.exec) (hb : c.code = cc) (hdg : decode cc pc = .ok (i, a_len i)) (hKA : a_KA D s) (hH : a_H D B ad h H) {al : AL} {st : List Value} {r : AS} (hr : a_st3 i pc al st h = some r)
    (kk : r.2.2.2 = (h, 0, 0) → r.2.1 = al → W p l e R s m args below meth c H locs cells slots Q (F0 m r.1 ls (r.2.2.1.map (a_ren ad)))) : W p l e R s m args below meth c H locs cells slots Q (F0 m pc ls (st.map (a_ren ad))) := by
  unfold a_st3 at hr
  split at hr
  · rename_i j a st'
    split at hr
    · rename_i t vs ha
      split at hr
      · rename_i ht
        rw [Option.bind_eq_some_iff] at hr
        obtain ⟨n, h1, hr⟩ := hr
        rw [Option.map_eq_some_iff] at hr
        obtain ⟨v, h2, rfl⟩ := hr
        obtain ⟨g1, g2, g3⟩ := a_ix_ok h1
        obtain ⟨cell, c1, c2⟩ := hH.1 a _ ha
        have k1 := kk rfl rfl
        cases i <;> simp only [a_ald] at ht <;> (try (cases ht; done))
        · obtain ⟨ty, hty, href⟩ : ∃ ty, a_aty t = some ty ∧ ty.isReference = true := by
            cases hq : a_aty t with
            | none => rw [hq] at ht; cases ht
            | some ty => rw [hq] at ht; exact ⟨ty, rfl, ht⟩
          obtain ⟨-, d2, d3, d4⟩ := c2.arr (a_aty_ge hty)
          exact W.aald hx hb c1 (c2.isArr hKA hty) href d2.1 (by rw [d3]; exact g1) (by rw [g2]; exact d4 n v h2) rfl rfl hdg k1
        · have hty := of_decide_eq_true ht
          obtain ⟨-, d2, d3, d4⟩ := c2.arr (a_aty_ge hty)
          exact W.zald hx hb c1 (c2.isArr hKA hty) d2.1 (by rw [d3]; exact g1) (by rw [g2]; exact d4 n v h2) rfl rfl hdg k1
        · have hty := of_decide_eq_true ht
          obtain ⟨-, d2, d3, d4⟩ := c2.arr (a_aty_ge hty)
          exact W.cald hx hb c1 (c2.isArr hKA hty) d2.1 (by rw [d3]; exact g1) (by rw [g2]; exact d4 n v h2) rfl rfl hdg k1
        · have hty := of_decide_eq_true ht
          obtain ⟨-, d2, d3, d4⟩ := c2.arr (a_aty_ge hty)
          exact W.dald hx hb c1 (c2.isArr hKA hty) d2.1 (by rw [d3]; exact g1) (by rw [g2]; exact d4 n v h2) rfl rfl hdg k1
        · have hty := of_decide_eq_true ht
          obtain ⟨-, d2, d3, d4⟩ := c2.arr (a_aty_ge hty)
          exact W.iald hx hb c1 (c2.isArr hKA hty) d2.1 (by rw [d3]; exact g1) (by rw [g2]; exact d4 n v h2) rfl rfl hdg k1
        · have hty := of_decide_eq_true ht
          obtain ⟨-, d2, d3, d4⟩ := c2.arr (a_aty_ge hty)
          exact W.lald hx hb c1 (c2.isArr hKA hty) d2.1 (by rw [d3]; exact g1) (by rw [g2]; exact d4 n v h2) rfl rfl hdg k1
      · cases hr
    · cases hr
  · cases hr
/-- an array store -/
theorem a_ast_ok (hx : p.tables.exec = Jvm.exec) (hb : c.code = cc) (hdg : decode cc pc = .ok (i, a_len i)) (hKA : a_KA D s) (hH : a_H D B ad h H) (hS : va_S (fun q => B ≤ q) H0 H locs) {a t n : Nat} {vs : List Value} {x v : Value} {j : Int32} (ha : h[a]? = some (t, vs)) (hv : a_ast i t x = some v) (hj : a_ix j vs.length = some n)
    (kk : ∀ (H' : Heap) (locs' : List Loc), a_H D B ad (h.set a (t, vs.set n v)) H' → va_S (fun q => B ≤ q) H0 H' locs' → W p l e R s m args below meth c H' locs' cells slots Q (F0 m (pc + 1) ls rest)) : W p l e R s m args below meth c H locs cells slots Q (F0 m pc ls (a_ren ad x :: .int j :: .ref (ad a) :: rest)) := by
  obtain ⟨g1, g2, g3⟩ := a_ix_ok hj
  obtain ⟨cell, c1, c2⟩ := hH.1 a _ ha
  have key : ∀ (ty : FieldType), a_aty t = some ty → t ≠ 19 → ∀ (w : Value), a_ren ad v = w → ∀ H' : Heap, H'[ad a]? = some (cell.setSlot j.toNatClampNeg w) → H'.size = H.size → (∀ q, q ≠ ad a → H'[q]? = H[q]?) → W p l e R s m args below meth c H' (locs ++ [⟨ad a, j.toNatClampNeg⟩]) cells slots Q (F0 m (pc + 1) ls rest) := by
    intro ty hty h19 w hw H' e1 e2 e3
    subst hw
    rw [g2] at e1
    exact kk H' _ (hH.set ha e1 (c2.setArr (a_aty_ge hty) g3 v) e3) (hS.put e2 e3 (hH.2.2 a _ ha h19))
  have n19 : ∀ ty, a_aty t = some ty → ty ≠ .int → t ≠ 19 := fun ty hty hn q => by
    subst q
    have : a_aty 19 = some .int := by decide +kernel
    rw [this] at hty
    cases hty
    exact hn rfl
  cases i <;> cases x <;> simp only [a_ast] at hv <;> (try (cases hv; done))
  · split at hv
    · rename_i hty
      cases hv
      obtain ⟨-, d2, d3, d4⟩ := c2.arr (a_aty_ge hty)
      exact W.zast hx hb c1 (c2.isArr hKA hty) d2.1 (by rw [d3]; exact g1) rfl rfl hdg (key _ hty (n19 _ hty (by decide)) _ rfl)
    · cases hv
  · split at hv
    · rename_i hty
      cases hv
      obtain ⟨-, d2, d3, d4⟩ := c2.arr (a_aty_ge hty)
      exact W.cast hx hb c1 (c2.isArr hKA hty) d2.1 (by rw [d3]; exact g1) rfl rfl hdg (key _ hty (n19 _ hty (by decide)) _ rfl)
    · cases hv
  · split at hv
    · rename_i hty
      cases hv
      obtain ⟨-, d2, d3, d4⟩ := c2.arr (a_aty_ge hty)
      exact W.dast hx hb c1 (c2.isArr hKA hty) d2.1 (by rw [d3]; exact g1) rfl rfl hdg (key _ hty (n19 _ hty (by decide)) _ rfl)
    · cases hv
  · split at hv
    · rename_i hty
      cases hv
      obtain ⟨-, d2, d3, d4⟩ := c2.arr (a_aty_ge hty.2)
      exact W.iast hx hb c1 (c2.isArr hKA hty.2) d2.1 (by rw [d3]; exact g1) rfl rfl hdg (key _ hty.2 hty.1 _ rfl)
    · cases hv
  · split at hv
    · rename_i hty
      cases hv
      obtain ⟨-, d2, d3, d4⟩ := c2.arr (a_aty_ge hty)
      exact W.last hx hb c1 (c2.isArr hKA hty) d2.1 (by rw [d3]; exact g1) rfl rfl hdg (key _ hty (n19 _ hty (by decide)) _ rfl)
    · cases hv
end AW4
