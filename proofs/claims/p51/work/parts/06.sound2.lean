section AW2
variable {p : Program} {l : Launch} {e : Env} {R : Room} {s : State} {m : MethodId} {args : Array Value} {below : List Frame} {meth : Method} {c : Code} {H : Heap} {locs : List Loc} {cells slots : Nat} {Q : State → Prop} {cc : ByteArray} {pc : Nat} {ls : Array Slot} {rest : List Value} {i : Instr}
theorem a_bin_ok (hx : p.tables.exec = Jvm.exec) (hb : c.code = cc) (hdg : decode cc pc = .ok (i, a_len i)) {x y v : Int32} (h : a_bin i x y = some v) (k : W p l e R s m args below meth c H locs cells slots Q (F0 m (pc + 1) ls (.int v :: rest))) : W p l e R s m args below meth c H locs cells slots Q (F0 m pc ls (.int y :: .int x :: rest)) := by
  cases i <;> simp only [a_bin] at h <;> (try (cases h; done))
  · cases h; exact lv_iadd hx hb hdg k
  · cases h; exact lv_iand hx hb hdg k
  · split at h
    · cases h
    · rename_i hn; cases h; exact lv_idiv hx hb hdg hn k
  · cases h; exact lv_imul hx hb hdg k
  · cases h; exact lv_ior hx hb hdg k
  · split at h
    · cases h
    · rename_i hn; cases h; exact lv_irem hx hb hdg hn k
  · cases h; exact lv_isub hx hb hdg k
  · cases h; exact lv_iushr hx hb hdg rfl k
  · cases h; exact lv_ixor hx hb hdg k
/-- arithmetic: the machine does the same, heap and locals stay -/
theorem a_st2_ok (hx : p.tables.exec = Jvm.exec) (hb : c.code = cc) (hdg : decode cc pc = .ok (i, a_len i)) {ad : Nat → Nat} {al : AL} {st : List Value} {h : AH} {r : AS} (hr : a_st2 i pc al st h = some r)
    (kk : r.2.2.2 = (h, 0, 0) → r.2.1 = al → W p l e R s m args below meth c H locs cells slots Q (F0 m r.1 ls (r.2.2.1.map (a_ren ad)))) : W p l e R s m args below meth c H locs cells slots Q (F0 m pc ls (st.map (a_ren ad))) := by
  unfold a_st2 at hr
  split at hr
  · cases hr; exact lv_i2l hx hb hdg rfl (kk rfl rfl)
  · cases hr; exact lv_i2c hx hb hdg rfl (kk rfl rfl)
  · cases hr; exact lv_i2f hx hb hdg (kk rfl rfl)
  · cases hr; exact lv_i2d hx hb hdg (kk rfl rfl)
  · split at hr
    · rename_i hn; cases hr; exact lv_f2d hx hb hdg hn (kk rfl rfl)
    · cases hr
  · cases hr; exact lv_ladd hx hb hdg (kk rfl rfl)
  · cases hr; exact lv_lmul hx hb hdg (kk rfl rfl)
  · cases hr; exact W.lcmp hx hb hdg (kk rfl rfl)
  · split at hr
    · rename_i hn; cases hr; exact lv_fdiv hx hb hdg hn (kk rfl rfl)
    · cases hr
  · split at hr
    · rename_i hn; cases hr; exact lv_ddiv hx hb hdg hn (kk rfl rfl)
    · cases hr
  · cases hr; exact lv_fcmp hx hb hdg (kk rfl rfl)
  · cases hr; exact lv_dcmp hx hb hdg (kk rfl rfl)
  · rw [Option.map_eq_some_iff] at hr
    obtain ⟨v, h1, rfl⟩ := hr
    exact a_bin_ok hx hb hdg h1 (kk rfl rfl)
  · cases hr
end AW2
/-! the heap -/
/-- the classes' numbers and slots, the array classes' numbers by their tags -/
abbrev AD : Type := (Nat → ClassId) × (Nat → Nat → Nat) × (Nat → ClassId)
def a_C (D : AD) (ad : Nat → Nat) (x : AC) (cell : Cell) : Prop :=
  if x.1 < 19 then cell.cls = D.1 x.1 ∧ cell.vm = .none ∧ x.2.length = a_cl x.1 ∧ ∀ (k : Nat) (v : Value), x.2[k]? = some v → cell.slots[D.2.1 x.1 k]? = some (a_ren ad v)
  else cell.cls = D.2.2 x.1 ∧ (cell.vm ≠ .unknown ∧ ∀ q, cell.vm ≠ .statics q) ∧ cell.slots.size = x.2.length ∧ ∀ (k : Nat) (v : Value), x.2[k]? = some v → cell.slots[k]? = some (a_ren ad v)
/-- the heap H holds the abstract heap h at the addresses ad; all but the script lie from B on -/
def a_H (D : AD) (B : Nat) (ad : Nat → Nat) (h : AH) (H : Heap) : Prop :=
  (∀ (k : Nat) (x : AC), h[k]? = some x → ∃ cell : Cell, H[ad k]? = some cell ∧ a_C D ad x cell) ∧
  (∀ j k : Nat, j < h.length → k < h.length → ad j = ad k → j = k) ∧
  ∀ (k : Nat) (x : AC), h[k]? = some x → x.1 ≠ 19 → B ≤ ad k
theorem a_C.arr {D : AD} {ad : Nat → Nat} {x : AC} {cell : Cell} (h : a_C D ad x cell) (ht : 19 ≤ x.1) : cell.cls = D.2.2 x.1 ∧ (cell.vm ≠ .unknown ∧ ∀ q, cell.vm ≠ .statics q) ∧ cell.slots.size = x.2.length ∧ ∀ (k : Nat) (v : Value), x.2[k]? = some v → cell.slots[k]? = some (a_ren ad v) := by
  unfold a_C at h
  rw [if_neg (by omega)] at h
  exact h
theorem a_C.obj {D : AD} {ad : Nat → Nat} {x : AC} {cell : Cell} (h : a_C D ad x cell) (ht : x.1 < 19) : cell.cls = D.1 x.1 ∧ cell.vm = .none ∧ x.2.length = a_cl x.1 ∧ ∀ (k : Nat) (v : Value), x.2[k]? = some v → cell.slots[D.2.1 x.1 k]? = some (a_ren ad v) := by
  unfold a_C at h
  rw [if_pos ht] at h
  exact h
/-- what the tables say of the array classes -/
def a_KA (D : AD) (U : State) : Prop := ∀ (t : Nat) (ty : FieldType), a_aty t = some ty → ∃ (kA : Class) (comp : ClassId), U.vm.classes[D.2.2 t]? = some kA ∧ kA.kind = .array comp ty
theorem a_aty_ge {t : Nat} {ty : FieldType} (h : a_aty t = some ty) : 19 ≤ t := by
  unfold a_aty at h
  split at h
  · cases h
  · omega
theorem a_C.isArr {D : AD} {ad : Nat → Nat} {x : AC} {cell : Cell} {U : State} {ty : FieldType} (hK : a_KA D U) (h : a_C D ad x cell) (ht : a_aty x.1 = some ty) : U.isArrayOf cell ty := by
  obtain ⟨h1, h2, -⟩ := h.arr (a_aty_ge ht)
  obtain ⟨kA, comp, h3, h4⟩ := hK _ _ ht
  exact ⟨h2.2, kA, by rw [h1]; exact h3, comp, h4⟩
theorem a_ix_ok {j : Int32} {n k : Nat} (h : a_ix j n = some k) : ¬ (j < 0 ∨ n ≤ j.toNatClampNeg) ∧ j.toNatClampNeg = k ∧ k < n := by
  unfold a_ix at h
  split at h
  · cases h
  · rename_i h1
    cases h
    exact ⟨h1, rfl, by omega⟩
