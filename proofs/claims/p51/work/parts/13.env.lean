/-! What holds of the tables, the texts and Throwable's statics all along a run -/
def a_exN (k : Nat) : String := a_exc.getD k ""
/-- the array classes by name, with their components -/
def a_KN (D : AD) (U : State) : Prop := ∀ (t : Nat) (ty : FieldType), 20 ≤ t → a_aty t = some ty → U.vm.findClass ("[" ++ ty.toString) = some (D.2.2 t) ∧ ∃ (kA : Class) (comp : ClassId), U.vm.classes[D.2.2 t]? = some kA ∧ kA.kind = .array comp ty ∧ (∀ C, ty = .object C → U.vm.findClass C = some comp) ∧ ∀ t', ty = .array t' → U.vm.findClass ("[" ++ t'.toString) = some comp
/-- words that aren't good, but stay -/
def a_ng (w : Cond) : Bool := match w with
  | .declares _ => true
  | .castable .. => true
  | .methodLinkNest .. => true
  | _ => false
theorem a_ng_warm {w : Cond} {s U : State} (hW : s.WarmedH U.vm) (hw : a_ng w = true) (h : va_Nw w s) : va_Nw w U := by
  cases w <;> first
    | exact va_Nw.warmD hW h
    | exact va_Nw.warmC hW h
    | exact va_Nw.warmM hW h
    | cases hw
def a_objs : List String := ["Juryreel$Film", "Juryreel$Show", "Juryreel$Juror", "Juryreel$Section"]
def a_KW (U : State) : Prop := (∀ w ∈ lw_tbl, a_ng w = true → va_Nw w U) ∧ ∀ C ∈ a_objs, va_AO C U
/-- exceptions of which one is no other -/
def a_ncs : List (String × String) := ((a_exc.take 5).flatMap fun E => (a_exc.take 5).map fun T => (E, T)).filter (fun q => !(q.1 == q.2))
def a_KX (U : State) : Prop := ∀ q ∈ a_ncs, va_Nc q.1 q.2 U
abbrev AT : Type := Nat × Nat × Nat × Nat × Nat × Bool × Nat × Nat × String × (Nat × Nat) × (Nat × Nat)
def a_KS (U : State) : Prop := ∀ r ∈ a_thr, ∃ sa, vk_R (a_cN r.2.2.1) r.2.2.2.2.1 r.2.2.2.2.2.2.2.2.1 sa U
def a_KZ (B : Nat) (U : State) : Prop := vx_Zq Bundle.tN "UNASSIGNED_STACK" Bundle.steD (fun q => B ≤ q) U U.heap ∧ vx_Zq Bundle.tN "SUPPRESSED_SENTINEL" Bundle.listD (fun q => B ≤ q) U U.heap
def a_K (D : AD) (B : Nat) (U : State) : Prop := a_KC D U ∧ a_KA D U ∧ a_KN D U ∧ a_KW U ∧ a_KX U ∧ a_KS U ∧ a_KZ B U
theorem a_K.go {D : AD} {B : Nat} {s U : State} (hW : s.WarmedH U.vm) (hq : ∀ q : Nat, q < s.heap.size → ¬ B ≤ q → U.heap[q]? = s.heap[q]?) (h : a_K D B s) : a_K D B U := by
  obtain ⟨h1, h2, h3, h4, h5, h6, h7⟩ := h
  have hvm := hW.alike
  refine ⟨fun c hc => u_Kn_moved hvm (h1 c hc), fun t ty ht => ?_, fun t ty h20 ht => ?_, ⟨fun w hw g => a_ng_warm hW g (h4.1 w hw g), fun C hC => va_AO.moved hvm (h4.2 C hC)⟩, fun q hq => va_Nc.moved hvm (h5 q hq), fun r hr => ?_, (vx_Zq.moved hvm h7.1).kept hq, (vx_Zq.moved hvm h7.2).kept hq⟩
  · obtain ⟨kA, comp, g1, g2⟩ := h2 t ty ht
    obtain ⟨k', hk', he⟩ := hvm.2.2 _ _ g1
    exact ⟨k', comp, hk', by rw [he]; exact g2⟩
  · obtain ⟨g0, kA, comp, g1, g2, g3, g4⟩ := h3 t ty h20 ht
    obtain ⟨k', hk', he⟩ := hvm.2.2 _ _ g1
    exact ⟨by rw [hvm.findClass]; exact g0, k', comp, hk', by rw [he]; exact g2, fun C hC => by rw [hvm.findClass]; exact g3 C hC, fun t' hC => by rw [hvm.findClass]; exact g4 t' hC⟩
  · obtain ⟨sa, hsa⟩ := h6 r hr
    exact ⟨sa, vk_R.warm hW hsa⟩
theorem a_K.calling {D : AD} {B : Nat} {U : State} {g : JFrame} {mk : MethodId} {a : Array Value} (h : a_K D B U) : a_K D B (U.calling g mk a) := a_K.go (s := U) (U := U.calling g mk a) (State.WarmedH.refl U) (fun _ _ _ => rfl) h
/-! Addresses of new cells -/
def a_up (ad : Nat → Nat) (n q : Nat) : Nat → Nat := fun k => if k = n then q else ad k
theorem a_up_lt {ad : Nat → Nat} {n q k : Nat} (h : k < n) : a_up ad n q k = ad k := if_neg (Nat.ne_of_lt h)
theorem a_up_n {ad : Nat → Nat} {n q : Nat} : a_up ad n q n = q := if_pos rfl
/-- two maps that say the same below n -/
def a_same (n : Nat) (ad ad' : Nat → Nat) : Prop := ∀ k, k < n → ad' k = ad k
theorem a_same.rf {n : Nat} {ad : Nat → Nat} : a_same n ad ad := fun _ _ => rfl
theorem a_same.tr {n m : Nat} {ad ad' ad'' : Nat → Nat} (h : a_same n ad ad') (h2 : a_same m ad' ad'') (hm : n ≤ m) : a_same n ad ad'' := fun k hk => (h2 k (Nat.lt_of_lt_of_le hk hm)).trans (h k hk)
theorem a_ren_same {n : Nat} {ad ad' : Nat → Nat} {v : Value} (h : a_same n ad ad') (hv : a_ok n v) : a_ren ad' v = a_ren ad v := by
  cases v <;> first | rfl | (show Value.ref _ = Value.ref _; rw [h _ (hv _ rfl)])
theorem a_map_same {n : Nat} {ad ad' : Nat → Nat} {st : List Value} (h : a_same n ad ad') (hv : ∀ v, v ∈ st → a_ok n v) : st.map (a_ren ad') = st.map (a_ren ad) := List.map_congr_left fun v hm => a_ren_same h (hv v hm)
theorem a_L.same {n : Nat} {ad ad' : Nat → Nat} {al : AL} {ls : Array Slot} (h : a_same n ad ad') (hv : ∀ (i : Nat) (v : Value), a_get al i = some v → a_ok n v) (hl : a_L ad al ls) : a_L ad' al ls := ⟨hl.1, hl.2.1, fun i v hi => by rw [a_ren_same h (hv i v hi)]; exact hl.2.2 i v hi⟩
theorem a_C.same {D : AD} {n : Nat} {ad ad' : Nat → Nat} {x : AC} {cell : Cell} (h : a_same n ad ad') (hv : ∀ v, v ∈ x.2 → a_ok n v) (hc : a_C D ad x cell) : a_C D ad' x cell := by
  unfold a_C at hc ⊢
  split
  · rename_i ht
    rw [if_pos ht] at hc
    exact ⟨hc.1, hc.2.1, hc.2.2.1, fun k v hk => by rw [a_ren_same h (hv v (List.mem_of_getElem? hk))]; exact hc.2.2.2 k v hk⟩
  · rename_i ht
    rw [if_neg ht] at hc
    exact ⟨hc.1, hc.2.1, hc.2.2.1, fun k v hk => by rw [a_ren_same h (hv v (List.mem_of_getElem? hk))]; exact hc.2.2.2 k v hk⟩
theorem a_H.lt {D : AD} {B : Nat} {ad : Nat → Nat} {h : AH} {H : Heap} (hH : a_H D B ad h H) {k : Nat} (hk : k < h.length) : ad k < H.size := by
  obtain ⟨cell, c1, -⟩ := hH.1 k _ (List.getElem?_eq_getElem hk)
  exact (Array.getElem?_eq_some_iff.mp c1).1
/-- the whole heap's references lie in it -/
def a_wh (h : AH) : Prop := ∀ (k : Nat) (x : AC), h[k]? = some x → ∀ v, v ∈ x.2 → a_ok h.length v
theorem a_H.push {D : AD} {B : Nat} {ad : Nat → Nat} {h : AH} {H H' : Heap} {x : AC} {cell : Cell} (hH : a_H D B ad h H) (w : a_wh h) (hB : B ≤ H.size) (hx : ∀ v, v ∈ x.2 → a_ok h.length v) (hc : a_C D ad x cell) (e1 : H'[H.size]? = some cell) (e3 : ∀ q, q < H.size → H'[q]? = H[q]?) : a_H D B (a_up ad h.length H.size) (h ++ [x]) H' := by
  have hs : a_same h.length ad (a_up ad h.length H.size) := fun k hk => a_up_lt hk
  have split : ∀ {k : Nat} {y : AC}, (h ++ [x])[k]? = some y → (k < h.length ∧ h[k]? = some y) ∨ (k = h.length ∧ y = x) := by
    intro k y hk
    rcases Nat.lt_or_ge k h.length with q | q
    · rw [List.getElem?_append_left q] at hk
      exact Or.inl ⟨q, hk⟩
    · rw [List.getElem?_append_right q] at hk
      have h1 := (List.getElem?_eq_some_iff.mp hk).1
      simp only [List.length_singleton] at h1
      have h2 : k = h.length := by omega
      subst h2
      rw [Nat.sub_self] at hk
      cases hk
      exact Or.inr ⟨rfl, rfl⟩
  refine ⟨fun k y hk => ?_, fun j k hj hk e => ?_, fun k y hk ht => ?_⟩
  · rcases split hk with ⟨q, hq⟩ | ⟨rfl, rfl⟩
    · obtain ⟨c1, g1, g2⟩ := hH.1 k y hq
      exact ⟨c1, by rw [a_up_lt q, e3 _ (hH.lt q)]; exact g1, g2.same hs (w k y hq)⟩
    · exact ⟨cell, by rw [a_up_n]; exact e1, hc.same hs hx⟩
  · rw [List.length_append, List.length_singleton] at hj hk
    rcases Nat.lt_or_ge j h.length with q1 | q1 <;> rcases Nat.lt_or_ge k h.length with q2 | q2
    · rw [a_up_lt q1, a_up_lt q2] at e
      exact hH.2.1 j k q1 q2 e
    · have h2 : k = h.length := by omega
      subst h2
      rw [a_up_lt q1, a_up_n] at e
      exact absurd e (Nat.ne_of_lt (hH.lt q1))
    · have h2 : j = h.length := by omega
      subst h2
      rw [a_up_lt q2, a_up_n] at e
      exact absurd e.symm (Nat.ne_of_lt (hH.lt q2))
    · omega
  · rcases split hk with ⟨q, hq⟩ | ⟨rfl, rfl⟩
    · rw [a_up_lt q]
      exact hH.2.2 k y hq ht
    · rw [a_up_n]
      exact hB
theorem a_wf.push1 {al : AL} {st : List Value} {h : AH} {x : AC} (w : a_wf al st h) (hx : ∀ v, v ∈ x.2 → a_ok h.length v) : a_wf al st (h ++ [x]) := by
  have hm : h.length ≤ (h ++ [x]).length := by rw [List.length_append]; omega
  refine ⟨fun i v hi => a_ok_mono hm (w.1 i v hi), fun v hv => a_ok_mono hm (w.2.1 v hv), fun k y hk v hv => a_ok_mono hm ?_⟩
  rcases Nat.lt_or_ge k h.length with q | q
  · rw [List.getElem?_append_left q] at hk
    exact w.2.2 k y hk v hv
  · rw [List.getElem?_append_right q] at hk
    have h1 := (List.getElem?_eq_some_iff.mp hk).1
    simp only [List.length_singleton] at h1
    rw [show k - h.length = 0 by omega] at hk
    cases hk
    exact hx v hv
theorem a_ok_def {n : Nat} {ty : FieldType} : a_ok n (defaultValue ty) := by
  intro k hk
  cases ty <;> cases hk
theorem a_cl_obj (c : Nat) : (a_obj c).2.length = a_cl c := by simp [a_obj]
theorem a_ren_def {ad : Nat → Nat} {ty : FieldType} : a_ren ad (defaultValue ty) = defaultValue ty := by cases ty <;> rfl
