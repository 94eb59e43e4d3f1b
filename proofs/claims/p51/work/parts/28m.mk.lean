/-! The rows that multianewarray makes, at once -/
def t_refs (m : Nat) : Nat → Nat → Nat → List Value → List Value
  | 0, _, _, vs => vs
  | k + 1, i, b, vs => t_refs m k (i + 1) (b + m) (vs.set i (.ref b))
def t_mkS (g : Nat → List AC) (m : Nat) : Nat → Nat → List AC
  | 0, _ => []
  | k + 1, b => g b ++ t_mkS g m k (b + m)
def t_mkG : List FieldType → List Nat → Nat → List AC
  | ty :: tys, n :: n' :: ns, b => (a_atag ty, t_refs (t_mkG tys (n' :: ns) 0).length n 0 (b + 1) (List.replicate n (defaultValue ty))) :: t_mkS (t_mkG tys (n' :: ns)) (t_mkG tys (n' :: ns) 0).length n (b + 1)
  | ty :: _, [n], _ => [a_row ty n]
  | _, _, _ => []
theorem t_mkS_len {g : Nat → List AC} {m : Nat} (hg : ∀ b, (g b).length = m) : ∀ (k b c : Nat), (t_mkS g m k b).length = (t_mkS g m k c).length
  | 0, b, c => rfl
  | k + 1, b, c => by
    simp only [t_mkS, List.length_append, hg]
    rw [t_mkS_len hg k (b + m) (c + m)]
theorem t_mkG_len : ∀ (ns : List Nat) (tys : List FieldType) (b c : Nat), (t_mkG tys ns b).length = (t_mkG tys ns c).length
  | [], tys, b, c => by cases tys <;> rfl
  | [n], [], b, c => rfl
  | [n], ty :: tys, b, c => by cases tys <;> rfl
  | n :: n' :: ns, [], b, c => rfl
  | n :: n' :: ns, ty :: tys, b, c => by
    have h := t_mkS_len (g := t_mkG tys (n' :: ns)) (m := (t_mkG tys (n' :: ns) 0).length) (fun b => t_mkG_len (n' :: ns) tys b 0) n (b + 1) (c + 1)
    simp only [t_mkG, List.length_cons]
    rw [h]
theorem t_setR (H0 R : AH) (t : Nat) (vs : List Value) (i b : Nat) : a_setR (H0 ++ (t, vs) :: R) H0.length i b = H0 ++ (t, vs.set i (.ref b)) :: R := by
  unfold a_setR
  rw [List.getElem?_append_right (Nat.le_refl _), Nat.sub_self]
  show (H0 ++ (t, vs) :: R).set H0.length (t, vs.set i (.ref b)) = _
  rw [List.set_append_right _ _ (Nat.le_refl _), Nat.sub_self]
  rfl
theorem t_mkL {f : AH → AH} {g : Nat → List AC} {m : Nat} (hf : ∀ h, f h = h ++ g h.length) (hg : ∀ b, (g b).length = m) (H0 : AH) (t : Nat) : ∀ (k i : Nat) (vs : List Value) (R : AH), a_mkL f H0.length k i (H0 ++ (t, vs) :: R) = H0 ++ (t, t_refs m k i (H0 ++ (t, vs) :: R).length vs) :: (R ++ t_mkS g m k (H0 ++ (t, vs) :: R).length)
  | 0, i, vs, R => by simp [a_mkL, t_refs, t_mkS]
  | k + 1, i, vs, R => by
    have e1 : f (H0 ++ (t, vs) :: R) = H0 ++ (t, vs) :: (R ++ g (H0 ++ (t, vs) :: R).length) := by
      rw [hf, List.append_assoc]; rfl
    show a_mkL f H0.length k (i + 1) (a_setR (f (H0 ++ (t, vs) :: R)) H0.length i (H0 ++ (t, vs) :: R).length) = _
    rw [e1, t_setR, t_mkL hf hg H0 t k (i + 1)]
    have e2 : (H0 ++ (t, vs.set i (.ref (H0 ++ (t, vs) :: R).length)) :: (R ++ g (H0 ++ (t, vs) :: R).length)).length = (H0 ++ (t, vs) :: R).length + m := by
      simp only [List.length_append, List.length_cons, hg]
      omega
    rw [e2]
    show H0 ++ (t, t_refs m k (i + 1) _ _) :: _ = H0 ++ (t, t_refs m k (i + 1) _ _) :: (R ++ (g _ ++ t_mkS g m k _))
    rw [List.append_assoc]
theorem t_mkE : ∀ (ns : List Nat) (tys : List FieldType) (h : AH), a_mk tys ns h = h ++ t_mkG tys ns h.length
  | [], tys, h => by
    have e : a_mk tys [] h = h := by rcases tys with _ | ⟨_, _ | ⟨_, _⟩⟩ <;> rfl
    have e2 : ∀ b, t_mkG tys [] b = [] := fun b => by rcases tys with _ | ⟨_, _ | ⟨_, _⟩⟩ <;> rfl
    rw [e, e2, List.append_nil]
  | [n], [], h => (List.append_nil h).symm
  | [n], ty :: tys, h => by cases tys <;> rfl
  | n :: n' :: ns, [], h => (List.append_nil h).symm
  | n :: n' :: ns, ty :: tys, h => by
    show a_mkL (a_mk tys (n' :: ns)) h.length n 0 (h ++ [a_row ty n]) = _
    have hm := t_mkL (f := a_mk tys (n' :: ns)) (g := t_mkG tys (n' :: ns)) (m := (t_mkG tys (n' :: ns) 0).length) (fun h => t_mkE (n' :: ns) tys h) (fun b => t_mkG_len (n' :: ns) tys b 0) h (a_atag ty) n 0 (List.replicate n (defaultValue ty)) []
    refine hm.trans ?_
    have e : (h ++ [(a_atag ty, List.replicate n (defaultValue ty))]).length = h.length + 1 := by simp
    rw [e]
    rfl
def t_st6 (own : Nat) (i : Instr) (pc : Nat) (al : AL) (st : List Value) (h : AH) : Option AS := match i, st with
  | .multianewarray idx 2, .int k :: .int n :: st => match a_mty own idx with
    | some t => if a_tys (a_comps t) [n.toNatClampNeg, k.toNatClampNeg] = true ∧ ¬ n < 0 ∧ ¬ k < 0 then some (pc + 4, al, .ref h.length :: st, h ++ t_mkG (a_comps t) [n.toNatClampNeg, k.toNatClampNeg] h.length, a_mkC [n.toNatClampNeg, k.toNatClampNeg], a_mkS [n.toNatClampNeg, k.toNatClampNeg]) else none
    | none => none
  | .multianewarray idx 3, .int k :: .int o :: .int n :: st => match a_mty own idx with
    | some t => if a_tys (a_comps t) [n.toNatClampNeg, o.toNatClampNeg, k.toNatClampNeg] = true ∧ ¬ n < 0 ∧ ¬ o < 0 ∧ ¬ k < 0 then some (pc + 4, al, .ref h.length :: st, h ++ t_mkG (a_comps t) [n.toNatClampNeg, o.toNatClampNeg, k.toNatClampNeg] h.length, a_mkC [n.toNatClampNeg, o.toNatClampNeg, k.toNatClampNeg], a_mkS [n.toNatClampNeg, o.toNatClampNeg, k.toNatClampNeg]) else none
    | none => none
  | _, _ => none
theorem t_st6_eq {own : Nat} {i : Instr} {pc : Nat} {al : AL} {st : List Value} {h : AH} {r : AS} (hr : t_st6 own i pc al st h = some r) : a_st6 own i pc al st h = some r := by
  unfold t_st6 at hr
  split at hr
  · simp only [← t_mkE] at hr
    exact hr
  · simp only [← t_mkE] at hr
    exact hr
  · cases hr
