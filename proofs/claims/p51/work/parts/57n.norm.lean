/-! A value, or what is known, worked out before it is handed on (the kernel works out nothing that isn't asked for) -/
section NF
variable {α β : Type}
def f_n (n : Nat) (k : Nat → β) : β := match n with
  | 0 => k 0
  | Nat.succ m => k (Nat.succ m)
def f_z (z : Int) (k : Int → β) : β := match z with
  | .ofNat n => f_n n fun n => k (.ofNat n)
  | .negSucc n => f_n n fun n => k (.negSucc n)
def f_b (b : Nat × Nat × Int) (k : (Nat × Nat × Int) → β) : β := match b with
  | (x, y, w) => f_n x fun x => f_n y fun y => f_z w fun w => k (x, y, w)
def f_q (b : Nat × Int × Int) (k : (Nat × Int × Int) → β) : β := match b with
  | (x, y, w) => f_n x fun x => f_z y fun y => f_z w fun w => k (x, y, w)
def f_w (b : Nat × Nat) (k : (Nat × Nat) → β) : β := match b with
  | (x, y) => f_n x fun x => f_n y fun y => k (x, y)
def f_l (f : α → (α → β) → β) : List α → (List α → β) → β
  | [], k => k []
  | a :: l, k => f a fun a => f_l f l fun l => k (a :: l)
def f_o (b : Option (Nat × Nat × Int)) (k : Option (Nat × Nat × Int) → β) : β := match b with
  | none => k none
  | some b => f_b b fun b => k (some b)
def f_f (f : BV × BV × BV) (k : (BV × BV × BV) → β) : β := match f with
  | (x, y, w) => f_b x fun x => f_b y fun y => f_b w fun w => k (x, y, w)
def f_op (f : Nat × BV × BV × BV) (k : (Nat × BV × BV × BV) → β) : β := match f with
  | (n, x, y, w) => f_n n fun n => f_b x fun x => f_b y fun y => f_b w fun w => k (n, x, y, w)
def f_G (G : BG) (k : BG → β) : β := match G with
  | (E, F, C, O, W) => f_l f_q E fun E => f_l f_f F fun F => f_l f_b C fun C => f_l f_op O fun O => f_l f_w W fun W => k (E, F, C, O, W)
theorem f_n_eq (n : Nat) (k : Nat → β) : f_n n k = k n := by cases n <;> rfl
theorem f_z_eq (z : Int) (k : Int → β) : f_z z k = k z := by cases z <;> simp only [f_z, f_n_eq]
theorem f_b_eq (b : Nat × Nat × Int) (k : (Nat × Nat × Int) → β) : f_b b k = k b := by
  obtain ⟨x, y, w⟩ := b
  simp only [f_b, f_n_eq, f_z_eq]
theorem f_q_eq (b : Nat × Int × Int) (k : (Nat × Int × Int) → β) : f_q b k = k b := by
  obtain ⟨x, y, w⟩ := b
  simp only [f_q, f_n_eq, f_z_eq]
theorem f_w_eq (b : Nat × Nat) (k : (Nat × Nat) → β) : f_w b k = k b := by
  obtain ⟨x, y⟩ := b
  simp only [f_w, f_n_eq]
theorem f_l_eq {f : α → (α → β) → β} (hf : ∀ a k, f a k = k a) : ∀ (l : List α) (k : List α → β), f_l f l k = k l
  | [], k => rfl
  | a :: l, k => by rw [f_l, hf, f_l_eq hf l]
theorem f_o_eq (b : Option (Nat × Nat × Int)) (k : Option (Nat × Nat × Int) → β) : f_o b k = k b := by
  cases b with
  | none => rfl
  | some b => simp only [f_o, f_b_eq]
theorem f_f_eq (f : BV × BV × BV) (k : (BV × BV × BV) → β) : f_f f k = k f := by
  obtain ⟨x, y, w⟩ := f
  simp only [f_f, f_b_eq]
theorem f_op_eq (f : Nat × BV × BV × BV) (k : (Nat × BV × BV × BV) → β) : f_op f k = k f := by
  obtain ⟨n, x, y, w⟩ := f
  simp only [f_op, f_n_eq, f_b_eq]
theorem f_G_eq (G : BG) (k : BG → β) : f_G G k = k G := by
  obtain ⟨E, F, C, O, W⟩ := G
  simp only [f_G, f_l_eq f_q_eq, f_l_eq f_f_eq, f_l_eq f_b_eq, f_l_eq f_op_eq, f_l_eq f_w_eq]
/-- the instructions that change nothing of what is known -/
def b_pure (i : Instr) : Bool := match i with
  | .iconst _ | .bipush _ | .sipush _ | .lconst _ | .fconst _ | .dconst _ => true
  | .iload _ | .iload_n _ | .lload _ | .lload_n _ | .fload _ | .dload _ | .aload _ | .aload_n _ => true
  | .goto _ | .dup | .dup2 | .pop | .ldc _ | .ldc_w _ | .ldc2_w _ => true
  | _ => false
def b_nrm (i : Instr) (o : BZ) (k : Nat → BL → List BV → BG → β) : β := f_n o.1 fun pc => match b_pure i with
  | true => f_l f_b o.2.2.1 fun bs => k pc o.2.1 bs o.2.2.2
  | false => f_l f_o o.2.1 fun bl => f_l f_b o.2.2.1 fun bs => f_G o.2.2.2 fun G => k pc bl bs G
theorem b_nrm_eq (i : Instr) (o : BZ) (k : Nat → BL → List BV → BG → β) : b_nrm i o k = k o.1 o.2.1 o.2.2.1 o.2.2.2 := by
  unfold b_nrm
  rw [f_n_eq]
  split
  · rw [f_l_eq f_b_eq]
  · rw [f_l_eq f_o_eq, f_l_eq f_b_eq, f_G_eq]
end NF
