/-! The bytes of an instruction, and a walk over a method by them (wip/g3/fastdec.py) -/
def f_u2 (n : Nat) : List Nat := [n / 256, n % 256]
def f_s2 (z : Int) : List Nat := f_u2 (z % 65536).toNat
def f_in (z a b : Int) (l : List Nat) : List Nat := if decide (a ≤ z) && decide (z ≤ b) then l else []
def f_code (i : Instr) : List Nat := match i with
  | .iaload => [46]
  | .laload => [47]
  | .aaload => [50]
  | .baload => [51]
  | .caload => [52]
  | .iastore => [79]
  | .lastore => [80]
  | .dastore => [82]
  | .aastore => [83]
  | .bastore => [84]
  | .castore => [85]
  | .pop => [87]
  | .pop2 => [88]
  | .dup => [89]
  | .dup2 => [92]
  | .iadd => [96]
  | .ladd => [97]
  | .isub => [100]
  | .imul => [104]
  | .lmul => [105]
  | .idiv => [108]
  | .fdiv => [110]
  | .ddiv => [111]
  | .irem => [112]
  | .iand => [126]
  | .ior => [128]
  | .i2l => [133]
  | .i2f => [134]
  | .i2d => [135]
  | .f2d => [141]
  | .i2c => [146]
  | .lcmp => [148]
  | .ireturn => [172]
  | .lreturn => [173]
  | .freturn => [174]
  | .dreturn => [175]
  | .return_ => [177]
  | .arraylength => [190]
  | .athrow => [191]
  | .ldc n => [18, n]
  | .iload n => [21, n]
  | .lload n => [22, n]
  | .fload n => [23, n]
  | .dload n => [24, n]
  | .aload n => [25, n]
  | .istore n => [54, n]
  | .lstore n => [55, n]
  | .fstore n => [56, n]
  | .dstore n => [57, n]
  | .astore n => [58, n]
  | .ldc_w n => 19 :: f_u2 n
  | .ldc2_w n => 20 :: f_u2 n
  | .getfield n => 180 :: f_u2 n
  | .putfield n => 181 :: f_u2 n
  | .invokevirtual n => 182 :: f_u2 n
  | .invokespecial n => 183 :: f_u2 n
  | .invokestatic n => 184 :: f_u2 n
  | .new n => 187 :: f_u2 n
  | .anewarray n => 189 :: f_u2 n
  | .iload_n n => [26 + n.val]
  | .lload_n n => [30 + n.val]
  | .aload_n n => [42 + n.val]
  | .istore_n n => [59 + n.val]
  | .lstore_n n => [63 + n.val]
  | .astore_n n => [75 + n.val]
  | .lconst n => [9 + n.val]
  | .dconst n => [14 + n.val]
  | .fconst n => [11 + n.val]
  | .iconst z => f_in z (-1) 5 [(z + 3).toNat]
  | .bipush z => f_in z (-128) 127 [16, (z % 256).toNat]
  | .sipush z => f_in z (-32768) 32767 (17 :: f_s2 z)
  | .iinc n z => f_in z (-128) 127 [132, n, (z % 256).toNat]
  | .goto z => f_in z (-32768) 32767 (167 :: f_s2 z)
  | .ifCond .eq z => f_in z (-32768) 32767 (153 :: f_s2 z)
  | .ifCond .ne z => f_in z (-32768) 32767 (154 :: f_s2 z)
  | .ifCond .lt z => f_in z (-32768) 32767 (155 :: f_s2 z)
  | .ifCond .ge z => f_in z (-32768) 32767 (156 :: f_s2 z)
  | .ifCond .gt z => f_in z (-32768) 32767 (157 :: f_s2 z)
  | .ifCond .le z => f_in z (-32768) 32767 (158 :: f_s2 z)
  | .if_icmp .eq z => f_in z (-32768) 32767 (159 :: f_s2 z)
  | .if_icmp .ne z => f_in z (-32768) 32767 (160 :: f_s2 z)
  | .if_icmp .lt z => f_in z (-32768) 32767 (161 :: f_s2 z)
  | .if_icmp .ge z => f_in z (-32768) 32767 (162 :: f_s2 z)
  | .if_icmp .gt z => f_in z (-32768) 32767 (163 :: f_s2 z)
  | .if_icmp .le z => f_in z (-32768) 32767 (164 :: f_s2 z)
  | .if_acmp .eq z => f_in z (-32768) 32767 (165 :: f_s2 z)
  | .if_acmp .ne z => f_in z (-32768) 32767 (166 :: f_s2 z)
  | _ => []
/-- a byte of a method -/
def f_B (c : ByteArray) (p b : Nat) : Prop := ∃ h : p < c.size, (c[p]'h).toNat = b
section FD
variable {c : ByteArray} {p q a b : Nat}
theorem f_bind {α β : Type} {r : Jvm.ClassFile.Decoder α} {k : α → Jvm.ClassFile.Decoder β} {x : α} (h : r c p = .ok (x, q)) : (r >>= k) c p = k x c q := by
  show Except.bind (r c p) _ = _
  rw [h]
  rfl
theorem f_map {α β : Type} {r : Jvm.ClassFile.Decoder α} {k : α → β} {x : α} (h : r c p = .ok (x, q)) : (k <$> r : Jvm.ClassFile.Decoder β) c p = .ok (k x, q) := by
  first
    | (show Except.bind (r c p) _ = _; rw [h]; rfl)
    | (show Except.map _ (r c p) = _; rw [h]; rfl)
theorem f_u1 (h : f_B c p b) : (Jvm.ClassFile.Reader.u1 : Jvm.ClassFile.Decoder Nat) c p = .ok (b, p + 1) := by
  obtain ⟨h, e⟩ := h
  unfold Jvm.ClassFile.Reader.u1
  show (dite (p < c.size) _ _ : Jvm.ClassFile.Decoder Nat) c p = _
  rw [dif_pos h]
  show Except.ok ((c[p]'h).toNat, p + 1) = _
  rw [e]
theorem f_u2r (h : f_B c p a) (g : f_B c (p + 1) b) : (Jvm.ClassFile.Reader.u2 : Jvm.ClassFile.Decoder Nat) c p = .ok (a * 256 + b, p + 2) := by
  unfold Jvm.ClassFile.Reader.u2
  rw [f_bind (f_u1 h), f_bind (f_u1 g)]
  rfl
theorem f_s1r (h : f_B c p b) : (Jvm.ClassFile.Reader.s1 : Jvm.ClassFile.Decoder Int) c p = .ok (Jvm.ClassFile.Reader.signed 8 b, p + 1) := f_map (f_u1 h)
theorem f_s2r (h : f_B c p a) (g : f_B c (p + 1) b) : (Jvm.ClassFile.Reader.s2 : Jvm.ClassFile.Decoder Int) c p = .ok (Jvm.ClassFile.Reader.signed 16 (a * 256 + b), p + 2) := f_map (f_u2r h g)
theorem f_fin {i : Instr} {n : Nat} (h : (Jvm.ClassFile.Decoder.instr p) c p = .ok (i, p + n)) : decode c p = .ok (i, n) := by
  unfold decode
  show Except.bind ((Jvm.ClassFile.Decoder.instr p) c p) _ = _
  rw [h]
  show Except.ok (i, p + n - p) = _
  rw [Nat.add_sub_cancel_left]
theorem f_sg8 {z : Int} (h1 : -128 ≤ z) (h2 : z ≤ 127) : Jvm.ClassFile.Reader.signed 8 (z % 256).toNat = z := by
  unfold Jvm.ClassFile.Reader.signed
  split <;> rename_i e <;> simp only [Nat.reducePow, Nat.reduceSub] at e ⊢ <;> omega
theorem f_sg16 {z : Int} (h1 : -32768 ≤ z) (h2 : z ≤ 32767) : Jvm.ClassFile.Reader.signed 16 ((z % 65536).toNat / 256 * 256 + (z % 65536).toNat % 256) = z := by
  unfold Jvm.ClassFile.Reader.signed
  split <;> rename_i e <;> simp only [Nat.reducePow, Nat.reduceSub] at e ⊢ <;> omega
/-- the bytes from a place on -/
def f_W (c : ByteArray) (p : Nat) (l : List Nat) : Prop := ∀ k b, l[k]? = some b → f_B c (p + k) b
theorem f_W.c0 {l : List Nat} (h : f_W c p (b :: l)) : f_B c p b := h 0 b rfl
theorem f_W.c1 {l : List Nat} (h : f_W c p (a :: b :: l)) : f_B c (p + 1) b := h 1 b rfl
theorem f_W.c2 {x : Nat} {l : List Nat} (h : f_W c p (a :: b :: x :: l)) : f_B c (p + 2) x := h 2 x rfl
theorem f_inT {z x y : Int} {l : List Nat} (h : f_in z x y l ≠ []) : (x ≤ z ∧ z ≤ y) ∧ f_in z x y l = l := by
  unfold f_in at h ⊢
  split at h
  · rename_i e
    rw [if_pos e]
    rw [Bool.and_eq_true, decide_eq_true_eq, decide_eq_true_eq] at e
    exact ⟨e, rfl⟩
  · exact absurd rfl h
set_option maxRecDepth 100000 in
theorem f_d46 (h : f_B c p 46) : decode c p = .ok (.iaload, 1) := f_fin (by unfold Jvm.ClassFile.Decoder.instr; rw [f_bind (f_u1 h)]; rfl)
set_option maxRecDepth 100000 in
theorem f_d47 (h : f_B c p 47) : decode c p = .ok (.laload, 1) := f_fin (by unfold Jvm.ClassFile.Decoder.instr; rw [f_bind (f_u1 h)]; rfl)
set_option maxRecDepth 100000 in
theorem f_d50 (h : f_B c p 50) : decode c p = .ok (.aaload, 1) := f_fin (by unfold Jvm.ClassFile.Decoder.instr; rw [f_bind (f_u1 h)]; rfl)
set_option maxRecDepth 100000 in
theorem f_d51 (h : f_B c p 51) : decode c p = .ok (.baload, 1) := f_fin (by unfold Jvm.ClassFile.Decoder.instr; rw [f_bind (f_u1 h)]; rfl)
set_option maxRecDepth 100000 in
theorem f_d52 (h : f_B c p 52) : decode c p = .ok (.caload, 1) := f_fin (by unfold Jvm.ClassFile.Decoder.instr; rw [f_bind (f_u1 h)]; rfl)
set_option maxRecDepth 100000 in
theorem f_d79 (h : f_B c p 79) : decode c p = .ok (.iastore, 1) := f_fin (by unfold Jvm.ClassFile.Decoder.instr; rw [f_bind (f_u1 h)]; rfl)
set_option maxRecDepth 100000 in
theorem f_d80 (h : f_B c p 80) : decode c p = .ok (.lastore, 1) := f_fin (by unfold Jvm.ClassFile.Decoder.instr; rw [f_bind (f_u1 h)]; rfl)
set_option maxRecDepth 100000 in
theorem f_d82 (h : f_B c p 82) : decode c p = .ok (.dastore, 1) := f_fin (by unfold Jvm.ClassFile.Decoder.instr; rw [f_bind (f_u1 h)]; rfl)
set_option maxRecDepth 100000 in
theorem f_d83 (h : f_B c p 83) : decode c p = .ok (.aastore, 1) := f_fin (by unfold Jvm.ClassFile.Decoder.instr; rw [f_bind (f_u1 h)]; rfl)
set_option maxRecDepth 100000 in
theorem f_d84 (h : f_B c p 84) : decode c p = .ok (.bastore, 1) := f_fin (by unfold Jvm.ClassFile.Decoder.instr; rw [f_bind (f_u1 h)]; rfl)
set_option maxRecDepth 100000 in
theorem f_d85 (h : f_B c p 85) : decode c p = .ok (.castore, 1) := f_fin (by unfold Jvm.ClassFile.Decoder.instr; rw [f_bind (f_u1 h)]; rfl)
set_option maxRecDepth 100000 in
theorem f_d87 (h : f_B c p 87) : decode c p = .ok (.pop, 1) := f_fin (by unfold Jvm.ClassFile.Decoder.instr; rw [f_bind (f_u1 h)]; rfl)
set_option maxRecDepth 100000 in
theorem f_d88 (h : f_B c p 88) : decode c p = .ok (.pop2, 1) := f_fin (by unfold Jvm.ClassFile.Decoder.instr; rw [f_bind (f_u1 h)]; rfl)
set_option maxRecDepth 100000 in
theorem f_d89 (h : f_B c p 89) : decode c p = .ok (.dup, 1) := f_fin (by unfold Jvm.ClassFile.Decoder.instr; rw [f_bind (f_u1 h)]; rfl)
set_option maxRecDepth 100000 in
theorem f_d92 (h : f_B c p 92) : decode c p = .ok (.dup2, 1) := f_fin (by unfold Jvm.ClassFile.Decoder.instr; rw [f_bind (f_u1 h)]; rfl)
set_option maxRecDepth 100000 in
theorem f_d96 (h : f_B c p 96) : decode c p = .ok (.iadd, 1) := f_fin (by unfold Jvm.ClassFile.Decoder.instr; rw [f_bind (f_u1 h)]; rfl)
set_option maxRecDepth 100000 in
theorem f_d97 (h : f_B c p 97) : decode c p = .ok (.ladd, 1) := f_fin (by unfold Jvm.ClassFile.Decoder.instr; rw [f_bind (f_u1 h)]; rfl)
set_option maxRecDepth 100000 in
theorem f_d100 (h : f_B c p 100) : decode c p = .ok (.isub, 1) := f_fin (by unfold Jvm.ClassFile.Decoder.instr; rw [f_bind (f_u1 h)]; rfl)
set_option maxRecDepth 100000 in
theorem f_d104 (h : f_B c p 104) : decode c p = .ok (.imul, 1) := f_fin (by unfold Jvm.ClassFile.Decoder.instr; rw [f_bind (f_u1 h)]; rfl)
set_option maxRecDepth 100000 in
theorem f_d105 (h : f_B c p 105) : decode c p = .ok (.lmul, 1) := f_fin (by unfold Jvm.ClassFile.Decoder.instr; rw [f_bind (f_u1 h)]; rfl)
set_option maxRecDepth 100000 in
theorem f_d108 (h : f_B c p 108) : decode c p = .ok (.idiv, 1) := f_fin (by unfold Jvm.ClassFile.Decoder.instr; rw [f_bind (f_u1 h)]; rfl)
set_option maxRecDepth 100000 in
theorem f_d110 (h : f_B c p 110) : decode c p = .ok (.fdiv, 1) := f_fin (by unfold Jvm.ClassFile.Decoder.instr; rw [f_bind (f_u1 h)]; rfl)
set_option maxRecDepth 100000 in
theorem f_d111 (h : f_B c p 111) : decode c p = .ok (.ddiv, 1) := f_fin (by unfold Jvm.ClassFile.Decoder.instr; rw [f_bind (f_u1 h)]; rfl)
set_option maxRecDepth 100000 in
theorem f_d112 (h : f_B c p 112) : decode c p = .ok (.irem, 1) := f_fin (by unfold Jvm.ClassFile.Decoder.instr; rw [f_bind (f_u1 h)]; rfl)
set_option maxRecDepth 100000 in
theorem f_d126 (h : f_B c p 126) : decode c p = .ok (.iand, 1) := f_fin (by unfold Jvm.ClassFile.Decoder.instr; rw [f_bind (f_u1 h)]; rfl)
set_option maxRecDepth 100000 in
theorem f_d128 (h : f_B c p 128) : decode c p = .ok (.ior, 1) := f_fin (by unfold Jvm.ClassFile.Decoder.instr; rw [f_bind (f_u1 h)]; rfl)
set_option maxRecDepth 100000 in
theorem f_d133 (h : f_B c p 133) : decode c p = .ok (.i2l, 1) := f_fin (by unfold Jvm.ClassFile.Decoder.instr; rw [f_bind (f_u1 h)]; rfl)
set_option maxRecDepth 100000 in
theorem f_d134 (h : f_B c p 134) : decode c p = .ok (.i2f, 1) := f_fin (by unfold Jvm.ClassFile.Decoder.instr; rw [f_bind (f_u1 h)]; rfl)
set_option maxRecDepth 100000 in
theorem f_d135 (h : f_B c p 135) : decode c p = .ok (.i2d, 1) := f_fin (by unfold Jvm.ClassFile.Decoder.instr; rw [f_bind (f_u1 h)]; rfl)
set_option maxRecDepth 100000 in
theorem f_d141 (h : f_B c p 141) : decode c p = .ok (.f2d, 1) := f_fin (by unfold Jvm.ClassFile.Decoder.instr; rw [f_bind (f_u1 h)]; rfl)
set_option maxRecDepth 100000 in
theorem f_d146 (h : f_B c p 146) : decode c p = .ok (.i2c, 1) := f_fin (by unfold Jvm.ClassFile.Decoder.instr; rw [f_bind (f_u1 h)]; rfl)
set_option maxRecDepth 100000 in
theorem f_d148 (h : f_B c p 148) : decode c p = .ok (.lcmp, 1) := f_fin (by unfold Jvm.ClassFile.Decoder.instr; rw [f_bind (f_u1 h)]; rfl)
set_option maxRecDepth 100000 in
theorem f_d172 (h : f_B c p 172) : decode c p = .ok (.ireturn, 1) := f_fin (by unfold Jvm.ClassFile.Decoder.instr; rw [f_bind (f_u1 h)]; rfl)
set_option maxRecDepth 100000 in
theorem f_d173 (h : f_B c p 173) : decode c p = .ok (.lreturn, 1) := f_fin (by unfold Jvm.ClassFile.Decoder.instr; rw [f_bind (f_u1 h)]; rfl)
set_option maxRecDepth 100000 in
theorem f_d174 (h : f_B c p 174) : decode c p = .ok (.freturn, 1) := f_fin (by unfold Jvm.ClassFile.Decoder.instr; rw [f_bind (f_u1 h)]; rfl)
set_option maxRecDepth 100000 in
theorem f_d175 (h : f_B c p 175) : decode c p = .ok (.dreturn, 1) := f_fin (by unfold Jvm.ClassFile.Decoder.instr; rw [f_bind (f_u1 h)]; rfl)
set_option maxRecDepth 100000 in
theorem f_d177 (h : f_B c p 177) : decode c p = .ok (.return_, 1) := f_fin (by unfold Jvm.ClassFile.Decoder.instr; rw [f_bind (f_u1 h)]; rfl)
set_option maxRecDepth 100000 in
theorem f_d190 (h : f_B c p 190) : decode c p = .ok (.arraylength, 1) := f_fin (by unfold Jvm.ClassFile.Decoder.instr; rw [f_bind (f_u1 h)]; rfl)
set_option maxRecDepth 100000 in
theorem f_d191 (h : f_B c p 191) : decode c p = .ok (.athrow, 1) := f_fin (by unfold Jvm.ClassFile.Decoder.instr; rw [f_bind (f_u1 h)]; rfl)
set_option maxRecDepth 100000 in
theorem f_d26 (h : f_B c p 26) : decode c p = .ok (.iload_n 0, 1) := f_fin (by unfold Jvm.ClassFile.Decoder.instr; rw [f_bind (f_u1 h)]; rfl)
set_option maxRecDepth 100000 in
theorem f_d27 (h : f_B c p 27) : decode c p = .ok (.iload_n 1, 1) := f_fin (by unfold Jvm.ClassFile.Decoder.instr; rw [f_bind (f_u1 h)]; rfl)
set_option maxRecDepth 100000 in
theorem f_d28 (h : f_B c p 28) : decode c p = .ok (.iload_n 2, 1) := f_fin (by unfold Jvm.ClassFile.Decoder.instr; rw [f_bind (f_u1 h)]; rfl)
set_option maxRecDepth 100000 in
theorem f_d29 (h : f_B c p 29) : decode c p = .ok (.iload_n 3, 1) := f_fin (by unfold Jvm.ClassFile.Decoder.instr; rw [f_bind (f_u1 h)]; rfl)
set_option maxRecDepth 100000 in
theorem f_d30 (h : f_B c p 30) : decode c p = .ok (.lload_n 0, 1) := f_fin (by unfold Jvm.ClassFile.Decoder.instr; rw [f_bind (f_u1 h)]; rfl)
set_option maxRecDepth 100000 in
theorem f_d31 (h : f_B c p 31) : decode c p = .ok (.lload_n 1, 1) := f_fin (by unfold Jvm.ClassFile.Decoder.instr; rw [f_bind (f_u1 h)]; rfl)
set_option maxRecDepth 100000 in
theorem f_d32 (h : f_B c p 32) : decode c p = .ok (.lload_n 2, 1) := f_fin (by unfold Jvm.ClassFile.Decoder.instr; rw [f_bind (f_u1 h)]; rfl)
set_option maxRecDepth 100000 in
theorem f_d33 (h : f_B c p 33) : decode c p = .ok (.lload_n 3, 1) := f_fin (by unfold Jvm.ClassFile.Decoder.instr; rw [f_bind (f_u1 h)]; rfl)
set_option maxRecDepth 100000 in
theorem f_d42 (h : f_B c p 42) : decode c p = .ok (.aload_n 0, 1) := f_fin (by unfold Jvm.ClassFile.Decoder.instr; rw [f_bind (f_u1 h)]; rfl)
set_option maxRecDepth 100000 in
theorem f_d43 (h : f_B c p 43) : decode c p = .ok (.aload_n 1, 1) := f_fin (by unfold Jvm.ClassFile.Decoder.instr; rw [f_bind (f_u1 h)]; rfl)
set_option maxRecDepth 100000 in
theorem f_d44 (h : f_B c p 44) : decode c p = .ok (.aload_n 2, 1) := f_fin (by unfold Jvm.ClassFile.Decoder.instr; rw [f_bind (f_u1 h)]; rfl)
set_option maxRecDepth 100000 in
theorem f_d45 (h : f_B c p 45) : decode c p = .ok (.aload_n 3, 1) := f_fin (by unfold Jvm.ClassFile.Decoder.instr; rw [f_bind (f_u1 h)]; rfl)
set_option maxRecDepth 100000 in
theorem f_d59 (h : f_B c p 59) : decode c p = .ok (.istore_n 0, 1) := f_fin (by unfold Jvm.ClassFile.Decoder.instr; rw [f_bind (f_u1 h)]; rfl)
set_option maxRecDepth 100000 in
theorem f_d60 (h : f_B c p 60) : decode c p = .ok (.istore_n 1, 1) := f_fin (by unfold Jvm.ClassFile.Decoder.instr; rw [f_bind (f_u1 h)]; rfl)
set_option maxRecDepth 100000 in
theorem f_d61 (h : f_B c p 61) : decode c p = .ok (.istore_n 2, 1) := f_fin (by unfold Jvm.ClassFile.Decoder.instr; rw [f_bind (f_u1 h)]; rfl)
set_option maxRecDepth 100000 in
theorem f_d62 (h : f_B c p 62) : decode c p = .ok (.istore_n 3, 1) := f_fin (by unfold Jvm.ClassFile.Decoder.instr; rw [f_bind (f_u1 h)]; rfl)
set_option maxRecDepth 100000 in
theorem f_d63 (h : f_B c p 63) : decode c p = .ok (.lstore_n 0, 1) := f_fin (by unfold Jvm.ClassFile.Decoder.instr; rw [f_bind (f_u1 h)]; rfl)
set_option maxRecDepth 100000 in
theorem f_d64 (h : f_B c p 64) : decode c p = .ok (.lstore_n 1, 1) := f_fin (by unfold Jvm.ClassFile.Decoder.instr; rw [f_bind (f_u1 h)]; rfl)
set_option maxRecDepth 100000 in
theorem f_d65 (h : f_B c p 65) : decode c p = .ok (.lstore_n 2, 1) := f_fin (by unfold Jvm.ClassFile.Decoder.instr; rw [f_bind (f_u1 h)]; rfl)
set_option maxRecDepth 100000 in
theorem f_d66 (h : f_B c p 66) : decode c p = .ok (.lstore_n 3, 1) := f_fin (by unfold Jvm.ClassFile.Decoder.instr; rw [f_bind (f_u1 h)]; rfl)
set_option maxRecDepth 100000 in
theorem f_d75 (h : f_B c p 75) : decode c p = .ok (.astore_n 0, 1) := f_fin (by unfold Jvm.ClassFile.Decoder.instr; rw [f_bind (f_u1 h)]; rfl)
set_option maxRecDepth 100000 in
theorem f_d76 (h : f_B c p 76) : decode c p = .ok (.astore_n 1, 1) := f_fin (by unfold Jvm.ClassFile.Decoder.instr; rw [f_bind (f_u1 h)]; rfl)
set_option maxRecDepth 100000 in
theorem f_d77 (h : f_B c p 77) : decode c p = .ok (.astore_n 2, 1) := f_fin (by unfold Jvm.ClassFile.Decoder.instr; rw [f_bind (f_u1 h)]; rfl)
set_option maxRecDepth 100000 in
theorem f_d78 (h : f_B c p 78) : decode c p = .ok (.astore_n 3, 1) := f_fin (by unfold Jvm.ClassFile.Decoder.instr; rw [f_bind (f_u1 h)]; rfl)
set_option maxRecDepth 100000 in
theorem f_d9 (h : f_B c p 9) : decode c p = .ok (.lconst 0, 1) := f_fin (by unfold Jvm.ClassFile.Decoder.instr; rw [f_bind (f_u1 h)]; rfl)
set_option maxRecDepth 100000 in
theorem f_d10 (h : f_B c p 10) : decode c p = .ok (.lconst 1, 1) := f_fin (by unfold Jvm.ClassFile.Decoder.instr; rw [f_bind (f_u1 h)]; rfl)
set_option maxRecDepth 100000 in
theorem f_d14 (h : f_B c p 14) : decode c p = .ok (.dconst 0, 1) := f_fin (by unfold Jvm.ClassFile.Decoder.instr; rw [f_bind (f_u1 h)]; rfl)
set_option maxRecDepth 100000 in
theorem f_d15 (h : f_B c p 15) : decode c p = .ok (.dconst 1, 1) := f_fin (by unfold Jvm.ClassFile.Decoder.instr; rw [f_bind (f_u1 h)]; rfl)
set_option maxRecDepth 100000 in
theorem f_d11 (h : f_B c p 11) : decode c p = .ok (.fconst 0, 1) := f_fin (by unfold Jvm.ClassFile.Decoder.instr; rw [f_bind (f_u1 h)]; rfl)
set_option maxRecDepth 100000 in
theorem f_d12 (h : f_B c p 12) : decode c p = .ok (.fconst 1, 1) := f_fin (by unfold Jvm.ClassFile.Decoder.instr; rw [f_bind (f_u1 h)]; rfl)
set_option maxRecDepth 100000 in
theorem f_d13 (h : f_B c p 13) : decode c p = .ok (.fconst 2, 1) := f_fin (by unfold Jvm.ClassFile.Decoder.instr; rw [f_bind (f_u1 h)]; rfl)
set_option maxRecDepth 100000 in
theorem f_d2 (h : f_B c p 2) : decode c p = .ok (.iconst (-1), 1) := f_fin (by unfold Jvm.ClassFile.Decoder.instr; rw [f_bind (f_u1 h)]; rfl)
set_option maxRecDepth 100000 in
theorem f_d3 (h : f_B c p 3) : decode c p = .ok (.iconst 0, 1) := f_fin (by unfold Jvm.ClassFile.Decoder.instr; rw [f_bind (f_u1 h)]; rfl)
set_option maxRecDepth 100000 in
theorem f_d4 (h : f_B c p 4) : decode c p = .ok (.iconst 1, 1) := f_fin (by unfold Jvm.ClassFile.Decoder.instr; rw [f_bind (f_u1 h)]; rfl)
set_option maxRecDepth 100000 in
theorem f_d5 (h : f_B c p 5) : decode c p = .ok (.iconst 2, 1) := f_fin (by unfold Jvm.ClassFile.Decoder.instr; rw [f_bind (f_u1 h)]; rfl)
set_option maxRecDepth 100000 in
theorem f_d6 (h : f_B c p 6) : decode c p = .ok (.iconst 3, 1) := f_fin (by unfold Jvm.ClassFile.Decoder.instr; rw [f_bind (f_u1 h)]; rfl)
set_option maxRecDepth 100000 in
theorem f_d7 (h : f_B c p 7) : decode c p = .ok (.iconst 4, 1) := f_fin (by unfold Jvm.ClassFile.Decoder.instr; rw [f_bind (f_u1 h)]; rfl)
set_option maxRecDepth 100000 in
theorem f_d8 (h : f_B c p 8) : decode c p = .ok (.iconst 5, 1) := f_fin (by unfold Jvm.ClassFile.Decoder.instr; rw [f_bind (f_u1 h)]; rfl)
set_option maxRecDepth 100000 in
theorem f_d18 (h : f_W c p [18, b]) : decode c p = .ok (.ldc b, 2) := f_fin (by unfold Jvm.ClassFile.Decoder.instr; rw [f_bind (f_u1 h.c0)]; show ((Jvm.ClassFile.Reader.u1 : Jvm.ClassFile.Decoder Nat) >>= fun x => pure (Instr.ldc x)) c (p + 1) = _; rw [f_bind (f_u1 h.c1)]; rfl)
set_option maxRecDepth 100000 in
theorem f_d21 (h : f_W c p [21, b]) : decode c p = .ok (.iload b, 2) := f_fin (by unfold Jvm.ClassFile.Decoder.instr; rw [f_bind (f_u1 h.c0)]; show ((Jvm.ClassFile.Reader.u1 : Jvm.ClassFile.Decoder Nat) >>= fun x => pure (Instr.iload x)) c (p + 1) = _; rw [f_bind (f_u1 h.c1)]; rfl)
set_option maxRecDepth 100000 in
theorem f_d22 (h : f_W c p [22, b]) : decode c p = .ok (.lload b, 2) := f_fin (by unfold Jvm.ClassFile.Decoder.instr; rw [f_bind (f_u1 h.c0)]; show ((Jvm.ClassFile.Reader.u1 : Jvm.ClassFile.Decoder Nat) >>= fun x => pure (Instr.lload x)) c (p + 1) = _; rw [f_bind (f_u1 h.c1)]; rfl)
set_option maxRecDepth 100000 in
theorem f_d23 (h : f_W c p [23, b]) : decode c p = .ok (.fload b, 2) := f_fin (by unfold Jvm.ClassFile.Decoder.instr; rw [f_bind (f_u1 h.c0)]; show ((Jvm.ClassFile.Reader.u1 : Jvm.ClassFile.Decoder Nat) >>= fun x => pure (Instr.fload x)) c (p + 1) = _; rw [f_bind (f_u1 h.c1)]; rfl)
set_option maxRecDepth 100000 in
theorem f_d24 (h : f_W c p [24, b]) : decode c p = .ok (.dload b, 2) := f_fin (by unfold Jvm.ClassFile.Decoder.instr; rw [f_bind (f_u1 h.c0)]; show ((Jvm.ClassFile.Reader.u1 : Jvm.ClassFile.Decoder Nat) >>= fun x => pure (Instr.dload x)) c (p + 1) = _; rw [f_bind (f_u1 h.c1)]; rfl)
set_option maxRecDepth 100000 in
theorem f_d25 (h : f_W c p [25, b]) : decode c p = .ok (.aload b, 2) := f_fin (by unfold Jvm.ClassFile.Decoder.instr; rw [f_bind (f_u1 h.c0)]; show ((Jvm.ClassFile.Reader.u1 : Jvm.ClassFile.Decoder Nat) >>= fun x => pure (Instr.aload x)) c (p + 1) = _; rw [f_bind (f_u1 h.c1)]; rfl)
set_option maxRecDepth 100000 in
theorem f_d54 (h : f_W c p [54, b]) : decode c p = .ok (.istore b, 2) := f_fin (by unfold Jvm.ClassFile.Decoder.instr; rw [f_bind (f_u1 h.c0)]; show ((Jvm.ClassFile.Reader.u1 : Jvm.ClassFile.Decoder Nat) >>= fun x => pure (Instr.istore x)) c (p + 1) = _; rw [f_bind (f_u1 h.c1)]; rfl)
set_option maxRecDepth 100000 in
theorem f_d55 (h : f_W c p [55, b]) : decode c p = .ok (.lstore b, 2) := f_fin (by unfold Jvm.ClassFile.Decoder.instr; rw [f_bind (f_u1 h.c0)]; show ((Jvm.ClassFile.Reader.u1 : Jvm.ClassFile.Decoder Nat) >>= fun x => pure (Instr.lstore x)) c (p + 1) = _; rw [f_bind (f_u1 h.c1)]; rfl)
set_option maxRecDepth 100000 in
theorem f_d56 (h : f_W c p [56, b]) : decode c p = .ok (.fstore b, 2) := f_fin (by unfold Jvm.ClassFile.Decoder.instr; rw [f_bind (f_u1 h.c0)]; show ((Jvm.ClassFile.Reader.u1 : Jvm.ClassFile.Decoder Nat) >>= fun x => pure (Instr.fstore x)) c (p + 1) = _; rw [f_bind (f_u1 h.c1)]; rfl)
set_option maxRecDepth 100000 in
theorem f_d57 (h : f_W c p [57, b]) : decode c p = .ok (.dstore b, 2) := f_fin (by unfold Jvm.ClassFile.Decoder.instr; rw [f_bind (f_u1 h.c0)]; show ((Jvm.ClassFile.Reader.u1 : Jvm.ClassFile.Decoder Nat) >>= fun x => pure (Instr.dstore x)) c (p + 1) = _; rw [f_bind (f_u1 h.c1)]; rfl)
set_option maxRecDepth 100000 in
theorem f_d58 (h : f_W c p [58, b]) : decode c p = .ok (.astore b, 2) := f_fin (by unfold Jvm.ClassFile.Decoder.instr; rw [f_bind (f_u1 h.c0)]; show ((Jvm.ClassFile.Reader.u1 : Jvm.ClassFile.Decoder Nat) >>= fun x => pure (Instr.astore x)) c (p + 1) = _; rw [f_bind (f_u1 h.c1)]; rfl)
set_option maxRecDepth 100000 in
theorem f_d19 (h : f_W c p [19, a, b]) : decode c p = .ok (.ldc_w (a * 256 + b), 3) := f_fin (by unfold Jvm.ClassFile.Decoder.instr; rw [f_bind (f_u1 h.c0)]; show ((Jvm.ClassFile.Reader.u2 : Jvm.ClassFile.Decoder Nat) >>= fun x => pure (Instr.ldc_w x)) c (p + 1) = _; rw [f_bind (f_u2r h.c1 h.c2)]; rfl)
set_option maxRecDepth 100000 in
theorem f_d20 (h : f_W c p [20, a, b]) : decode c p = .ok (.ldc2_w (a * 256 + b), 3) := f_fin (by unfold Jvm.ClassFile.Decoder.instr; rw [f_bind (f_u1 h.c0)]; show ((Jvm.ClassFile.Reader.u2 : Jvm.ClassFile.Decoder Nat) >>= fun x => pure (Instr.ldc2_w x)) c (p + 1) = _; rw [f_bind (f_u2r h.c1 h.c2)]; rfl)
set_option maxRecDepth 100000 in
theorem f_d180 (h : f_W c p [180, a, b]) : decode c p = .ok (.getfield (a * 256 + b), 3) := f_fin (by unfold Jvm.ClassFile.Decoder.instr; rw [f_bind (f_u1 h.c0)]; show ((Jvm.ClassFile.Reader.u2 : Jvm.ClassFile.Decoder Nat) >>= fun x => pure (Instr.getfield x)) c (p + 1) = _; rw [f_bind (f_u2r h.c1 h.c2)]; rfl)
set_option maxRecDepth 100000 in
theorem f_d181 (h : f_W c p [181, a, b]) : decode c p = .ok (.putfield (a * 256 + b), 3) := f_fin (by unfold Jvm.ClassFile.Decoder.instr; rw [f_bind (f_u1 h.c0)]; show ((Jvm.ClassFile.Reader.u2 : Jvm.ClassFile.Decoder Nat) >>= fun x => pure (Instr.putfield x)) c (p + 1) = _; rw [f_bind (f_u2r h.c1 h.c2)]; rfl)
set_option maxRecDepth 100000 in
theorem f_d182 (h : f_W c p [182, a, b]) : decode c p = .ok (.invokevirtual (a * 256 + b), 3) := f_fin (by unfold Jvm.ClassFile.Decoder.instr; rw [f_bind (f_u1 h.c0)]; show ((Jvm.ClassFile.Reader.u2 : Jvm.ClassFile.Decoder Nat) >>= fun x => pure (Instr.invokevirtual x)) c (p + 1) = _; rw [f_bind (f_u2r h.c1 h.c2)]; rfl)
set_option maxRecDepth 100000 in
theorem f_d183 (h : f_W c p [183, a, b]) : decode c p = .ok (.invokespecial (a * 256 + b), 3) := f_fin (by unfold Jvm.ClassFile.Decoder.instr; rw [f_bind (f_u1 h.c0)]; show ((Jvm.ClassFile.Reader.u2 : Jvm.ClassFile.Decoder Nat) >>= fun x => pure (Instr.invokespecial x)) c (p + 1) = _; rw [f_bind (f_u2r h.c1 h.c2)]; rfl)
set_option maxRecDepth 100000 in
theorem f_d184 (h : f_W c p [184, a, b]) : decode c p = .ok (.invokestatic (a * 256 + b), 3) := f_fin (by unfold Jvm.ClassFile.Decoder.instr; rw [f_bind (f_u1 h.c0)]; show ((Jvm.ClassFile.Reader.u2 : Jvm.ClassFile.Decoder Nat) >>= fun x => pure (Instr.invokestatic x)) c (p + 1) = _; rw [f_bind (f_u2r h.c1 h.c2)]; rfl)
set_option maxRecDepth 100000 in
theorem f_d187 (h : f_W c p [187, a, b]) : decode c p = .ok (.new (a * 256 + b), 3) := f_fin (by unfold Jvm.ClassFile.Decoder.instr; rw [f_bind (f_u1 h.c0)]; show ((Jvm.ClassFile.Reader.u2 : Jvm.ClassFile.Decoder Nat) >>= fun x => pure (Instr.new x)) c (p + 1) = _; rw [f_bind (f_u2r h.c1 h.c2)]; rfl)
set_option maxRecDepth 100000 in
theorem f_d189 (h : f_W c p [189, a, b]) : decode c p = .ok (.anewarray (a * 256 + b), 3) := f_fin (by unfold Jvm.ClassFile.Decoder.instr; rw [f_bind (f_u1 h.c0)]; show ((Jvm.ClassFile.Reader.u2 : Jvm.ClassFile.Decoder Nat) >>= fun x => pure (Instr.anewarray x)) c (p + 1) = _; rw [f_bind (f_u2r h.c1 h.c2)]; rfl)
set_option maxRecDepth 100000 in
theorem f_d17 (h : f_W c p [17, a, b]) : decode c p = .ok (.sipush (Jvm.ClassFile.Reader.signed 16 (a * 256 + b)), 3) := f_fin (by unfold Jvm.ClassFile.Decoder.instr; rw [f_bind (f_u1 h.c0)]; show ((Jvm.ClassFile.Reader.s2 : Jvm.ClassFile.Decoder Int) >>= fun x => pure (Instr.sipush x)) c (p + 1) = _; rw [f_bind (f_s2r h.c1 h.c2)]; rfl)
set_option maxRecDepth 100000 in
theorem f_d167 (h : f_W c p [167, a, b]) : decode c p = .ok (.goto (Jvm.ClassFile.Reader.signed 16 (a * 256 + b)), 3) := f_fin (by unfold Jvm.ClassFile.Decoder.instr; rw [f_bind (f_u1 h.c0)]; show ((Jvm.ClassFile.Reader.s2 : Jvm.ClassFile.Decoder Int) >>= fun x => pure (Instr.goto x)) c (p + 1) = _; rw [f_bind (f_s2r h.c1 h.c2)]; rfl)
set_option maxRecDepth 100000 in
theorem f_d153 (h : f_W c p [153, a, b]) : decode c p = .ok (.ifCond .eq (Jvm.ClassFile.Reader.signed 16 (a * 256 + b)), 3) := f_fin (by unfold Jvm.ClassFile.Decoder.instr; rw [f_bind (f_u1 h.c0)]; show ((Jvm.ClassFile.Reader.s2 : Jvm.ClassFile.Decoder Int) >>= fun x => pure (Instr.ifCond .eq x)) c (p + 1) = _; rw [f_bind (f_s2r h.c1 h.c2)]; rfl)
set_option maxRecDepth 100000 in
theorem f_d154 (h : f_W c p [154, a, b]) : decode c p = .ok (.ifCond .ne (Jvm.ClassFile.Reader.signed 16 (a * 256 + b)), 3) := f_fin (by unfold Jvm.ClassFile.Decoder.instr; rw [f_bind (f_u1 h.c0)]; show ((Jvm.ClassFile.Reader.s2 : Jvm.ClassFile.Decoder Int) >>= fun x => pure (Instr.ifCond .ne x)) c (p + 1) = _; rw [f_bind (f_s2r h.c1 h.c2)]; rfl)
set_option maxRecDepth 100000 in
theorem f_d155 (h : f_W c p [155, a, b]) : decode c p = .ok (.ifCond .lt (Jvm.ClassFile.Reader.signed 16 (a * 256 + b)), 3) := f_fin (by unfold Jvm.ClassFile.Decoder.instr; rw [f_bind (f_u1 h.c0)]; show ((Jvm.ClassFile.Reader.s2 : Jvm.ClassFile.Decoder Int) >>= fun x => pure (Instr.ifCond .lt x)) c (p + 1) = _; rw [f_bind (f_s2r h.c1 h.c2)]; rfl)
set_option maxRecDepth 100000 in
theorem f_d156 (h : f_W c p [156, a, b]) : decode c p = .ok (.ifCond .ge (Jvm.ClassFile.Reader.signed 16 (a * 256 + b)), 3) := f_fin (by unfold Jvm.ClassFile.Decoder.instr; rw [f_bind (f_u1 h.c0)]; show ((Jvm.ClassFile.Reader.s2 : Jvm.ClassFile.Decoder Int) >>= fun x => pure (Instr.ifCond .ge x)) c (p + 1) = _; rw [f_bind (f_s2r h.c1 h.c2)]; rfl)
set_option maxRecDepth 100000 in
theorem f_d157 (h : f_W c p [157, a, b]) : decode c p = .ok (.ifCond .gt (Jvm.ClassFile.Reader.signed 16 (a * 256 + b)), 3) := f_fin (by unfold Jvm.ClassFile.Decoder.instr; rw [f_bind (f_u1 h.c0)]; show ((Jvm.ClassFile.Reader.s2 : Jvm.ClassFile.Decoder Int) >>= fun x => pure (Instr.ifCond .gt x)) c (p + 1) = _; rw [f_bind (f_s2r h.c1 h.c2)]; rfl)
set_option maxRecDepth 100000 in
theorem f_d158 (h : f_W c p [158, a, b]) : decode c p = .ok (.ifCond .le (Jvm.ClassFile.Reader.signed 16 (a * 256 + b)), 3) := f_fin (by unfold Jvm.ClassFile.Decoder.instr; rw [f_bind (f_u1 h.c0)]; show ((Jvm.ClassFile.Reader.s2 : Jvm.ClassFile.Decoder Int) >>= fun x => pure (Instr.ifCond .le x)) c (p + 1) = _; rw [f_bind (f_s2r h.c1 h.c2)]; rfl)
set_option maxRecDepth 100000 in
theorem f_d159 (h : f_W c p [159, a, b]) : decode c p = .ok (.if_icmp .eq (Jvm.ClassFile.Reader.signed 16 (a * 256 + b)), 3) := f_fin (by unfold Jvm.ClassFile.Decoder.instr; rw [f_bind (f_u1 h.c0)]; show ((Jvm.ClassFile.Reader.s2 : Jvm.ClassFile.Decoder Int) >>= fun x => pure (Instr.if_icmp .eq x)) c (p + 1) = _; rw [f_bind (f_s2r h.c1 h.c2)]; rfl)
set_option maxRecDepth 100000 in
theorem f_d160 (h : f_W c p [160, a, b]) : decode c p = .ok (.if_icmp .ne (Jvm.ClassFile.Reader.signed 16 (a * 256 + b)), 3) := f_fin (by unfold Jvm.ClassFile.Decoder.instr; rw [f_bind (f_u1 h.c0)]; show ((Jvm.ClassFile.Reader.s2 : Jvm.ClassFile.Decoder Int) >>= fun x => pure (Instr.if_icmp .ne x)) c (p + 1) = _; rw [f_bind (f_s2r h.c1 h.c2)]; rfl)
set_option maxRecDepth 100000 in
theorem f_d161 (h : f_W c p [161, a, b]) : decode c p = .ok (.if_icmp .lt (Jvm.ClassFile.Reader.signed 16 (a * 256 + b)), 3) := f_fin (by unfold Jvm.ClassFile.Decoder.instr; rw [f_bind (f_u1 h.c0)]; show ((Jvm.ClassFile.Reader.s2 : Jvm.ClassFile.Decoder Int) >>= fun x => pure (Instr.if_icmp .lt x)) c (p + 1) = _; rw [f_bind (f_s2r h.c1 h.c2)]; rfl)
set_option maxRecDepth 100000 in
theorem f_d162 (h : f_W c p [162, a, b]) : decode c p = .ok (.if_icmp .ge (Jvm.ClassFile.Reader.signed 16 (a * 256 + b)), 3) := f_fin (by unfold Jvm.ClassFile.Decoder.instr; rw [f_bind (f_u1 h.c0)]; show ((Jvm.ClassFile.Reader.s2 : Jvm.ClassFile.Decoder Int) >>= fun x => pure (Instr.if_icmp .ge x)) c (p + 1) = _; rw [f_bind (f_s2r h.c1 h.c2)]; rfl)
set_option maxRecDepth 100000 in
theorem f_d163 (h : f_W c p [163, a, b]) : decode c p = .ok (.if_icmp .gt (Jvm.ClassFile.Reader.signed 16 (a * 256 + b)), 3) := f_fin (by unfold Jvm.ClassFile.Decoder.instr; rw [f_bind (f_u1 h.c0)]; show ((Jvm.ClassFile.Reader.s2 : Jvm.ClassFile.Decoder Int) >>= fun x => pure (Instr.if_icmp .gt x)) c (p + 1) = _; rw [f_bind (f_s2r h.c1 h.c2)]; rfl)
set_option maxRecDepth 100000 in
theorem f_d164 (h : f_W c p [164, a, b]) : decode c p = .ok (.if_icmp .le (Jvm.ClassFile.Reader.signed 16 (a * 256 + b)), 3) := f_fin (by unfold Jvm.ClassFile.Decoder.instr; rw [f_bind (f_u1 h.c0)]; show ((Jvm.ClassFile.Reader.s2 : Jvm.ClassFile.Decoder Int) >>= fun x => pure (Instr.if_icmp .le x)) c (p + 1) = _; rw [f_bind (f_s2r h.c1 h.c2)]; rfl)
set_option maxRecDepth 100000 in
theorem f_d165 (h : f_W c p [165, a, b]) : decode c p = .ok (.if_acmp .eq (Jvm.ClassFile.Reader.signed 16 (a * 256 + b)), 3) := f_fin (by unfold Jvm.ClassFile.Decoder.instr; rw [f_bind (f_u1 h.c0)]; show ((Jvm.ClassFile.Reader.s2 : Jvm.ClassFile.Decoder Int) >>= fun x => pure (Instr.if_acmp .eq x)) c (p + 1) = _; rw [f_bind (f_s2r h.c1 h.c2)]; rfl)
set_option maxRecDepth 100000 in
theorem f_d166 (h : f_W c p [166, a, b]) : decode c p = .ok (.if_acmp .ne (Jvm.ClassFile.Reader.signed 16 (a * 256 + b)), 3) := f_fin (by unfold Jvm.ClassFile.Decoder.instr; rw [f_bind (f_u1 h.c0)]; show ((Jvm.ClassFile.Reader.s2 : Jvm.ClassFile.Decoder Int) >>= fun x => pure (Instr.if_acmp .ne x)) c (p + 1) = _; rw [f_bind (f_s2r h.c1 h.c2)]; rfl)
set_option maxRecDepth 100000 in
theorem f_d16 (h : f_W c p [16, b]) : decode c p = .ok (.bipush (Jvm.ClassFile.Reader.signed 8 b), 2) := f_fin (by unfold Jvm.ClassFile.Decoder.instr; rw [f_bind (f_u1 h.c0)]; show ((Jvm.ClassFile.Reader.s1 : Jvm.ClassFile.Decoder Int) >>= fun x => pure (Instr.bipush x)) c (p + 1) = _; rw [f_bind (f_s1r h.c1)]; rfl)
set_option maxRecDepth 100000 in
theorem f_d132 (h : f_W c p [132, a, b]) : decode c p = .ok (.iinc a (Jvm.ClassFile.Reader.signed 8 b), 3) := f_fin (by unfold Jvm.ClassFile.Decoder.instr; rw [f_bind (f_u1 h.c0)]; show ((Jvm.ClassFile.Reader.u1 : Jvm.ClassFile.Decoder Nat) >>= fun x => Jvm.ClassFile.Reader.s1 >>= fun y => pure (Instr.iinc x y)) c (p + 1) = _; rw [f_bind (f_u1 h.c1), f_bind (f_s1r h.c2)]; rfl)
theorem f_u2q {n : Nat} : n / 256 * 256 + n % 256 = n := by omega
set_option maxRecDepth 100000 in
theorem f_code_ok {i : Instr} (hn : f_code i ≠ []) (h : f_W c p (f_code i)) : decode c p = .ok (i, (f_code i).length) := by
  cases i
  case iaload => exact f_d46 h.c0
  case laload => exact f_d47 h.c0
  case aaload => exact f_d50 h.c0
  case baload => exact f_d51 h.c0
  case caload => exact f_d52 h.c0
  case iastore => exact f_d79 h.c0
  case lastore => exact f_d80 h.c0
  case dastore => exact f_d82 h.c0
  case aastore => exact f_d83 h.c0
  case bastore => exact f_d84 h.c0
  case castore => exact f_d85 h.c0
  case pop => exact f_d87 h.c0
  case pop2 => exact f_d88 h.c0
  case dup => exact f_d89 h.c0
  case dup2 => exact f_d92 h.c0
  case iadd => exact f_d96 h.c0
  case ladd => exact f_d97 h.c0
  case isub => exact f_d100 h.c0
  case imul => exact f_d104 h.c0
  case lmul => exact f_d105 h.c0
  case idiv => exact f_d108 h.c0
  case fdiv => exact f_d110 h.c0
  case ddiv => exact f_d111 h.c0
  case irem => exact f_d112 h.c0
  case iand => exact f_d126 h.c0
  case ior => exact f_d128 h.c0
  case i2l => exact f_d133 h.c0
  case i2f => exact f_d134 h.c0
  case i2d => exact f_d135 h.c0
  case f2d => exact f_d141 h.c0
  case i2c => exact f_d146 h.c0
  case lcmp => exact f_d148 h.c0
  case ireturn => exact f_d172 h.c0
  case lreturn => exact f_d173 h.c0
  case freturn => exact f_d174 h.c0
  case dreturn => exact f_d175 h.c0
  case return_ => exact f_d177 h.c0
  case arraylength => exact f_d190 h.c0
  case athrow => exact f_d191 h.c0
  case ldc n => exact f_d18 h
  case iload n => exact f_d21 h
  case lload n => exact f_d22 h
  case fload n => exact f_d23 h
  case dload n => exact f_d24 h
  case aload n => exact f_d25 h
  case istore n => exact f_d54 h
  case lstore n => exact f_d55 h
  case fstore n => exact f_d56 h
  case dstore n => exact f_d57 h
  case astore n => exact f_d58 h
  case ldc_w n => exact (f_d19 h).trans (by rw [f_u2q]; rfl)
  case ldc2_w n => exact (f_d20 h).trans (by rw [f_u2q]; rfl)
  case getfield n => exact (f_d180 h).trans (by rw [f_u2q]; rfl)
  case putfield n => exact (f_d181 h).trans (by rw [f_u2q]; rfl)
  case invokevirtual n => exact (f_d182 h).trans (by rw [f_u2q]; rfl)
  case invokespecial n => exact (f_d183 h).trans (by rw [f_u2q]; rfl)
  case invokestatic n => exact (f_d184 h).trans (by rw [f_u2q]; rfl)
  case new n => exact (f_d187 h).trans (by rw [f_u2q]; rfl)
  case anewarray n => exact (f_d189 h).trans (by rw [f_u2q]; rfl)
  case iload_n n => rcases n with ⟨n, hn2⟩; rcases n with _ | _ | _ | _ | n <;> first | exact f_d26 h.c0 | exact f_d27 h.c0 | exact f_d28 h.c0 | exact f_d29 h.c0 | (exfalso; omega)
  case lload_n n => rcases n with ⟨n, hn2⟩; rcases n with _ | _ | _ | _ | n <;> first | exact f_d30 h.c0 | exact f_d31 h.c0 | exact f_d32 h.c0 | exact f_d33 h.c0 | (exfalso; omega)
  case aload_n n => rcases n with ⟨n, hn2⟩; rcases n with _ | _ | _ | _ | n <;> first | exact f_d42 h.c0 | exact f_d43 h.c0 | exact f_d44 h.c0 | exact f_d45 h.c0 | (exfalso; omega)
  case istore_n n => rcases n with ⟨n, hn2⟩; rcases n with _ | _ | _ | _ | n <;> first | exact f_d59 h.c0 | exact f_d60 h.c0 | exact f_d61 h.c0 | exact f_d62 h.c0 | (exfalso; omega)
  case lstore_n n => rcases n with ⟨n, hn2⟩; rcases n with _ | _ | _ | _ | n <;> first | exact f_d63 h.c0 | exact f_d64 h.c0 | exact f_d65 h.c0 | exact f_d66 h.c0 | (exfalso; omega)
  case astore_n n => rcases n with ⟨n, hn2⟩; rcases n with _ | _ | _ | _ | n <;> first | exact f_d75 h.c0 | exact f_d76 h.c0 | exact f_d77 h.c0 | exact f_d78 h.c0 | (exfalso; omega)
  case lconst n => rcases n with ⟨n, hn2⟩; rcases n with _ | _ | n <;> first | exact f_d9 h.c0 | exact f_d10 h.c0 | (exfalso; omega)
  case dconst n => rcases n with ⟨n, hn2⟩; rcases n with _ | _ | n <;> first | exact f_d14 h.c0 | exact f_d15 h.c0 | (exfalso; omega)
  case fconst n => rcases n with ⟨n, hn2⟩; rcases n with _ | _ | _ | n <;> first | exact f_d11 h.c0 | exact f_d12 h.c0 | exact f_d13 h.c0 | (exfalso; omega)
  case iconst z =>
    obtain ⟨⟨z1, z2⟩, e⟩ := f_inT hn
    have q : z = -1 ∨ z = 0 ∨ z = 1 ∨ z = 2 ∨ z = 3 ∨ z = 4 ∨ z = 5 := by omega
    rcases q with rfl | rfl | rfl | rfl | rfl | rfl | rfl
    · exact f_d2 h.c0
    · exact f_d3 h.c0
    · exact f_d4 h.c0
    · exact f_d5 h.c0
    · exact f_d6 h.c0
    · exact f_d7 h.c0
    · exact f_d8 h.c0
  case bipush z =>
    obtain ⟨⟨z1, z2⟩, e⟩ := f_inT hn
    have e : f_code (.bipush z) = [16, (z % 256).toNat] := e
    rw [e] at h ⊢
    exact (f_d16 h).trans (by rw [f_sg8 z1 z2]; rfl)
  case iinc n z =>
    obtain ⟨⟨z1, z2⟩, e⟩ := f_inT hn
    have e : f_code (.iinc n z) = [132, n, (z % 256).toNat] := e
    rw [e] at h ⊢
    exact (f_d132 h).trans (by rw [f_sg8 z1 z2]; rfl)
  case sipush z =>
    obtain ⟨⟨z1, z2⟩, e⟩ := f_inT hn
    have e : f_code (.sipush z) = 17 :: f_s2 z := e
    rw [e] at h ⊢
    exact (f_d17 h).trans (by rw [f_sg16 z1 z2]; rfl)
  case goto z =>
    obtain ⟨⟨z1, z2⟩, e⟩ := f_inT hn
    have e : f_code (.goto z) = 167 :: f_s2 z := e
    rw [e] at h ⊢
    exact (f_d167 h).trans (by rw [f_sg16 z1 z2]; rfl)
  case ifCond k z =>
    cases k
    case eq =>
      obtain ⟨⟨z1, z2⟩, e⟩ := f_inT hn
      have e : f_code (.ifCond .eq z) = 153 :: f_s2 z := e
      rw [e] at h ⊢
      exact (f_d153 h).trans (by rw [f_sg16 z1 z2]; rfl)
    case ne =>
      obtain ⟨⟨z1, z2⟩, e⟩ := f_inT hn
      have e : f_code (.ifCond .ne z) = 154 :: f_s2 z := e
      rw [e] at h ⊢
      exact (f_d154 h).trans (by rw [f_sg16 z1 z2]; rfl)
    case lt =>
      obtain ⟨⟨z1, z2⟩, e⟩ := f_inT hn
      have e : f_code (.ifCond .lt z) = 155 :: f_s2 z := e
      rw [e] at h ⊢
      exact (f_d155 h).trans (by rw [f_sg16 z1 z2]; rfl)
    case ge =>
      obtain ⟨⟨z1, z2⟩, e⟩ := f_inT hn
      have e : f_code (.ifCond .ge z) = 156 :: f_s2 z := e
      rw [e] at h ⊢
      exact (f_d156 h).trans (by rw [f_sg16 z1 z2]; rfl)
    case gt =>
      obtain ⟨⟨z1, z2⟩, e⟩ := f_inT hn
      have e : f_code (.ifCond .gt z) = 157 :: f_s2 z := e
      rw [e] at h ⊢
      exact (f_d157 h).trans (by rw [f_sg16 z1 z2]; rfl)
    case le =>
      obtain ⟨⟨z1, z2⟩, e⟩ := f_inT hn
      have e : f_code (.ifCond .le z) = 158 :: f_s2 z := e
      rw [e] at h ⊢
      exact (f_d158 h).trans (by rw [f_sg16 z1 z2]; rfl)
  case if_icmp k z =>
    cases k
    case eq =>
      obtain ⟨⟨z1, z2⟩, e⟩ := f_inT hn
      have e : f_code (.if_icmp .eq z) = 159 :: f_s2 z := e
      rw [e] at h ⊢
      exact (f_d159 h).trans (by rw [f_sg16 z1 z2]; rfl)
    case ne =>
      obtain ⟨⟨z1, z2⟩, e⟩ := f_inT hn
      have e : f_code (.if_icmp .ne z) = 160 :: f_s2 z := e
      rw [e] at h ⊢
      exact (f_d160 h).trans (by rw [f_sg16 z1 z2]; rfl)
    case lt =>
      obtain ⟨⟨z1, z2⟩, e⟩ := f_inT hn
      have e : f_code (.if_icmp .lt z) = 161 :: f_s2 z := e
      rw [e] at h ⊢
      exact (f_d161 h).trans (by rw [f_sg16 z1 z2]; rfl)
    case ge =>
      obtain ⟨⟨z1, z2⟩, e⟩ := f_inT hn
      have e : f_code (.if_icmp .ge z) = 162 :: f_s2 z := e
      rw [e] at h ⊢
      exact (f_d162 h).trans (by rw [f_sg16 z1 z2]; rfl)
    case gt =>
      obtain ⟨⟨z1, z2⟩, e⟩ := f_inT hn
      have e : f_code (.if_icmp .gt z) = 163 :: f_s2 z := e
      rw [e] at h ⊢
      exact (f_d163 h).trans (by rw [f_sg16 z1 z2]; rfl)
    case le =>
      obtain ⟨⟨z1, z2⟩, e⟩ := f_inT hn
      have e : f_code (.if_icmp .le z) = 164 :: f_s2 z := e
      rw [e] at h ⊢
      exact (f_d164 h).trans (by rw [f_sg16 z1 z2]; rfl)
  case if_acmp k z =>
    cases k
    case eq =>
      obtain ⟨⟨z1, z2⟩, e⟩ := f_inT hn
      have e : f_code (.if_acmp .eq z) = 165 :: f_s2 z := e
      rw [e] at h ⊢
      exact (f_d165 h).trans (by rw [f_sg16 z1 z2]; rfl)
    case ne =>
      obtain ⟨⟨z1, z2⟩, e⟩ := f_inT hn
      have e : f_code (.if_acmp .ne z) = 166 :: f_s2 z := e
      rw [e] at h ⊢
      exact (f_d166 h).trans (by rw [f_sg16 z1 z2]; rfl)
  all_goals exact absurd rfl hn
end FD
def f_pre : List Nat → List Nat → Option (List Nat)
  | [], bs => some bs
  | x :: xs, b :: bs => if Nat.beq x b = true then f_pre xs bs else none
  | _ :: _, [] => none
theorem f_pre_ok : ∀ {l bs r : List Nat}, f_pre l bs = some r → bs = l ++ r
  | [], bs, r, h => by cases h; rfl
  | x :: xs, b :: bs, r, h => by
    rw [f_pre] at h
    split at h
    · rename_i e
      rw [Nat.eq_of_beq_eq_true e, f_pre_ok h]
      rfl
    · cases h
  | _ :: _, [], r, h => by cases h
def f_bytes (c : ByteArray) : List Nat := c.data.toList.map UInt8.toNat
theorem f_B_of {c : ByteArray} {k b : Nat} (h : (f_bytes c)[k]? = some b) : f_B c k b := by
  unfold f_bytes at h
  rw [List.getElem?_map, Option.map_eq_some_iff] at h
  obtain ⟨u, h1, h2⟩ := h
  obtain ⟨hk, e⟩ := List.getElem?_eq_some_iff.mp h1
  have hk2 : k < c.size := by
    have := hk
    rw [Array.length_toList] at this
    exact this
  refine ⟨hk2, ?_⟩
  rw [← h2, ← e]
  rfl
/-- goes through a method's list of instructions and its bytes at once -/
def f_walk (c : ByteArray) : List (Nat × Instr × Nat) → Nat → List Nat → Bool
  | [], _, _ => true
  | e :: L, p, bs => Nat.beq e.1 p && (match f_pre (f_code e.2.1) bs with
    | some r => (match f_code e.2.1 with
      | [] => decide (decode c e.1 = .ok e.2) && f_walk c L (p + e.2.2) (bs.drop e.2.2)
      | _ :: xs => Nat.beq e.2.2 (xs.length + 1) && f_walk c L (p + e.2.2) r)
    | none => false)
theorem f_walk_ok {c : ByteArray} : ∀ {L : List (Nat × Instr × Nat)} {p : Nat}, f_walk c L p ((f_bytes c).drop p) = true → ∀ e ∈ L, decode c e.1 = .ok e.2
  | [], p, _, e, he => by cases he
  | x :: L, p, h, e, he => by
    rw [f_walk, Bool.and_eq_true] at h
    obtain ⟨h1, h2⟩ := h
    have h1 := Nat.eq_of_beq_eq_true h1
    split at h2
    · rename_i r hr
      have hp := f_pre_ok hr
      split at h2
      · rw [Bool.and_eq_true, decide_eq_true_eq, List.drop_drop] at h2
        rcases List.mem_cons.mp he with q | q
        · rw [q]; exact h2.1
        · exact f_walk_ok h2.2 e q
      · rename_i y xs hc
        rw [Bool.and_eq_true] at h2
        have hl := Nat.eq_of_beq_eq_true h2.1
        have hlen : (f_code x.2.1).length = x.2.2 := by rw [hc, hl]; rfl
        have hr2 : r = (f_bytes c).drop (p + x.2.2) := by
          rw [← List.drop_drop, hp, ← hlen, List.drop_left]
        rcases List.mem_cons.mp he with q | q
        · subst q
          have k := f_code_ok (c := c) (p := e.1) (i := e.2.1) (by rw [hc]; exact List.cons_ne_nil _ _) (fun k b hb => by
            refine f_B_of ?_
            rw [h1]
            have hk := (List.getElem?_eq_some_iff.mp hb).1
            have : ((f_bytes c).drop p)[k]? = some b := by rw [hp, List.getElem?_append_left hk]; exact hb
            rw [List.getElem?_drop] at this
            exact this)
          rw [k, hlen]
        · rw [hr2] at h2
          exact f_walk_ok h2.2 e q
    · cases h2
