/-! needs: n05. 'cell' and 'in' -/
theorem n_scr {h : AH} (hI : n_I h) : ∃ vs, h[0]? = some (19, vs) ∧ ∀ v ∈ vs, ∃ x : Int32, v = .int x := by
  obtain ⟨g, e1, e2⟩ := c_gt0
  obtain ⟨vs, k1, -, k3⟩ := hI.1.1 0 g _ (by show c_gt[0]? = some g; rw [e1]; rfl) e2
  refine ⟨vs, k1, fun v hv => ?_⟩
  obtain ⟨j, hj⟩ := List.getElem?_of_mem hv
  have q := k3 j v _ hj rfl
  cases v <;> first | exact ⟨_, rfl⟩ | exact False.elim q
theorem n_andv {x : Int32} : 0 ≤ (x &&& Int32.ofInt 2147483647).toInt := by
  have h : (x &&& Int32.ofInt 2147483647).toBitVec.msb = false := by
    rw [Int32.toBitVec_and, BitVec.msb_and, show (Int32.ofInt 2147483647).toBitVec.msb = false by decide, Bool.and_false]
  have e : (x &&& Int32.ofInt 2147483647).toInt = (x &&& Int32.ofInt 2147483647).toBitVec.toInt := rfl
  rw [e, BitVec.toInt_eq_msb_cond, h]
  simp
theorem n_remv {x : Int32} {m : Int} (m0 : 0 < m) (m1 : m ≤ 60000) : ∃ z, 0 ≤ z ∧ z < m ∧ (x &&& Int32.ofInt 2147483647) - (x &&& Int32.ofInt 2147483647) / Int32.ofInt m * Int32.ofInt m = Int32.ofInt z := by
  have h0 := n_andv (x := x)
  have h1 := b_32 (x &&& Int32.ofInt 2147483647)
  generalize hy : x &&& Int32.ofInt 2147483647 = y at h0 h1 ⊢
  have hr : n_r y.toInt := ⟨by omega, h1.2⟩
  have hm : n_r m := ⟨by omega, by omega⟩
  have e : y = Int32.ofInt y.toInt := (Int32.ofInt_toInt y).symm
  have e2 : Int32.ofInt y.toInt - Int32.ofInt y.toInt / Int32.ofInt m * Int32.ofInt m = Int32.ofInt (y.toInt % m) := by
    rw [n_odiv hr hm, n_omul, n_osub, Int.tdiv_eq_ediv_of_nonneg h0, Int.emod_def, Int.mul_comm]
  refine ⟨y.toInt % m, Int.emod_nonneg _ (by omega), Int.emod_lt_of_pos _ m0, ?_⟩
  rw [← e2, ← e]
theorem n_lenle {n : Nat} : (n.toInt32).toInt ≤ n := by
  show (BitVec.ofNat 32 n).toInt ≤ n
  rw [BitVec.toInt_eq_toNat_bmod, BitVec.toNat_ofNat]
  have hm : n % 2 ^ 32 ≤ n := Nat.mod_le _ _
  unfold Int.bmod
  have e : ((2 ^ 32 : Nat) : Int) = 4294967296 := rfl
  rw [e]
  generalize n % 2 ^ 32 = m at hm
  dsimp only
  split <;> omega
section
variable {d mi : Nat} {P : Value → AH → Prop} {pc len : Nat} {al : AL} {st : List Value} {h : AH} {b : Nat} {i : Instr}
theorem n_ldc {z : Int} {idx : Nat} (hi : a_ins mi pc = some (.ldc idx, 2)) (hv : ((a_of a_cst (a_own mi)).find? (fun e => e.1 == idx)).map (fun e => e.2.1) = some (Int32.ofInt z)) (k : n_ok d mi P (pc + 2) al (n_v z :: st) h b) : n_ok d mi P pc al st h b := n_s4 hi rfl rfl (pc' := pc + 2) (al' := al) (st' := n_v z :: st) (h' := h) (by
  unfold a_st4
  dsimp only
  rw [Option.map_eq_some_iff] at hv ⊢
  obtain ⟨e, h1, h2⟩ := hv
  exact ⟨e, h1, by rw [h2]⟩) k
theorem n_xor {x y : Int32} (hi : a_ins mi pc = some (.ixor, 1)) (k : n_ok d mi P (pc + 1) al (.int (x ^^^ y) :: st) h b) : n_ok d mi P pc al (.int y :: .int x :: st) h b := n_s2 hi rfl rfl rfl k
theorem n_ushr {x y : Int32} (hi : a_ins mi pc = some (.iushr, 1)) (k : n_ok d mi P (pc + 1) al (.int (x.toUInt32 >>> (y.toUInt32 &&& Int32.toUInt32 31)).toInt32 :: st) h b) : n_ok d mi P pc al (.int y :: .int x :: st) h b := n_s2 hi rfl rfl rfl k
end
theorem n_cell {d : Nat} {h : AH} {i : Int} (hI : n_I h) (i0 : 0 ≤ i) (i1 : i ≤ 60000) : ∃ x : Int32, b_lim (d + 1) 83 [.ref 0, n_v i] h = some (.inl (some (.int x)), h, 0, 0) := by
  obtain ⟨vs, s1, s2⟩ := n_scr hI
  have I1 : a_ins 83 0 = some (.ldc 7, 2) ∧ a_ins 83 2 = some (.iload_n 1, 1) ∧ a_ins 83 3 = some (.aload_n 0, 1) ∧ a_ins 83 4 = some (.arraylength, 1) ∧ a_ins 83 5 = some (.if_icmp .ge 9, 3) ∧ a_ins 83 8 = some (.aload_n 0, 1) ∧ a_ins 83 9 = some (.iload_n 1, 1) ∧ a_ins 83 10 = some (.iaload, 1) ∧ a_ins 83 11 = some (.goto 4, 3) ∧ a_ins 83 14 = some (.iconst 0, 1) := by decide +kernel
  have I2 : a_ins 83 15 = some (.sipush 1009, 3) ∧ a_ins 83 18 = some (.iload_n 1, 1) ∧ a_ins 83 19 = some (.imul, 1) ∧ a_ins 83 20 = some (.iadd, 1) ∧ a_ins 83 21 = some (.imul, 1) ∧ a_ins 83 22 = some (.sipush 12345, 3) ∧ a_ins 83 25 = some (.iadd, 1) ∧ a_ins 83 26 = some (.istore_n 2, 1) ∧ a_ins 83 27 = some (.iload_n 2, 1) ∧ a_ins 83 28 = some (.iload_n 2, 1) ∧ a_ins 83 29 = some (.bipush 13, 2) ∧ a_ins 83 31 = some (.iushr, 1) ∧ a_ins 83 32 = some (.ixor, 1) := by decide +kernel
  have I3 : a_ins 83 33 = some (.ldc 8, 2) ∧ a_ins 83 35 = some (.imul, 1) ∧ a_ins 83 36 = some (.istore_n 2, 1) ∧ a_ins 83 37 = some (.iload_n 2, 1) ∧ a_ins 83 38 = some (.iload_n 2, 1) ∧ a_ins 83 39 = some (.bipush 16, 2) ∧ a_ins 83 41 = some (.iushr, 1) ∧ a_ins 83 42 = some (.ixor, 1) ∧ a_ins 83 43 = some (.ireturn, 1) := by decide +kernel
  obtain ⟨k0, k2, k3, k4, k5, k8, k9, k10, k11, k14⟩ := I1
  obtain ⟨k15, k18, k19, k20, k21, k22, k25, k26, k27, k28, k29, k31, k32⟩ := I2
  obtain ⟨k33, k35, k36, k37, k38, k39, k41, k42, k43⟩ := I3
  have hn : a_nrg 83 = 2 ∧ a_mxl 83 = 3 ∧ a_rty 83 = some .int := by decide +kernel
  obtain ⟨hn, hm, hty⟩ := hn
  have hal : a_args 83 [.ref 0, n_v i] = [some (.ref 0), some (n_v i), none] := by
    unfold a_args
    rw [hm]
    rfl
  have tail2 : ∀ x : Int32, ∀ v2 : Value, v2.category = 1 → n_ok d 83 (fun v h' => h' = h ∧ ∃ x : Int32, v = .int x) 33 [some (.ref 0), some (n_v i), some v2] [.int x] h 0 := fun x v2 hv2 => by
    refine n_ldc k33 (z := 1103515245) (by decide +kernel) ?_
    refine n_mul k35 ?_
    refine n_store (q := 2) (kd := 0) (al' := [some (.ref 0), some (n_v i), some (.int (x * Int32.ofInt 1103515245))]) k36 rfl rfl rfl rfl rfl rfl rfl ?_
    refine n_load (q := 2) (kd := 0) k37 rfl rfl rfl rfl rfl rfl ?_
    refine n_load (q := 2) (kd := 0) k38 rfl rfl rfl rfl rfl rfl ?_
    refine n_push k39 rfl rfl rfl ?_
    refine n_ushr k41 ?_
    refine n_xor k42 ?_
    exact n_ret k43 hty rfl ⟨rfl, _, rfl⟩
  have tail1 : ∀ x : Int32, n_ok d 83 (fun v h' => h' = h ∧ ∃ x : Int32, v = .int x) 15 [some (.ref 0), some (n_v i), none] [.int x, n_v 69069] h 0 := fun x => by
    refine n_push k15 rfl rfl rfl ?_
    refine n_load (q := 1) (kd := 0) k18 rfl rfl rfl rfl rfl rfl ?_
    refine n_mul k19 ?_
    refine n_add k20 ?_
    refine n_mul k21 ?_
    refine n_push k22 rfl rfl rfl ?_
    refine n_add k25 ?_
    refine n_store (q := 2) (kd := 0) k26 rfl rfl rfl rfl rfl rfl rfl ?_
    refine n_load (q := 2) (kd := 0) k27 rfl rfl rfl rfl rfl rfl ?_
    refine n_load (q := 2) (kd := 0) k28 rfl rfl rfl rfl rfl rfl ?_
    refine n_push k29 rfl rfl rfl ?_
    refine n_ushr k31 ?_
    refine n_xor k32 ?_
    exact tail2 _ _ rfl
  have all : n_ok d 83 (fun v h' => h' = h ∧ ∃ x : Int32, v = .int x) 0 (a_args 83 [.ref 0, n_v i]) [] h 0 := by
    rw [hal]
    refine n_ldc k0 (z := 69069) (by decide +kernel) ?_
    refine n_load (q := 1) (kd := 0) k2 rfl rfl rfl rfl rfl rfl ?_
    refine n_load (q := 0) (kd := 4) k3 rfl rfl rfl rfl rfl rfl ?_
    refine n_len k4 s1 rfl ?_
    refine n_if2 (t := 14) k5 rfl (fun e => ?_) (fun e => ?_)
    · refine n_push k14 rfl rfl rfl ?_
      exact tail1 _
    · have e : decide (vs.length.toInt32 ≤ Int32.ofInt i) = false := e
      have e := of_decide_eq_false e
      rw [Int32.le_iff_toInt_le, n_to ⟨by omega, by omega⟩] at e
      have l := n_lenle (n := vs.length)
      have hlt : i < vs.length := by omega
      have hx : a_ix (Int32.ofInt i) vs.length = some i.toNat := by
        have e1 : (Int32.ofInt i).toInt = i := n_to ⟨by omega, by omega⟩
        have e2 : (Int32.ofInt i).toNatClampNeg = i.toNat := by
          show (Int32.ofInt i).toInt.toNat = i.toNat
          rw [e1]
        unfold a_ix
        rw [if_neg, e2]
        intro q
        rcases q with q | q
        · rw [Int32.lt_iff_toInt_lt, e1] at q
          have z : (0 : Int32).toInt = 0 := by decide
          omega
        · rw [e2] at q
          omega
      obtain ⟨x, hx2⟩ := s2 _ (List.getElem_mem (show i.toNat < vs.length by omega))
      refine n_load (q := 0) (kd := 4) k8 rfl rfl rfl rfl rfl rfl ?_
      refine n_load (q := 1) (kd := 0) k9 rfl rfl rfl rfl rfl rfl ?_
      refine n_ald k10 rfl rfl s1 rfl hx (v := .int x) (by rw [List.getElem?_eq_getElem (show i.toNat < vs.length by omega), hx2]) ?_
      refine n_goto (t := 15) k11 rfl ?_
      exact tail1 _
  obtain ⟨v, h', c, s, e, ⟨e1, x, e2⟩, hc, hs⟩ := n_ok.lim (by rw [hn, hm]; exact ⟨rfl, (by decide : 2 ≤ 3), rfl⟩) all
  subst e1 e2
  have hc : c = 0 := by omega
  have hs : s = 0 := by omega
  subst hc hs
  exact ⟨x, e⟩
theorem n_in {d : Nat} {h : AH} {i m : Int} (hI : n_I h) (i0 : 0 ≤ i) (i1 : i ≤ 60000) (m0 : 0 < m) (m1 : m ≤ 60000) : ∃ z, 0 ≤ z ∧ z < m ∧ b_lim (d + 2) 95 [.ref 0, n_v i, n_v m] h = some (.inl (some (n_v z)), h, 0, 0) := by
  have I1 : a_ins 95 0 = some (.aload_n 0, 1) ∧ a_ins 95 1 = some (.iload_n 1, 1) ∧ a_ins 95 2 = some (.invokestatic 63, 3) ∧ a_ins 95 5 = some (.ldc 69, 2) ∧ a_ins 95 7 = some (.iand, 1) ∧ a_ins 95 8 = some (.iload_n 2, 1) ∧ a_ins 95 9 = some (.irem, 1) ∧ a_ins 95 10 = some (.ireturn, 1) := by decide +kernel
  obtain ⟨k0, k1, k2, k5, k7, k8, k9, k10⟩ := I1
  have hn : a_nrg 95 = 3 ∧ a_mxl 95 = 3 ∧ a_rty 95 = some .int ∧ a_own 95 = 13 := by decide +kernel
  obtain ⟨hn, hm, hty, ho⟩ := hn
  have hal : a_args 95 [.ref 0, n_v i, n_v m] = [some (.ref 0), some (n_v i), some (n_v m)] := by
    unfold a_args
    rw [hm]
    rfl
  have hmr : n_r m := ⟨by omega, by omega⟩
  have all : n_ok (d + 1) 95 (fun v h' => h' = h ∧ ∃ z, 0 ≤ z ∧ z < m ∧ v = n_v z) 0 (a_args 95 [.ref 0, n_v i, n_v m]) [] h 0 := by
    rw [hal]
    refine n_load (q := 0) (kd := 4) k0 rfl rfl rfl rfl rfl rfl ?_
    refine n_load (q := 1) (kd := 0) k1 rfl rfl rfl rfl rfl rfl ?_
    obtain ⟨x, hx⟩ := n_cell (d := d) hI i0 i1
    refine (n_call (b1 := 0) (b := 0) (Q := fun v g => g = h ∧ v = .int x) (mt := 83) (as := [.ref 0, n_v i]) (rest := []) k2 rfl rfl (by rw [ho]; rfl) ⟨_, _, _, _, hx, ⟨rfl, rfl⟩, Nat.le_refl _, Nat.le_refl _⟩ (fun v g hv => ?_)).le (Nat.le_refl _)
    obtain ⟨rfl, rfl⟩ := hv
    refine n_ldc k5 (z := 2147483647) (by decide +kernel) ?_
    refine n_and k7 ?_
    refine n_load (q := 2) (kd := 0) k8 rfl rfl rfl rfl rfl rfl ?_
    refine n_rem k9 (fun q => ?_) ?_
    · have := congrArg Int32.toInt q
      rw [n_to hmr] at this
      have z : (0 : Int32).toInt = 0 := by decide
      omega
    obtain ⟨z, z0, z1, e⟩ := n_remv (x := x) m0 m1
    rw [e]
    exact n_ret k10 hty rfl ⟨rfl, z, z0, z1, rfl⟩
  obtain ⟨v, h', c, s, e, ⟨e1, z, z0, z1, e2⟩, hc, hs⟩ := n_ok.lim (by rw [hn, hm]; exact ⟨rfl, (by decide : 3 ≤ 3), rfl⟩) all
  subst e1 e2
  have hc : c = 0 := by omega
  have hs : s = 0 := by omega
  subst hc hs
  exact ⟨z, z0, z1, e⟩
theorem n_kin {d mi pc p' n idx b : Nat} {P : Value → AH → Prop} {T : Nat → Nat} {l : Nat → Int} {vl st : List Value} {A : Nat → Int → Int} {K : ZS → Prop} {i m : Int} (hi : a_ins mi pc = some (.invokestatic idx, 3)) (hcl : ∀ h, a_call (a_own mi) (.invokestatic idx) (n_v m :: n_v i :: .ref 0 :: st) h = some (95, [.ref 0, n_v i, n_v m], st)) (hd : 2 ≤ d) (i0 : 0 ≤ i) (i1 : i ≤ 60000) (m0 : 0 < m) (m1 : m ≤ 60000) (hp : pc + 3 = p') (k : ∀ z, 0 ≤ z → z < m → n_J d mi P T l p' vl (n_v z :: st) n A K b) : n_J d mi P T l pc vl (n_v m :: n_v i :: .ref 0 :: st) n A K b := fun al h a1 a2 a3 a4 => by
  obtain ⟨j, rfl⟩ := Nat.exists_eq_add_of_le hd
  obtain ⟨z, z0, z1, e⟩ := n_in (d := j) a3 i0 i1 m0 m1
  have q := n_call (d := 2 + j) (b1 := 0) (b := b) (P := P) (al := al) (Q := fun v g => g = h ∧ v = n_v z) hi rfl rfl (hcl h) ⟨_, _, _, _, (by rw [Nat.add_comm]; exact e), ⟨rfl, rfl⟩, Nat.le_refl _, Nat.zero_le _⟩ (fun v g hv => by
    obtain ⟨rfl, rfl⟩ := hv
    rw [hp]
    exact k z z0 z1 al g a1 a2 a3 a4)
  exact q.le (by omega)
