/-! Which step takes an instruction; a run's first step -/
def z_cl (i : Instr) : Nat := match i with
  | .iconst _ | .bipush _ | .sipush _ | .lconst _ | .fconst _ | .dconst _ => 1
  | .iload _ | .iload_n _ | .lload _ | .lload_n _ | .fload _ | .dload _ | .aload _ | .aload_n _ => 1
  | .istore _ | .istore_n _ | .lstore _ | .lstore_n _ | .fstore _ | .dstore _ | .astore _ | .astore_n _ => 1
  | .iinc _ _ | .goto _ | .ifCond _ _ | .if_icmp _ _ | .if_acmp _ _ | .dup | .dup2 | .pop => 1
  | .i2l | .i2c | .i2f | .i2d | .f2d | .ladd | .lmul | .lcmp | .fdiv | .ddiv | .fcmp _ | .dcmp _ => 2
  | .iadd | .isub | .imul | .iand | .ior | .idiv | .irem | .ixor | .iushr => 2
  | .iaload | .baload | .caload | .laload | .daload | .aaload => 3
  | .arraylength | .ldc _ | .ldc_w _ | .ldc2_w _ | .getfield _ | .putfield _ | .iastore | .bastore | .castore | .lastore | .dastore => 4
  | .newarray _ => 5
  | .invokestatic _ => 6
  | .pop2 => 7
  | .invokevirtual _ => 8
  | .tableswitch _ _ _ _ => 9
  | .ireturn | .lreturn | .freturn | .dreturn | .return_ => 10
  | _ => 0
section CL
variable {own pc len : Nat} {ini : Bool} {i : Instr} {al : AL} {st : List Value} {h : AH}
theorem z_constn (hi : z_cl i ≠ 1) : a_const i = none := by
  unfold a_const
  split <;> first | exact absurd rfl hi | rfl
theorem z_loadn (hi : z_cl i ≠ 1) : a_load i = none := by
  unfold a_load
  split <;> first | exact absurd rfl hi | rfl
theorem z_storen (hi : z_cl i ≠ 1) : a_store i = none := by
  unfold a_store
  split <;> first | exact absurd rfl hi | rfl
theorem z_astn {t : Nat} {x : Value} (hi : z_cl i ≠ 4) : a_ast i t x = none := by
  unfold a_ast
  split <;> first | exact absurd rfl hi | rfl
theorem z_binn {x y : Int32} (hi : z_cl i ≠ 2) : a_bin i x y = none := by
  unfold a_bin
  split <;> first | exact absurd rfl hi | rfl
theorem z_aldn {t : Nat} (hi : z_cl i ≠ 3) : a_ald i t = false := by
  unfold a_ald
  split <;> first | exact absurd rfl hi | rfl
theorem z_n1 (h0 : z_cl i ≠ 0) (hi : z_cl i ≠ 1) : a_st1 i pc al st h = none := by
  unfold a_st1
  rw [z_constn hi]
  dsimp only
  rw [z_loadn hi]
  dsimp only
  rw [z_storen hi]
  dsimp only
  split <;> first | exact absurd rfl hi | rfl
theorem z_n4 (h0 : z_cl i ≠ 0) (hi : z_cl i ≠ 4) : a_st4 own ini i pc al st h = none := by
  unfold a_st4
  split <;> first
    | exact absurd rfl hi
    | rfl
    | (split
       · rw [z_astn hi]
       · rfl)
theorem z_n2 (h0 : z_cl i ≠ 0) (hi : z_cl i ≠ 2) : a_st2 i pc al st h = none := by
  unfold a_st2
  split <;> first
    | exact absurd rfl hi
    | rfl
    | (rw [z_binn hi]; rfl)
theorem z_n3 (h0 : z_cl i ≠ 0) (hi : z_cl i ≠ 3) : a_st3 i pc al st h = none := by
  unfold a_st3
  split
  · split
    · rw [z_aldn hi, if_neg (by decide)]
    · rfl
  · rfl
theorem z_n5 (h0 : z_cl i ≠ 0) (hi : z_cl i ≠ 5) (h6 : z_cl i ≠ 6) : a_st5 own i pc al st h = none := by
  unfold a_st5
  split <;> first
    | exact absurd rfl h0
    | exact absurd rfl hi
    | exact absurd rfl h6
    | rfl
theorem z_n6 (h0 : z_cl i ≠ 0) : a_st6 own i pc al st h = none := by
  unfold a_st6
  split <;> first
    | exact absurd rfl h0
    | rfl
theorem z_nw (h0 : z_cl i ≠ 0) (hi : z_cl i ≠ 9) : a_sw i pc al st h = none := by
  unfold a_sw
  split <;> first | exact absurd rfl hi | rfl
theorem z_na (h0 : z_cl i ≠ 0) (h6 : z_cl i ≠ 6) (h7 : z_cl i ≠ 7) : a_acp own i len st h = none := by
  unfold a_acp
  split <;> first | exact absurd rfl h6 | exact absurd rfl h7 | rfl
theorem z_ne {mi : Nat} (h0 : z_cl i ≠ 10) : a_end mi i st = none := by
  unfold a_end
  split <;> first | exact absurd rfl h0 | rfl
theorem z_nt {mi : Nat} (h0 : z_cl i ≠ 0) : a_trw mi pc i st = none := by
  unfold a_trw
  split <;> first | exact absurd rfl h0 | rfl
theorem z_nc (h0 : z_cl i ≠ 0) (h6 : z_cl i ≠ 6) (h8 : z_cl i ≠ 8) : a_call own i st h = none := by
  unfold a_call
  split <;> first | exact absurd rfl h0 | exact absurd rfl h6 | exact absurd rfl h8 | rfl
/-- what a step is -/
theorem z_stp {q : AS} (h0 : z_cl i ≠ 0) (hr : a_stp own ini i len pc al st h = some q) : (z_cl i = 9 ∧ a_sw i pc al st h = some q) ∨ (len = a_len i ∧ ((z_cl i = 1 ∧ a_st1 i pc al st h = some q) ∨ (z_cl i = 4 ∧ a_st4 own ini i pc al st h = some q) ∨ (z_cl i = 2 ∧ a_st2 i pc al st h = some q) ∨ (z_cl i = 3 ∧ a_st3 i pc al st h = some q) ∨ ((z_cl i = 5 ∨ z_cl i = 6) ∧ a_st5 own i pc al st h = some q))) := by
  unfold a_stp at hr
  split at hr
  · rename_i r hs
    cases hr
    left
    refine ⟨?_, hs⟩
    by_cases e : z_cl i = 9
    · exact e
    · rw [z_nw h0 e] at hs
      cases hs
  · right
    split at hr
    · rename_i hl
      refine ⟨hl, ?_⟩
      split at hr
      · rename_i r hs
        cases hr
        by_cases e : z_cl i = 1
        · exact Or.inl ⟨e, hs⟩
        · rw [z_n1 h0 e] at hs
          cases hs
      · split at hr
        · rename_i r hs
          cases hr
          by_cases e : z_cl i = 4
          · exact Or.inr (Or.inl ⟨e, hs⟩)
          · rw [z_n4 h0 e] at hs
            cases hs
        · split at hr
          · rename_i r hs
            cases hr
            by_cases e : z_cl i = 2
            · exact Or.inr (Or.inr (Or.inl ⟨e, hs⟩))
            · rw [z_n2 h0 e] at hs
              cases hs
          · split at hr
            · rename_i r hs
              cases hr
              by_cases e : z_cl i = 3
              · exact Or.inr (Or.inr (Or.inr (Or.inl ⟨e, hs⟩)))
              · rw [z_n3 h0 e] at hs
                cases hs
            · split at hr
              · rename_i r hs
                cases hr
                by_cases e : z_cl i = 5
                · exact Or.inr (Or.inr (Or.inr (Or.inr ⟨Or.inl e, hs⟩)))
                · by_cases e6 : z_cl i = 6
                  · exact Or.inr (Or.inr (Or.inr (Or.inr ⟨Or.inr e6, hs⟩)))
                  · rw [z_n5 h0 e e6] at hs
                    cases hs
              · rw [z_n6 h0] at hr
                cases hr
    · cases hr
/-- how a run goes on behind a call -/
def z_cont (call : Nat → List Value → AH → Option AR) (mi f pc : Nat) (i : Instr) (al : AL) (rest : List Value) (h' : AH) (mc ms : Nat) (r : AR) : (Option Value) ⊕ Nat → Prop
  | .inl v => a_go call mi f (pc + 3) al (v.toList ++ rest) h' mc ms = some r
  | .inr k => ((a_hnd mi).isEmpty = true ∧ r = (.inr k, h', mc, ms)) ∨ ((a_hnd mi).isEmpty = false ∧ ∃ x hp n, a_cth mi pc k = some x ∧ a_hdl mi x.2.2.1 = some (hp, n) ∧ n < al.length ∧ a_go call mi f hp (a_drop al n) [] h' mc ms = some r)
theorem z_goI {call : Nat → List Value → AH → Option AR} {mi f mc ms : Nat} {r : AR} (hr : a_go call mi f pc al st h mc ms = some r) : ∃ f' i len, f = f' + 1 ∧ a_ins mi pc = some (i, len) ∧ ((∃ v, a_end mi i st = some v ∧ r = (.inl v, h, mc, ms)) ∨ (∃ k, a_trw mi pc i st = some k ∧ r = (.inr k, h, mc + 1, ms + 6)) ∨ (a_end mi i st = none ∧ a_trw mi pc i st = none ∧ ((∃ mt as rest q h' c s, a_call (a_own mi) i st h = some (mt, as, rest) ∧ call mt as h = some (q, h', c, s) ∧ z_cont call mi f' pc i al rest h' (mc + c) (ms + s) r q) ∨ (a_call (a_own mi) i st h = none ∧ ((∃ pc' al' st' h' c s, a_stp (a_own mi) (a_ini mi) i len pc al st h = some (pc', al', st', h', c, s) ∧ a_go call mi f' pc' al' st' h' (mc + c) (ms + s) = some r) ∨ (∃ st' h', a_acp (a_own mi) i len st h = some (st', h') ∧ a_go call mi f' (pc + len) al st' h' mc ms = some r)))))) := by
  cases f with
  | zero => cases hr
  | succ f =>
    rw [a_go] at hr
    split at hr
    · cases hr
    · rename_i i len hi
      refine ⟨f, i, len, rfl, hi, ?_⟩
      split at hr
      · rename_i v hv
        cases hr
        exact Or.inl ⟨v, hv, rfl⟩
      · rename_i hv
        split at hr
        · rename_i k hk
          cases hr
          exact Or.inr (Or.inl ⟨k, hk, rfl⟩)
        · rename_i hk
          right; right
          refine ⟨hv, hk, ?_⟩
          split at hr
          · rename_i mt as rest hca
            left
            split at hr
            · rename_i v h' c s hcc
              exact ⟨mt, as, rest, _, h', c, s, hca, hcc, hr⟩
            · rename_i q h' c s hcc
              refine ⟨mt, as, rest, _, h', c, s, hca, hcc, ?_⟩
              split at hr
              · cases hr
              · split at hr
                · rename_i he
                  cases hr
                  exact Or.inl ⟨he, rfl⟩
                · rename_i he
                  split at hr
                  · rename_i x hx
                    split at hr
                    · rename_i hp n hh
                      split at hr
                      · rename_i hn
                        exact Or.inr ⟨by simpa using he, x, hp, n, hx, hh, hn, hr⟩
                      · cases hr
                    · cases hr
                  · cases hr
            · cases hr
          · rename_i hca
            right
            refine ⟨hca, ?_⟩
            split at hr
            · rename_i pc' al' st' h' c s hst
              exact Or.inl ⟨pc', al', st', h', c, s, hst, hr⟩
            · split at hr
              · rename_i st' h' hq
                exact Or.inr ⟨st', h', hq, hr⟩
              · cases hr
/-- a method's answer is there as its type says -/
theorem z_rty {call : Nat → List Value → AH → Option AR} {mi : Nat} : ∀ (f pc : Nat) (al : AL) (st : List Value) (h : AH) (mc ms : Nat) (r : AR), a_go call mi f pc al st h mc ms = some r → ∀ v, r.1 = .inl v → (v = none ↔ a_rty mi = none)
  | 0, pc, al, st, h, mc, ms, r, hr => by cases hr
  | f + 1, pc, al, st, h, mc, ms, r, hr => by
    intro v hv
    obtain ⟨f', i, len, e, hi, k⟩ := z_goI hr
    cases e
    rcases k with ⟨w, k1, k2⟩ | ⟨k, k1, k2⟩ | ⟨-, -, k⟩
    · rw [k2] at hv
      cases hv
      unfold a_end at k1
      split at k1 <;> first
        | (cases k1; done)
        | (split at k1 <;> first
          | (cases k1; done)
          | (cases k1; simp_all; done)
          | (split at k1 <;> first
            | (cases k1; done)
            | (cases k1; simp_all; done)))
    · rw [k2] at hv
      cases hv
    · rcases k with ⟨mt, as, rest, q, h', c, s, k1, k2, k3⟩ | ⟨-, k⟩
      · cases q with
        | inl w => exact z_rty f _ _ _ _ _ _ r k3 v hv
        | inr w =>
          rcases k3 with ⟨k3, k4⟩ | ⟨k3, x, hp, n, k4, k5, k6, k7⟩
          · rw [k4] at hv
            cases hv
          · exact z_rty f _ _ _ _ _ _ r k7 v hv
      · rcases k with ⟨pc', al', st', h', c, s, k1, k2⟩ | ⟨st', h', k1, k2⟩
        · exact z_rty f _ _ _ _ _ _ r k2 v hv
        · exact z_rty f _ _ _ _ _ _ r k2 v hv
end CL
