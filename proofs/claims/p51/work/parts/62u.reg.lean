/-! A region of a method with loops of its own, from one place to others -/
def b_rgR (S : BSg) : BRw := (S.1.1, 0, ([], S.2.1.2.2), S.2.2.1, [])
def b_rgo (K : BH) (S : BSg) (cuts : List BCu) (T0 : Option BCu) (o : BY) : Bool := (S.2.2.2.any fun p => b_sgo K S.2.1.2.2.1 S.2.2.1 p o) || (match o.1 with
  | .inl _ => false
  | .inr (pc, bl, bs) => decide (o.2.2 = (0, 0)) && cuts.any fun T => decide (T.1 = pc) && (match b_at K (b_rgR S) T bl bs o.2.1 with
    | some σ => b_fall o.2.1.1 σ T0 T
    | none => false))
def b_rgP (S : BSg) (T0 : Option BCu) : Nat := match T0 with
  | none => S.1.2
  | some T => T.1
def b_rgL (S : BSg) (T0 : Option BCu) : BL := match T0 with
  | none => S.2.1.1
  | some T => T.2.1
def b_rgS (S : BSg) (T0 : Option BCu) : List BV := match T0 with
  | none => S.2.1.2.1
  | some _ => []
def b_rgG (S : BSg) (T0 : Option BCu) : BG := match T0 with
  | none => (S.2.1.2.2.1, S.2.1.2.2.2.1, S.2.1.2.2.2.2, [], [])
  | some T => b_GT (b_rgR S) T
noncomputable def b_rgs (K : BH) (cB : BK) (S : BSg) (cuts : List BCu) (stops : List Nat) (F : Nat) (T0 : Option BCu) : Bool := (b_sts (b_rgL S T0) (b_rgG S T0) (b_sQ T0)).all fun s => match b_ex K cB ((cuts.map fun T => T.1) ++ stops) S.1.1 F true (b_rgP S T0) s.1 (b_rgS S T0) s.2.1 0 0 with
  | some L => L.all (b_rgo K S cuts (b_repT s.2.2 T0))
  | none => false
noncomputable def b_rgc (K : BH) (cB : BK) (S : BSg) (cuts : List BCu) (stops : List Nat) (F : Nat) : Bool := cuts.all (b_cutOK (b_rgR S)) && (b_rgs K cB S cuts stops F none && cuts.all fun T => b_rgs K cB S cuts stops F (some T))
section RG
variable {K : BH} {ν : BN} {h0 h : AH} {G : BG}
theorem b_sgq.back {d mi pc pc2 mc ms N : Nat} {al al2 : AL} {st st2 : List Value} {h2 h' : AH} {p : BSo} (hb : ∀ r, b_R d mi pc2 al2 st2 h2 mc ms r → b_R d mi pc al st h mc ms r) (k : b_sgq d mi pc2 al2 st2 h2 mc ms N ν h' p) : b_sgq d mi pc al st h mc ms N ν h' p := by
  unfold b_sgq at k ⊢
  split at k
  · rename_i k0 hk
    obtain ⟨r, k1, k2⟩ := k
    (try rw [hk])
    exact ⟨r, hb r k1, k2⟩
  · rename_i a b c hk
    obtain ⟨al', st', k1, k2, k3⟩ := k
    (try rw [hk])
    exact ⟨al', st', k1, k2, fun r hr => hb r (k3 r hr)⟩
/-- what a region comes to -/
def b_rgq (K : BH) (S : BSg) (d pc : Nat) (ν : BN) (h0 : AH) (al : AL) (st : List Value) (h : AH) (mc ms : Nat) : Prop := ∃ p ∈ S.2.2.2, ∃ ν' h', b_ext S.2.1.2.2.1.length (S.2.1.2.2.1 ++ p.2.1.1).length ν ν' ∧ b_G K ν' h0 h' (S.2.1.2.2.1 ++ p.2.1.1, p.2.1.2.1, p.2.1.2.2, [], S.2.2.1) ∧ b_sgq d S.1.1 pc al st h mc ms (S.2.1.2.2.1 ++ p.2.1.1).length ν' h' p
theorem b_rgs_ok (hJ : b_JF K) {d F : Nat} {cB : BK} (hc : b_cal K (b_lim d) cB) {S : BSg} {cuts : List BCu} {stops : List Nat} {T0 : Option BCu} {mc ms : Nat} (hcut : cuts.all (b_cutOK (b_rgR S)) = true) (hN : S.2.1.2.2.1.length ≤ (b_rgG S T0).1.length) (hseg : b_rgs K cB S cuts stops F T0 = true) {al : AL} {st : List Value} (hl : b_L (b_rgG S T0).1.length ν (b_rgL S T0) al) (hs : b_S (b_rgG S T0).1.length ν (b_rgS S T0) st) (g : b_G K ν h0 h (b_rgG S T0))
    (IH : ∀ (T : BCu) (ν' : BN) (al' : AL) (h' : AH), T ∈ cuts → b_L (b_GT (b_rgR S) T).1.length ν' T.2.1 al' → b_G K ν' h0 h' (b_GT (b_rgR S) T) → (∀ T1, T0 = some T1 → b_rv ν' T.2.2.2.1 < b_rv ν T1.2.2.2.1) → b_rgq K S d T.1 ν' h0 al' [] h' mc ms)
    (hr0 : ∀ T1, T0 = some T1 → T1.2.2.2.1.1.all (fun q => decide (q.1 < (b_rgG S T0).1.length)) = true) : b_rgq K S d (b_rgP S T0) ν h0 al st h mc ms := by
  unfold b_rgs at hseg
  obtain ⟨ss, ss1, hl, g, ssl, ssq⟩ := b_sts_ok (q := b_sQ T0) g hl (fun x y e => by
    cases T0 with
    | none => cases e
    | some T =>
      unfold b_sQ at e
      dsimp only at e
      split at e
      · split at e
        · rename_i c
          cases e
          exact c
        · cases e
      · cases e)
  have hseg := List.all_eq_true.mp hseg ss ss1
  have hN0 := hN
  rw [← ssl] at hN hs
  split at hseg
  · rename_i L hL
    obtain ⟨o, o1, k⟩ := b_ex_ok hJ (mc0 := mc) (ms0 := ms) hc F true (b_rgP S T0) ss.1 (b_rgS S T0) ss.2.1 0 0 L ν al st h mc ms hL hl hs g rfl rfl
    have ho := List.all_eq_true.mp hseg o o1
    unfold b_rgo at ho
    rw [Bool.or_eq_true] at ho
    have xN : b_ext S.2.1.2.2.1.length ss.2.1.1.length ν ν := ⟨hN, fun _ _ => rfl⟩
    rcases ho with ho | ho
    · obtain ⟨p, p1, p2⟩ := List.any_eq_true.mp ho
      obtain ⟨ν', x, k⟩ := k
      obtain ⟨ν2, h2, y1, y2, y3⟩ := b_sgo_ok (ν := ν) (N := S.2.1.2.2.1.length) rfl p2 ⟨ν', xN.tr x, k⟩
      exact ⟨p, p1, ν2, h2, y1, y2, y3⟩
    · obtain ⟨ν', x, k⟩ := k
      rcases k with ⟨q, r, q1, -⟩ | ⟨pc', bl', bs', al', st', h', mc', ms', q1, q2, q3, q4, q5, q6, q7⟩
      · rw [q1] at ho
        cases ho
      · rw [q1] at ho
        dsimp only at ho
        rw [Bool.and_eq_true, decide_eq_true_eq] at ho
        obtain ⟨ho1, ho2⟩ := ho
        obtain ⟨T, t1, t2⟩ := List.any_eq_true.mp ho2
        rw [Bool.and_eq_true, decide_eq_true_eq] at t2
        obtain ⟨t2, t3⟩ := t2
        split at t3
        · rename_i σ hσ
          have hcT := List.all_eq_true.mp hcut T t1
          unfold b_cutOK at hcT
          rw [Bool.and_eq_true, decide_eq_true_eq] at hcT
          obtain ⟨a1, a2, a3, a4⟩ := b_at_ok q5 q3 hσ hcT.1
          subst a1
          obtain rfl := q4.inv0
          have e1 : mc' = mc := q6.trans (by rw [ho1]; rfl)
          have e2 : ms' = ms := q7.trans (by rw [ho1]; rfl)
          subst e1 e2
          obtain ⟨p, p1, ν2, h2, y1, y2, y3⟩ := IH T (b_vT σ ν') al' h' t1 a2 a3 (fun T1 e => by
            have e3 : b_rv ν' T1.2.2.2.1 = b_rv ν T1.2.2.2.1 := by
              unfold b_rv
              rw [b_sum_cg (fun q hq => x.2 _ (by rw [ssl]; exact of_decide_eq_true (List.all_eq_true.mp (hr0 T1 e) q hq)))]
            rw [e] at t3
            have k : b_rv (b_vT σ ν') T.2.2.2.1 < b_rv ν' T1.2.2.2.1 := by
              cases hss : ss.2.2 with
              | none =>
                rw [hss] at t3
                exact b_dec_ok q5.1 t3
              | some xy =>
                obtain ⟨xx, yy⟩ := xy
                rw [hss] at t3
                have k := b_dec_ok q5.1 t3
                obtain ⟨z1, z2, z3⟩ := ssq xx yy hss
                have e4 : ν' xx = ν' yy := by rw [x.2 _ (by rw [ssl]; exact z2), x.2 _ (by rw [ssl]; exact z3)]; exact z1
                have e5 : b_rv ν' (b_repL xx yy T1.2.2.2.1.1, T1.2.2.2.1.2) = b_rv ν' T1.2.2.2.1 := by
                  unfold b_rv
                  rw [b_sum_rep e4]
                rw [← e5]
                exact k
            rw [← e3]
            exact k)
          refine ⟨p, p1, ν2, h2, ⟨y1.1, fun n hn => (y1.2 n hn).trans ((a4.2 n hn).trans (x.2 n (Nat.lt_of_lt_of_le hn hN)))⟩, y2, ?_⟩
          rw [t2] at y3
          exact y3.back q2
        · cases t3
  · cases hseg
theorem b_rgc_ok (hJ : b_JF K) {d F : Nat} {cB : BK} (hc : b_cal K (b_lim d) cB) {S : BSg} {cuts : List BCu} {stops : List Nat} {mc ms : Nat} (hk : b_rgc K cB S cuts stops F = true) {al : AL} {st : List Value} (hl : b_L S.2.1.2.2.1.length ν S.2.1.1 al) (hs : b_S S.2.1.2.2.1.length ν S.2.1.2.1 st) (g : b_G K ν h h (S.2.1.2.2.1, S.2.1.2.2.2.1, S.2.1.2.2.2.2, [], [])) : b_rgq K S d S.1.2 ν h al st h mc ms := by
  unfold b_rgc at hk
  rw [Bool.and_eq_true, Bool.and_eq_true] at hk
  obtain ⟨k2, k3, k4⟩ := hk
  have cut : ∀ (m : Nat) (T : BCu) (ν : BN) (al : AL) (h0 h : AH), T ∈ cuts → b_L (b_GT (b_rgR S) T).1.length ν T.2.1 al → b_G K ν h0 h (b_GT (b_rgR S) T) → (b_rv ν T.2.2.2.1).toNat < m → b_rgq K S d T.1 ν h0 al [] h mc ms := by
    intro m
    induction m with
    | zero => intro T ν al h0 h _ _ _ hm; omega
    | succ m ih =>
      intro T ν al h0 h hT hl g hm
      have hcT := List.all_eq_true.mp k2 T hT
      unfold b_cutOK at hcT
      rw [Bool.and_eq_true, decide_eq_true_eq, Bool.and_eq_true] at hcT
      obtain ⟨c1, c2, c3⟩ := hcT
      refine b_rgs_ok hJ hc (T0 := some T) k2 c1 (List.all_eq_true.mp k4 T hT) hl b_S.nil g (fun T' ν' al' h' hT' hl' g' hlt => ?_) (fun T1 e => by cases e; exact c3)
      refine ih T' ν' al' h0 h' hT' hl' g' ?_
      have hlt := hlt T rfl
      have hcT' := List.all_eq_true.mp k2 T' hT'
      unfold b_cutOK at hcT'
      rw [Bool.and_eq_true, decide_eq_true_eq, Bool.and_eq_true] at hcT'
      obtain ⟨-, c2', -⟩ := hcT'
      split at c2'
      · rename_i u hu
        have k := b_ub_ok g'.1 hu
        rw [b_sum_neg] at k
        have c2' := of_decide_eq_true c2'
        have e : b_rv ν' T'.2.2.2.1 = b_sum ν' T'.2.2.2.1.1 + T'.2.2.2.1.2 := rfl
        omega
      · cases c2'
  exact b_rgs_ok hJ hc (T0 := none) k2 (Nat.le_refl _) k3 hl hs g (fun T ν' al' h' hT hl' g' _ => cut _ T ν' al' h h' hT hl' g' (Nat.lt_succ_self _)) (fun T1 e => by cases e)
end RG
