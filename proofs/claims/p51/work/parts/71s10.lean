/-! The rule: from a cut a method does what its program says -/
theorem e_hs_ok {k : Nat} {g : Nat → ZR} {S : ZS} : ∀ {l : List ZN}, (∃ e ∈ l, e.1 = k) → ∃ e ∈ l, e.1 = k ∧ e_hs (k + 1) g S l = g e.2.toNat
  | [], h => by
    obtain ⟨e, h1, -⟩ := h
    cases h1
  | a :: l, h => by
    by_cases c : a.1 = k
    · refine ⟨a, List.mem_cons_self, c, ?_⟩
      rw [e_hs, c]
      simp
    · obtain ⟨e, h1, h2⟩ := h
      rcases List.mem_cons.mp h1 with rfl | h1
      · exact absurd h2 c
      · obtain ⟨e', k1, k2, k3⟩ := e_hs_ok (g := g) (S := S) (l := l) ⟨e, h1, h2⟩
        refine ⟨e', List.mem_cons_of_mem _ k1, k2, ?_⟩
        rw [e_hs, ← k3]
        have : (a.1 + 1 == k + 1) = false := by simpa using c
        rw [this]
        rfl
theorem z_all2_ok {f : Int → Nat → Bool} : ∀ {os : List Int} {ts : List ZN}, z_all2 f os ts = true → os.length = ts.length ∧ ∀ (k : Nat) (o : Int), os[k]? = some o → ∃ t, ts[k]? = some t ∧ f o t.1 = true
  | [], [], _ => ⟨rfl, fun k o h => by cases h⟩
  | o :: os, t :: ts, h => by
    rw [z_all2, Bool.and_eq_true] at h
    obtain ⟨h1, h2⟩ := z_all2_ok h.2
    refine ⟨by rw [List.length_cons, List.length_cons, h1], fun k o' hk => ?_⟩
    cases k with
    | zero =>
      cases hk
      exact ⟨t, rfl, h.1⟩
    | succ k => exact h2 k o' hk
  | [], _ :: _, h => by cases h
  | _ :: _, [], h => by cases h
section GO
variable {Q : AH → Prop} {C : ZC} {A : ZM} {I : List (Nat × Nat)} {F : Nat → ZFn} {mi : Nat}
theorem z_swc_ok {d f pc len mc ms : Nat} {i : Instr} {al : AL} {st : List Value} {h : AH} {r : AR} {ν : List Int} {bl : ZL} {bs : List ZV} {op : ZO} (hi : a_ins mi pc = some (i, len)) (hc : z_swc C pc i bl bs op = true) (hl : z_loc ν bl al) (hs : z_stk ν bs st) (P : z_PI h ∧ Q h) (hr : a_go (b_lim d) mi f pc al st h mc ms = some r) (n : Nat) (p : List ZO) : ∃ t xs, z_ev F (n + 1) (op :: p) ν (z_al h) = ((1000 + t, xs), z_al h) ∧ ∃ f', f = f' + 1 ∧ z_goes Q C mi f' t xs (z_al h) (z_X r) := by
  unfold z_swc at hc
  split at hc
  · rename_i x lo m dd xs dflt l hi' offs b
    simp only [Bool.and_eq_true, decide_eq_true_eq, beq_iff_eq] at hc
    obtain ⟨c1, rfl, c2, c3, c4, c5, c6, c7⟩ := hc
    obtain ⟨w, ws, rfl, s1, s2⟩ := hs.c
    obtain rfl := z_stk.n s2
    obtain ⟨f', e, k⟩ := z_goS hi (by show (9 : Nat) ≠ 0; decide) (by show (9 : Nat) ≠ 10; decide) (by show (9 : Nat) ≠ 8; decide) (fun q => absurd q (by show ¬ (9 : Nat) = 6; decide)) hr
    obtain ⟨a1, a2⟩ := z_all2_ok c7
    have tg : ∀ {off : Int} {t : Nat}, z_tgts C pc (xs.drop m.1) bl off t = true → ∀ t', a_tgt pc off = some t' → t' = t ∧ ∀ {mc' ms' : Nat}, a_go (b_lim d) mi f' t' al [] h mc' ms' = some r → z_goes Q C mi f' t ((xs.drop m.1).map (o_v ν)) (z_al h) (z_X r) := fun ht t' ht' => by
      unfold z_tgts at ht
      rw [Bool.and_eq_true, beq_iff_eq] at ht
      obtain ⟨t1, t2⟩ := ht
      rw [t1] at ht'
      cases ht'
      refine ⟨rfl, fun hg => ?_⟩
      split at t2
      · rename_i k sg hsg
        rw [Bool.and_eq_true, decide_eq_true_eq] at t2
        exact ⟨sg, d, al, h, _, _, r, by rw [List.length_map, t2.1]; exact hsg, hg, z_mtL_ok t2.2 hl, P, rfl, rfl⟩
      · cases t2
    rcases k with ⟨q, k1, k2⟩ | ⟨k, -⟩
    · rcases z_stp (by show (9 : Nat) ≠ 0; decide) k1 with ⟨-, b'⟩ | ⟨-, ⟨a, -⟩ | ⟨a, -⟩ | ⟨a, -⟩ | ⟨a, -⟩ | ⟨a | a, -⟩⟩
      · cases w <;> first
          | (cases b'; done)
          | skip
        rename_i X
        have hX : X.toInt = o_v ν b.2.1 := z_num s1 c1
        unfold a_sw at b'
        dsimp only at b'
        by_cases cx : X.toInt < l ∨ hi' < X.toInt
        · rw [if_pos cx, Option.map_eq_some_iff] at b'
          obtain ⟨t', ht', rfl⟩ := b'
          obtain ⟨rfl, g⟩ := tg c6 t' ht'
          refine ⟨dd.1, (xs.drop m.1).map (o_v ν), ?_, f', e, g k2⟩
          show ((1000 + e_sw (o_v ν b.2.1) lo.2 (xs.take m.1) dd.1, _), _) = _
          unfold e_sw
          rw [if_pos]
          rw [← hX, c2, ← a1]
          omega
        · rw [if_neg cx, Option.bind_eq_some_iff] at b'
          obtain ⟨off, ho, b'⟩ := b'
          rw [Option.map_eq_some_iff] at b'
          obtain ⟨t', ht', rfl⟩ := b'
          rw [← Array.getElem?_toList] at ho
          obtain ⟨t, g1, g2⟩ := a2 _ _ ho
          obtain ⟨rfl, g⟩ := tg g2 t' ht'
          refine ⟨t.1, (xs.drop m.1).map (o_v ν), ?_, f', e, g k2⟩
          show ((1000 + e_sw (o_v ν b.2.1) lo.2 (xs.take m.1) dd.1, _), _) = _
          unfold e_sw
          rw [if_neg (by rw [← hX, c2, ← a1]; omega), ← hX, c2, List.getD_eq_getElem?_getD, g1]
          rfl
      · exact absurd a (by show ¬ (9 : Nat) = 1; decide)
      · exact absurd a (by show ¬ (9 : Nat) = 4; decide)
      · exact absurd a (by show ¬ (9 : Nat) = 2; decide)
      · exact absurd a (by show ¬ (9 : Nat) = 3; decide)
      · exact absurd a (by show ¬ (9 : Nat) = 5; decide)
      · exact absurd a (by show ¬ (9 : Nat) = 6; decide)
    · rcases k with k | k
      · exact absurd k (by show ¬ (9 : Nat) = 6; decide)
      · exact absurd k (by show ¬ (9 : Nat) = 7; decide)
  · cases hc
theorem z_post_if {f : Nat} {X : ZX} {b : Bool} {R R' : ZR} (h : z_post Q C mi f X (if b = true then R else R')) : z_post Q C mi f X (bif b then R else R') := by
  cases b <;> exact h
/-- nothing is written but by calls -/
def z_now (p : List ZO) : Bool := p.all fun op => !(z_wop op)
theorem z_nowT {op : ZO} {p : List ZO} (h : (∀ h, Q h) ∨ z_now (op :: p) = true) : (∀ h, Q h) ∨ z_now p = true := by
  rcases h with h | h
  · exact Or.inl h
  · right
    unfold z_now at h ⊢
    rw [List.all_cons, Bool.and_eq_true] at h
    exact h.2
theorem z_nowD {p : List ZO} {o : Nat} (h : (∀ h, Q h) ∨ z_now p = true) : (∀ h, Q h) ∨ z_now (p.drop o) = true := by
  rcases h with h | h
  · exact Or.inl h
  · right
    unfold z_now at h ⊢
    exact List.all_eq_true.mpr fun x hx => List.all_eq_true.mp h x (List.mem_of_mem_drop hx)
theorem z_resT {mt nv d : Nat} {as : List Value} {h : AH} {q : AR} {v : Option Value} {ν : List Int} {rest : List ZV} {crest : List Value} {φ : ZR} (hq : b_lim d mt as h = some q) (hv : q.1 = .inl v) (hn : nv = ν.length) (he : z_out q.1 = φ.1) (hs : z_stk ν rest crest) : z_stk (ν ++ [φ.1.2.getD 0 0]) (z_res mt nv ++ rest) (v.toList ++ crest) := by
  have hrt := z_lim_rty hq v hv
  subst hn
  unfold z_res
  cases v with
  | none =>
    rw [if_pos (hrt.mp rfl)]
    exact hs.app _
  | some w =>
    rw [if_neg (fun c => by have := hrt.mpr c; cases this)]
    refine ⟨z_val.new ?_, hs.app _⟩
    rw [← he, hv]
    rfl
theorem z_go_ok (hF : ∀ mt k ps, z_ps A mt = some (k, ps) → z_met mt k ps (F mt)) (hI : ∀ mt k, (mt, k) ∈ I → ∀ L S, (F mt L S).1 = (0, [L.getD k 0])) (hQ : ∀ mt k ps, z_ps A mt = some (k, ps) → ∀ (d : Nat) (as : List Value) (h : AH) (r : AR) (L : List Int), b_lim d mt as h = some r → z_PI h → L.length = k → z_stk L ps as → Q h → Q r.2.1) : ∀ (g : Nat) (first : Bool) (n : Nat) (p : List ZO) (pc : Nat) (bl : ZL) (bs : List ZV) (nv : Nat), z_go C A I mi g first n p pc bl bs nv = true → ∀ (d f : Nat) (al : AL) (st : List Value) (h : AH) (mc ms : Nat) (r : AR) (ν : List Int) (f0 : Nat), nv = ν.length → a_go (b_lim d) mi f pc al st h mc ms = some r → z_loc ν bl al → z_stk ν bs st → (z_PI h ∧ Q h) → ((∀ h, Q h) ∨ z_now p = true) → (first = false → f < f0) → f ≤ f0 → z_post Q C mi f0 (z_X r) (z_ev F n p ν (z_al h))
  | 0, _, _, _, _, _, _, _, hg, _, _, _, _, _, _, _, _, _, _, _, _, _, _, _, _, _, _ => by cases hg
  | g + 1, first, n, p, pc, bl, bs, nv, hg, d, f, al, st, h, mc, ms, r, ν, f0, hn, hr, hl, hs, P, hw, hf1, hf2 => by
    rw [z_go] at hg
    split at hg
    · -- a cut
      rename_i kc sg hsg
      split at hsg
      · cases hsg
      · rename_i hfirst
        split at hg
        · rename_i n' q xs p'
          rw [Bool.and_eq_true, decide_eq_true_eq] at hg
          obtain ⟨⟨g1, g3⟩, g2⟩ := hg
          obtain rfl := z_stk.n hs
          refine ⟨fun c => absurd c (by show ¬ 1000 + q.1 < 1000; omega), fun _ => ⟨f, hf1 (by simpa using hfirst), ?_⟩⟩
          show z_goes Q C mi f (1000 + q.1 - 1000) _ _ _
          rw [Nat.add_sub_cancel_left, g1]
          exact ⟨sg, d, al, h, mc, ms, r, by show z_sg C pc = some ((xs.map (o_v ν)).length, sg); rw [List.length_map, g3]; exact hsg, hr, z_mtL_ok g2 hl, P, rfl, rfl⟩
        · cases hg
    · split at hg
      · cases hg
      · rename_i i len hi
        split at hg
        · -- a move
          rename_i pc' bl' bs' hm
          rw [f_zs_eq] at hg
          obtain ⟨f', al', st', h', mc', ms', e, hr', hl', hs', P', hS, hh⟩ := z_mv_ok hi hm hl hs P.1 hr
          have P' : z_PI h' ∧ Q h' := ⟨P', by rcases hh with hh | hh; · cases hh
                                              · rw [hh]; exact P.2⟩
          rw [← hS]
          exact z_go_ok hF hI hQ g false n p pc' bl' bs' nv hg d f' al' st' h' mc' ms' r ν f0 hn hr' hl' hs' P' hw (fun _ => by omega) (by omega)
        · split at hg
          · -- a branch on what is known
            rename_i pc' bs' hc
            rw [f_zs_eq] at hg
            unfold z_cc0 at hc
            split at hc
            · rename_i c z z' t bs2 hcnd
              cases hc
              obtain ⟨f', st', mc', ms', e, hr', hs'⟩ := z_cnd_ok hi hcnd hs hr
              exact z_go_ok hF hI hQ g false n p _ bl bs' nv hg d f' al st' h mc' ms' r ν f0 hn hr' hl hs' P hw (fun _ => by omega) (by omega)
            · cases hc
          split at hg
          · rename_i n0 p0 n1 op p1
            split at hg
            · -- an operation
              rename_i pc' bl' bs' hm
              rw [f_zs_eq, f_n_eq] at hg
              rw [hn] at hm
              obtain ⟨⟨f', al', st', h', mc', ms', e, hr', hl', hs', P', hS, hh⟩, hlen, hev⟩ := z_op_ok hi hm hl hs P.1 hr
              have P' : z_PI h' ∧ Q h' := ⟨P', by
                rcases hw with hw | hw
                · exact hw h'
                · rcases hh with hh | hh
                  · unfold z_now at hw
                    rw [List.all_cons, hh] at hw
                    cases hw
                  · rw [hh]
                    exact P.2⟩
              rw [hev F n1 p1, ← hS]
              exact z_go_ok hF hI hQ g false n1 p1 pc' bl' bs' _ hg d f' al' st' h' mc' ms' r _ f0 (by rw [hlen, hn]) hr' hl' hs' P' (z_nowT hw) (fun _ => by omega) (by omega)
            · rw [Bool.or_eq_true, Bool.or_eq_true] at hg
              rcases hg with hg | hg | hg
              · -- an end
                obtain ⟨e1, e2, e3⟩ := z_end_ok hi hg hs hr
                rw [e3 F n1 p1]
                refine ⟨fun _ => ⟨?_, by unfold z_X; rw [e1]; exact ⟨P.1, e2⟩⟩, fun c => absurd c (by show ¬ 1000 ≤ (z_out r.1).1; omega)⟩
                unfold z_X
                rw [e1]
              · -- a switch
                obtain ⟨t, xs, e1, f', e2, e3⟩ := z_swc_ok (F := F) hi hg hl hs P hr n1 p1
                rw [e1]
                refine ⟨fun c => absurd c (by show ¬ 1000 + t < 1000; omega), fun _ => ⟨f', by omega, ?_⟩⟩
                show z_goes Q C mi f' (1000 + t - 1000) _ _ _
                rw [Nat.add_sub_cancel_left]
                exact e3
              · split at hg
                · -- a branch
                  rename_i c sk x y _
                  split at hg
                  · rename_i c' x' y' t bs' hc
                    simp only [Bool.and_eq_true, decide_eq_true_eq, beq_iff_eq, f_n_eq] at hg
                    obtain ⟨⟨g1, rfl, rfl⟩, g2, g3⟩ := hg
                    obtain ⟨f', st', mc', ms', e, hr', hs'⟩ := z_cnd_ok hi hc hs hr
                    show z_post Q C mi f0 _ (bif e_cmp c.1 (o_v ν x) (o_v ν y) then z_ev F n1 p1 ν (z_al h) else z_ev F n1 (p1.drop sk.1) ν (z_al h))
                    rw [g1]
                    apply z_post_if
                    by_cases hb : e_cmp c' (o_v ν x) (o_v ν y) = true
                    · rw [if_pos hb] at hr' ⊢
                      exact z_go_ok hF hI hQ g false n1 p1 t bl bs' nv g2 d f' al st' h mc' ms' r ν f0 hn hr' hl hs' P (z_nowT hw) (fun _ => by omega) (by omega)
                    · rw [if_neg hb] at hr' ⊢
                      exact z_go_ok hF hI hQ g false n1 (p1.drop sk.1) (pc + 3) bl bs' nv g3 d f' al st' h mc' ms' r ν f0 hn hr' hl hs' P (z_nowD (z_nowT hw)) (fun _ => by omega) (by omega)
                  · cases hg
                · -- a call
                  rename_i mt xs _
                  split at hg
                  · rename_i m as rest hc
                    split at hg
                    · rename_i kn ps hps
                      rw [f_zs_eq, f_n_eq] at hg
                      simp only [Bool.and_eq_true, decide_eq_true_eq] at hg
                      obtain ⟨⟨⟨g1, g0⟩, g2, g3⟩, g4⟩ := hg
                      obtain ⟨f', cas, crest, q, h', c', s', e, hsa, hsr, hcall, hcont⟩ := z_cal_ok hi hc hs hr
                      obtain ⟨P', lt, hm⟩ := hF m kn ps hps d cas h _ (xs.map (o_v ν)) hcall P.1 (by rw [List.length_map]; exact g0) (z_mtA_ok g3 hsa)
                      have Q' : Q h' := hQ m kn ps hps d cas h _ (xs.map (o_v ν)) hcall P.1 (by rw [List.length_map]; exact g0) (z_mtA_ok g3 hsa) P.2
                      have e0 : z_out q = (F m (xs.map (o_v ν)) (z_al h)).1 := congrArg Prod.fst hm
                      have eS : z_al h' = (F m (xs.map (o_v ν)) (z_al h)).2 := congrArg Prod.snd hm
                      show z_post Q C mi f0 _ (e_bind (F mt.1 (xs.map (o_v ν)) (z_al h)) (fun v S1 => z_ev F n1 p1 (ν ++ [v]) S1))
                      rw [g1]
                      unfold e_bind
                      cases q with
                      | inl v =>
                        have hv0 : (F m (xs.map (o_v ν)) (z_al h)).1.1 = 0 := by
                          rw [← e0]
                          cases v <;> rfl
                        rw [hv0]
                        show z_post Q C mi f0 _ (z_ev F n1 p1 (ν ++ [(F m (xs.map (o_v ν)) (z_al h)).1.2.getD 0 0]) (F m (xs.map (o_v ν)) (z_al h)).2)
                        rw [← eS]
                        have hcont : a_go (b_lim d) mi f' (pc + 3) al (v.toList ++ crest) h' (mc + c') (ms + s') = some r := hcont
                        exact z_go_ok hF hI hQ g false n1 p1 (pc + 3) bl _ (nv + 1) g4 d f' al _ h' _ _ r _ f0 (by rw [List.length_append, hn]; rfl) hcont (hl.app _) (z_resT hcall rfl hn e0 hsr) ⟨P', Q'⟩ (z_nowT hw) (fun _ => by omega) (by omega)
                      | inr k =>
                        have hv0 : (F m (xs.map (o_v ν)) (z_al h)).1.1 = k + 1 := by
                          rw [← e0]
                          rfl
                        rw [hv0]
                        have lt : k + 1 < 1000 := lt
                        show z_post Q C mi f0 _ (((k + 1) % 1000, []), (F m (xs.map (o_v ν)) (z_al h)).2)
                        rw [← eS, Nat.mod_eq_of_lt lt]
                        rcases hcont with ⟨-, hx⟩ | ⟨hx, -⟩
                        · rw [hx]
                          exact ⟨fun _ => ⟨rfl, P', lt⟩, fun c => absurd c (by show ¬ 1000 ≤ k + 1; omega)⟩
                        · rw [g2] at hx
                          cases hx
                    · cases hg
                  · cases hg
                · -- a call that gives an argument back
                  rename_i mt kk xs _
                  split at hg
                  · rename_i m as rest hc
                    split at hg
                    · rename_i kn ps hps
                      rw [f_zs_eq] at hg
                      simp only [Bool.and_eq_true, decide_eq_true_eq] at hg
                      obtain ⟨⟨⟨⟨g1, g0⟩, g2, g3⟩, g5, g6, g7⟩, g4⟩ := hg
                      obtain ⟨f', cas, crest, q, h', c', s', e, hsa, hsr, hcall, hcont⟩ := z_cal_ok hi hc hs hr
                      obtain ⟨P', lt, hm⟩ := hF m kn ps hps d cas h _ (xs.map (o_v ν)) hcall P.1 (by rw [List.length_map]; exact g0) (z_mtA_ok g3 hsa)
                      have Q' : Q h' := hQ m kn ps hps d cas h _ (xs.map (o_v ν)) hcall P.1 (by rw [List.length_map]; exact g0) (z_mtA_ok g3 hsa) P.2
                      have e0 : z_out q = (F m (xs.map (o_v ν)) (z_al h)).1 := congrArg Prod.fst hm
                      have eS : z_al h' = (F m (xs.map (o_v ν)) (z_al h)).2 := congrArg Prod.snd hm
                      have eI := hI mt.1 kk.1 (by simpa using g5) (xs.map (o_v ν)) (z_al h)
                      show z_post Q C mi f0 _ (z_ev F n1 p1 ν (F mt.1 (xs.map (o_v ν)) (z_al h)).2)
                      rw [g1] at eI ⊢
                      rw [← e0] at eI
                      rw [← eS]
                      cases q with
                      | inl v =>
                        cases v with
                        | none => exact absurd eI (by show ¬ ((0, []) : Nat × List Int) = _; intro q; cases q)
                        | some w =>
                          have hcont : a_go (b_lim d) mi f' (pc + 3) al (w :: crest) h' (mc + c') (ms + s') = some r := hcont
                          have ew : e_v w = o_v ν (xs.getD kk.1 (0, 0)) := by
                            have eI : ((0, [e_v w]) : Nat × List Int) = (0, [(xs.map (o_v ν)).getD kk.1 0]) := eI
                            rw [Prod.mk.injEq, List.cons.injEq] at eI
                            rw [eI.2.1, List.getD_eq_getElem?_getD, List.getD_eq_getElem?_getD, List.getElem?_map]
                            cases xs[kk.1]? <;> rfl
                          exact z_go_ok hF hI hQ g false n1 p1 (pc + 3) bl _ nv g4 d f' al _ h' _ _ r ν f0 hn hcont hl ⟨z_val.n (by decide) (by rw [← hn]; exact g7) (Nat.zero_le _) ew, hsr⟩ ⟨P', Q'⟩ (z_nowT hw) (fun _ => by omega) (by omega)
                      | inr k => exact absurd eI (by show ¬ ((k + 1, []) : Nat × List Int) = _; intro q; cases q)
                    · cases hg
                  · cases hg
                · -- a call whose exceptions are taken
                  rename_i mt m0 xs _
                  split at hg
                  · rename_i m as rest hc
                    split at hg
                    · rename_i kn ps hps
                      rw [f_zs_eq, f_n_eq] at hg
                      simp only [Bool.and_eq_true, decide_eq_true_eq] at hg
                      obtain ⟨⟨⟨⟨⟨g1, g0⟩, g2, g3⟩, g5⟩, g6⟩, g4⟩ := hg
                      obtain ⟨f', cas, crest, q, h', c', s', e, hsa, hsr, hcall, hcont⟩ := z_cal_ok hi hc hs hr
                      obtain ⟨P', lt, hm⟩ := hF m kn ps hps d cas h _ ((xs.drop m0.1).map (o_v ν)) hcall P.1 (by rw [List.length_map]; exact g0) (z_mtA_ok g3 hsa)
                      have Q' : Q h' := hQ m kn ps hps d cas h _ ((xs.drop m0.1).map (o_v ν)) hcall P.1 (by rw [List.length_map]; exact g0) (z_mtA_ok g3 hsa) P.2
                      have e0 : z_out q = (F m ((xs.drop m0.1).map (o_v ν)) (z_al h)).1 := congrArg Prod.fst hm
                      have eS : z_al h' = (F m ((xs.drop m0.1).map (o_v ν)) (z_al h)).2 := congrArg Prod.snd hm
                      show z_post Q C mi f0 _ (e_bindX (F mt.1 ((xs.drop m0.1).map (o_v ν)) (z_al h)) (fun v S1 => z_ev F n1 p1 (ν ++ [v]) S1) (xs.take m0.1) (fun o S1 => z_ev F n1 (p1.drop o) ν S1))
                      rw [g1]
                      unfold e_bindX
                      cases q with
                      | inl v =>
                        have hv0 : (F m ((xs.drop m0.1).map (o_v ν)) (z_al h)).1.1 = 0 := by
                          rw [← e0]
                          cases v <;> rfl
                        rw [hv0]
                        show z_post Q C mi f0 _ (z_ev F n1 p1 (ν ++ [(F m ((xs.drop m0.1).map (o_v ν)) (z_al h)).1.2.getD 0 0]) (F m ((xs.drop m0.1).map (o_v ν)) (z_al h)).2)
                        rw [← eS]
                        have hcont : a_go (b_lim d) mi f' (pc + 3) al (v.toList ++ crest) h' (mc + c') (ms + s') = some r := hcont
                        exact z_go_ok hF hI hQ g false n1 p1 (pc + 3) bl _ (nv + 1) g4 d f' al _ h' _ _ r _ f0 (by rw [List.length_append, hn]; rfl) hcont (hl.app _) (z_resT hcall rfl hn e0 hsr) ⟨P', Q'⟩ (z_nowT hw) (fun _ => by omega) (by omega)
                      | inr k =>
                        have hv0 : (F m ((xs.drop m0.1).map (o_v ν)) (z_al h)).1.1 = k + 1 := by
                          rw [← e0]
                          rfl
                        rw [hv0]
                        show z_post Q C mi f0 _ (e_hs (k + 1) (fun o => z_ev F n1 (p1.drop o) ν (F m ((xs.drop m0.1).map (o_v ν)) (z_al h)).2) (F m ((xs.drop m0.1).map (o_v ν)) (z_al h)).2 (xs.take m0.1))
                        rw [← eS]
                        rcases hcont with ⟨hx, -⟩ | ⟨-, x, hp, nn, x1, x2, x3, x4⟩
                        · rw [hx] at g2
                          cases g2
                        · have hmem : ∃ e ∈ xs.take m0.1, e.1 = k := by
                            have q1 := List.mem_of_find?_eq_some x1
                            have q2 := List.find?_some x1
                            have q3 := List.all_eq_true.mp g5 x q1
                            simp only [Bool.and_eq_true, beq_iff_eq] at q2
                            simp only [Bool.or_eq_true, Bool.not_eq_true', q2.1, Bool.and_self] at q3
                            rcases q3 with q3 | q3
                            · cases q3
                            · obtain ⟨e', e1, e2⟩ := List.any_eq_true.mp q3
                              exact ⟨e', e1, (beq_iff_eq.mp e2).trans q2.2⟩
                          obtain ⟨e', e1, e2, e3⟩ := e_hs_ok (g := fun o => z_ev F n1 (p1.drop o) ν (z_al h')) (S := z_al h') hmem
                          rw [e3]
                          have q4 := List.all_eq_true.mp g6 e' e1
                          rw [e2, x1] at q4
                          dsimp only at q4
                          rw [x2] at q4
                          dsimp only at q4
                          rw [Bool.and_eq_true, decide_eq_true_eq] at q4
                          exact z_go_ok hF hI hQ g false n1 _ hp _ [] nv q4.2 d f' (a_drop al nn) [] h' _ _ r ν f0 hn x4 ((hl.kill nn).setN nn) trivial ⟨P', Q'⟩ (z_nowD (z_nowT hw)) (fun _ => by omega) (by omega)
                    · cases hg
                  · cases hg
                · cases hg
          · cases hg
/-- the rule: one turn from a cut -/
theorem z_turn {g n : Nat} {p : List ZO} {sg : ZL} {f pc : Nat} {L : List Int} {S : ZS} {X : ZX} (hF : ∀ mt k ps, z_ps A mt = some (k, ps) → z_met mt k ps (F mt)) (hI : ∀ mt k, (mt, k) ∈ I → ∀ L S, (F mt L S).1 = (0, [L.getD k 0])) (hQ : ∀ mt k ps, z_ps A mt = some (k, ps) → ∀ (d : Nat) (as : List Value) (h : AH) (r : AR) (L : List Int), b_lim d mt as h = some r → z_PI h → L.length = k → z_stk L ps as → Q h → Q r.2.1) (hw : (∀ h, Q h) ∨ z_now p = true) (hsg : z_sg C pc = some (L.length, sg)) (hg : z_go C A I mi g true n p pc sg [] L.length = true) (hr : z_goes Q C mi f pc L S X) : z_post Q C mi f X (z_ev F n p L S) := by
  obtain ⟨sg', d, al, h, mc, ms, r, h1, h2, h3, h4, h5, h6⟩ := hr
  rw [hsg] at h1
  cases h1
  rw [h6, ← h5]
  exact z_go_ok hF hI hQ g true n p pc sg [] _ hg d f al [] h mc ms r L f rfl h2 h3 trivial h4 hw (fun q => by cases q) (Nat.le_refl _)
end GO
/-- a method's function out of its runs -/
def z_args (mt : Nat) (ps : List ZV) : ZL := ps.map some ++ List.replicate (a_mxl mt - ps.length) none
theorem z_args_ok {L : List Int} {mt : Nat} : ∀ {ps : List ZV} {as : List Value}, z_stk L ps as → (as.all fun v => v.category == 1) = true → ps.length = as.length ∧ ∀ (i : Nat) (p : ZV), ps[i]? = some p → ∃ w, as[i]? = some w ∧ z_val L p w ∧ w.category ≠ 2
  | [], [], _, _ => ⟨rfl, fun i p hp => by cases hp⟩
  | p :: ps, a :: as, h, hc => by
    rw [List.all_cons, Bool.and_eq_true, beq_iff_eq] at hc
    obtain ⟨h1, h2⟩ := z_args_ok (mt := mt) h.2 hc.2
    refine ⟨by rw [List.length_cons, List.length_cons, h1], fun i p' hp => ?_⟩
    cases i with
    | zero =>
      cases hp
      exact ⟨a, rfl, h.1, by rw [hc.1]; decide⟩
    | succ i => exact h2 i p' hp
  | [], _ :: _, h, _ => h.elim
  | _ :: _, [], h, _ => h.elim
def z_Q0 : AH → Prop := fun _ => True
theorem z_met_of {C : ZC} {mt nv : Nat} {ps : List ZV} {φ : ZFn} (hsg : z_sg C 0 = some (nv, z_args mt ps)) (hr : ∀ (f : Nat) (L : List Int) (S : ZS) (X : ZX), L.length = nv → z_goes z_Q0 C mt f 0 L S X → X.1 = φ L S ∧ X.2) : z_met mt nv ps φ := by
  intro d as h r L hq P hn hs
  obtain ⟨F, hF⟩ := b_lim_ex hq
  cases d with
  | zero => cases hF
  | succ d =>
    rw [a_run] at hF
    split at hF
    · rename_i hc
      obtain ⟨q1, q2⟩ := z_args_ok (mt := mt) hs hc.2.2
      have hg := b_up (c2 := b_lim d) (fun mt as h r q => b_lim_of q) F 0 _ _ _ _ _ _ _ hF
      have hl : z_loc L (z_args mt ps) (a_args mt as) := by
        refine ⟨by simp only [z_args, a_args, List.length_append, List.length_map, List.length_replicate]; rw [q1], fun i b hb => ?_⟩
        unfold z_args at hb
        rcases Nat.lt_or_ge i ps.length with q | q
        · rw [List.getElem?_append_left (by rw [List.length_map]; exact q), List.getElem?_map] at hb
          cases hp : ps[i]? with
          | none => rw [hp] at hb; cases hb
          | some p =>
            rw [hp] at hb
            cases hb
            obtain ⟨w, w1, w2, w3⟩ := q2 i b hp
            refine ⟨w, ?_, w2, fun _ => w3⟩
            unfold a_get a_args
            rw [List.getElem?_append_left (by rw [List.length_map, ← q1]; exact q), List.getElem?_map, w1]
            rfl
        · rw [List.getElem?_append_right (by rw [List.length_map]; exact q), List.getElem?_replicate] at hb
          split at hb <;> cases hb
      obtain ⟨k1, k2⟩ := hr _ L (z_al h) (z_X r) hn ⟨_, d, _, h, 0, 0, r, by rw [hn]; exact hsg, hg, hl, ⟨P, trivial⟩, rfl, rfl⟩
      exact ⟨k2.1, k2.2, k1⟩
    · cases hF
/-- a program without cuts -/
def z_no1 (op : ZO) : Bool := match op with
  | (1, [k]) => decide (k.1 < 900)
  | (2, _) => false
  | (10, _) => false
  | _ => true
def z_nog (p : List ZO) : Bool := p.all z_no1
theorem e_hs_lt {c : Nat} {g : Nat → ZR} {S : ZS} (hg : ∀ o, (g o).1.1 < 1000) : ∀ {l : List ZN}, (e_hs c g S l).1.1 < 1000
  | [] => by rw [e_hs]; exact Nat.mod_lt _ (by decide)
  | e :: l => by
    rw [e_hs]
    cases (e.1 + 1 == c) with
    | true => exact hg _
    | false => exact e_hs_lt hg
theorem z_nog_ok {F : Nat → ZFn} : ∀ (n : Nat) (p : List ZO) (ν : List Int) (S : ZS), z_nog p = true → (z_ev F n p ν S).1.1 < 1000
  | 0, _, _, _, _ => by rw [z_ev]; show (0 : Nat) < 1000; decide
  | n + 1, [], _, _, _ => by rw [z_ev]; show (0 : Nat) < 1000; decide
  | n + 1, op :: p, ν, S, h => by
    have hp : z_nog p = true := by
      unfold z_nog at h ⊢
      rw [List.all_cons, Bool.and_eq_true] at h
      exact h.2
    have h1 : z_no1 op = true := by
      unfold z_nog at h
      rw [List.all_cons, Bool.and_eq_true] at h
      exact h.1
    have hd : ∀ o, z_nog (p.drop o) = true := fun o => by
      unfold z_nog at hp ⊢
      exact List.all_eq_true.mpr fun x hx => List.all_eq_true.mp hp x (List.mem_of_mem_drop hx)
    have zz : (0 : Nat) < 1000 := by decide
    unfold z_ev
    split
    · exact zz
    · rename_i k
      have h1 := of_decide_eq_true h1
      show k.1 + 1 < 1000
      omega
    · cases h1
    · rename_i c sk x y
      cases e_cmp c.1 (o_v ν x) (o_v ν y) with
      | true => exact z_nog_ok n _ _ _ hp
      | false => exact z_nog_ok n _ _ _ (hd _)
    · exact z_nog_ok n _ _ _ hp
    · exact z_nog_ok n _ _ _ hp
    · exact z_nog_ok n _ _ _ hp
    · rename_i mt xs
      unfold e_bind
      cases ((F mt.1 (xs.map (o_v ν)) S).1.1 == 0) with
      | true => exact z_nog_ok n _ _ _ hp
      | false => exact Nat.mod_lt _ (by decide)
    · exact z_nog_ok n _ _ _ hp
    · exact z_nog_ok n _ _ _ hp
    · cases h1
    · exact z_nog_ok n _ _ _ hp
    · rename_i mt m xs
      unfold e_bindX
      cases ((F mt.1 ((xs.drop m.1).map (o_v ν)) S).1.1 == 0) with
      | true => exact z_nog_ok n _ _ _ hp
      | false => exact e_hs_lt (fun o => z_nog_ok n _ _ _ (hd _))
    · exact zz
/-- the methods that a method calls, with what they do -/
abbrev ZT : Type := List (Nat × Nat × List ZV × ZFn)
def z_A (T : ZT) : ZM := T.map fun e => (e.1, e.2.1, e.2.2.1)
def z_F (T : ZT) (mt : Nat) : ZFn := match T.find? (fun e => e.1 == mt) with
  | some e => e.2.2.2
  | none => fun _ S => ((0, []), S)
def z_ok (T : ZT) : Prop := ∀ e ∈ T, z_met e.1 e.2.1 e.2.2.1 e.2.2.2
theorem z_ok.n : z_ok [] := fun _ h => absurd h List.not_mem_nil
theorem z_ok.c {mt k : Nat} {ps : List ZV} {φ : ZFn} {T : ZT} (h : z_met mt k ps φ) (hT : z_ok T) : z_ok ((mt, k, ps, φ) :: T) := List.forall_mem_cons.mpr ⟨h, hT⟩
theorem z_ok.h {T : ZT} (h : z_ok T) : ∀ mt k ps, z_ps (z_A T) mt = some (k, ps) → z_met mt k ps (z_F T mt) := by
  intro mt k ps hp
  induction T with
  | nil => cases hp
  | cons e T ih =>
    unfold z_ps z_A at hp
    rw [List.map_cons, List.find?_cons] at hp
    unfold z_F
    rw [List.find?_cons]
    dsimp only at hp
    cases hc : (e.1 == mt) with
    | true =>
      rw [hc] at hp
      have hp : (e.2.1, e.2.2.1) = (k, ps) := Option.some.inj hp
      have := h e List.mem_cons_self
      rw [Prod.mk.injEq] at hp
      rw [hp.1, hp.2, beq_iff_eq.mp hc] at this
      exact this
    | false =>
      rw [hc] at hp
      exact ih (fun e' he' => h e' (List.mem_cons_of_mem _ he')) hp
/-- a method without a loop -/
theorem z_met_ev {C : ZC} {T : ZT} {I : List (Nat × Nat)} {mt g n nv : Nat} {p : List ZO} {ps : List ZV} {φ : ZFn} (hT : z_ok T) (hI : ∀ mt k, (mt, k) ∈ I → ∀ L S, (z_F T mt L S).1 = (0, [L.getD k 0])) (hsg : z_sg C 0 = some (nv, z_args mt ps)) (hg : z_go C (z_A T) I mt g true n p 0 (z_args mt ps) [] nv = true) (hp : z_nog p = true) (hφ : ∀ (L : List Int) (S : ZS), L.length = nv → z_ev (z_F T) n p L S = φ L S) : z_met mt nv ps φ := z_met_of hsg fun f L S X hn hr => by
  subst hn
  have := z_turn hT.h hI (fun _ _ _ _ _ _ _ _ _ _ _ _ _ _ => trivial) (Or.inl fun _ => trivial) hsg hg hr
  rw [← hφ L S rfl]
  exact this.1 (z_nog_ok n p L S hp)
/-! Methods with loops: where they end, going on from cut to cut -/
def z_it (st : Nat → List Int → ZS → ZR) : Nat → ZR → ZR
  | 0, R => R
  | n + 1, R => if R.1.1 < 1000 then R else z_it st n (st (R.1.1 - 1000) R.1.2 R.2)
noncomputable def z_psi (st : Nat → List Int → ZS → ZR) (R : ZR) : ZR := by
  classical
  exact if q : ∃ n, (z_it st n R).1.1 < 1000 then z_it st q.choose R else ((999, []), fun _ _ _ _ => 0)
theorem z_it_fin {st : Nat → List Int → ZS → ZR} {R : ZR} (h : R.1.1 < 1000) : ∀ n, z_it st n R = R
  | 0 => rfl
  | n + 1 => if_pos h
theorem z_it_go {st : Nat → List Int → ZS → ZR} {R : ZR} {n : Nat} (h : ¬ R.1.1 < 1000) : z_it st (n + 1) R = z_it st n (st (R.1.1 - 1000) R.1.2 R.2) := if_neg h
theorem z_it_up {st : Nat → List Int → ZS → ZR} : ∀ (n k : Nat) (R : ZR), (z_it st n R).1.1 < 1000 → z_it st (n + k) R = z_it st n R
  | 0, k, R, h => by rw [Nat.zero_add]; exact z_it_fin h k
  | n + 1, k, R, h => by
    by_cases c : R.1.1 < 1000
    · rw [z_it_fin c, z_it_fin c]
    · rw [z_it_go c] at h ⊢
      rw [show n + 1 + k = (n + k) + 1 by omega, z_it_go c]
      exact z_it_up n k _ h
theorem z_psi_of {st : Nat → List Int → ZS → ZR} {R : ZR} {n : Nat} (h : (z_it st n R).1.1 < 1000) : z_psi st R = z_it st n R := by
  have q : ∃ n, (z_it st n R).1.1 < 1000 := ⟨n, h⟩
  unfold z_psi
  rw [dif_pos q]
  have e1 := z_it_up n q.choose R h
  have e2 := z_it_up q.choose n R q.choose_spec
  rw [Nat.add_comm] at e2
  exact e2.symm.trans e1
theorem z_psi_fin {st : Nat → List Int → ZS → ZR} {R : ZR} (h : R.1.1 < 1000) : z_psi st R = R := z_psi_of (n := 0) h
theorem z_psi_go {st : Nat → List Int → ZS → ZR} {pc : Nat} {L : List Int} {S : ZS} : z_psi st ((1000 + pc, L), S) = z_psi st (st pc L S) := by
  have c : ¬ (((1000 + pc, L), S) : ZR).1.1 < 1000 := by show ¬ 1000 + pc < 1000; omega
  have step : ∀ n, z_it st (n + 1) ((1000 + pc, L), S) = z_it st n (st pc L S) := fun n => by
    rw [z_it_go c]
    show z_it _ n (st (1000 + pc - 1000) L S) = _
    rw [Nat.add_sub_cancel_left]
  by_cases q : ∃ n, (z_it st n ((1000 + pc, L), S)).1.1 < 1000
  · obtain ⟨n, hn⟩ := q
    cases n with
    | zero => exact absurd hn c
    | succ n =>
      rw [z_psi_of hn]
      rw [step n] at hn ⊢
      exact (z_psi_of hn).symm
  · have q2 : ¬ ∃ n, (z_it st n (st pc L S)).1.1 < 1000 := fun ⟨n, hn⟩ => q ⟨n + 1, by rw [step n]; exact hn⟩
    unfold z_psi
    rw [dif_neg q, dif_neg q2]
abbrev ZD : Type := List (Nat × Nat × ZL × Nat × List ZO)
def z_C (D : ZD) : ZC := D.map fun e => (e.1, e.2.1, e.2.2.1)
def z_st (F : Nat → ZFn) (D : ZD) (pc : Nat) (L : List Int) (S : ZS) : ZR := match D.find? (fun e => e.1 == pc) with
  | some e => z_ev F e.2.2.2.1 e.2.2.2.2 L S
  | none => ((0, []), S)
noncomputable def z_chk (T : ZT) (I : List (Nat × Nat)) (mi : Nat) (D : ZD) : Bool := D.all fun e => z_go (z_C D) (z_A T) I mi 400 true e.2.2.2.1 e.2.2.2.2 e.1 e.2.2.1 [] e.2.1
theorem z_stP {Q : AH → Prop} {T : ZT} {I : List (Nat × Nat)} {mi : Nat} {D : ZD} (hT : z_ok T) (hI : ∀ mt k, (mt, k) ∈ I → ∀ L S, (z_F T mt L S).1 = (0, [L.getD k 0])) (hQ : ∀ mt k ps, z_ps (z_A T) mt = some (k, ps) → ∀ (d : Nat) (as : List Value) (h : AH) (r : AR) (L : List Int), b_lim d mt as h = some r → z_PI h → L.length = k → z_stk L ps as → Q h → Q r.2.1) (hw : (∀ h, Q h) ∨ (D.all fun e => z_now e.2.2.2.2) = true) (hc : z_chk T I mi D = true) {f pc : Nat} {L : List Int} {S : ZS} {X : ZX} (hr : z_goes Q (z_C D) mi f pc L S X) : z_post Q (z_C D) mi f X (z_st (z_F T) D pc L S) := by
  obtain ⟨sg, d, al, h, mc, ms, r, h1, hrest⟩ := id hr
  have hs := h1
  unfold z_sg z_C at h1
  rw [List.find?_map, Option.map_map, Option.map_eq_some_iff] at h1
  obtain ⟨e, he, h2⟩ := h1
  have he : D.find? (fun e => e.1 == pc) = some e := he
  have h2 : e.2.1 = L.length ∧ e.2.2.1 = sg := by
    have h2 : (e.2.1, e.2.2.1) = (L.length, sg) := h2
    rw [Prod.mk.injEq] at h2
    exact h2
  have hm := List.mem_of_find?_eq_some he
  have hp : e.1 = pc := by simpa using List.find?_some he
  have hg := List.all_eq_true.mp hc e hm
  rw [hp, h2.1, h2.2] at hg
  unfold z_st
  rw [he]
  exact z_turn hT.h hI hQ (hw.imp id fun q => List.all_eq_true.mp q e hm) hs hg hr
theorem z_met_psi {T : ZT} {I : List (Nat × Nat)} {mt nv : Nat} {ps : List ZV} {D : ZD} (hT : z_ok T) (hI : ∀ mt k, (mt, k) ∈ I → ∀ L S, (z_F T mt L S).1 = (0, [L.getD k 0])) (hsg : z_sg (z_C D) 0 = some (nv, z_args mt ps)) (hc : z_chk T I mt D = true) : z_met mt nv ps (fun L S => z_psi (z_st (z_F T) D) ((1000, L), S)) := z_met_of hsg fun f L S X hn hr => by
  have key : ∀ (f pc : Nat) (L : List Int) (S : ZS), z_goes z_Q0 (z_C D) mt f pc L S X → (∃ n, z_it (z_st (z_F T) D) n ((1000 + pc, L), S) = X.1 ∧ X.1.1.1 < 1000) ∧ X.2 := by
    intro f
    induction f using Nat.strongRecOn with
    | ind f ih =>
      intro pc L S hr
      obtain ⟨k1, k2⟩ := z_stP hT hI (fun _ _ _ _ _ _ _ _ _ _ _ _ _ _ => trivial) (Or.inl fun _ => trivial) hc hr
      have c : ¬ (((1000 + pc, L), S) : ZR).1.1 < 1000 := by show ¬ 1000 + pc < 1000; omega
      have step : ∀ n, z_it (z_st (z_F T) D) (n + 1) ((1000 + pc, L), S) = z_it (z_st (z_F T) D) n (z_st (z_F T) D pc L S) := fun n => by
        rw [z_it_go c]
        show z_it _ n (z_st (z_F T) D (1000 + pc - 1000) L S) = _
        rw [Nat.add_sub_cancel_left]
      rcases Nat.lt_or_ge (z_st (z_F T) D pc L S).1.1 1000 with q | q
      · obtain ⟨e1, e2⟩ := k1 q
        refine ⟨⟨1, ?_, by rw [e1]; exact q⟩, e2⟩
        rw [step 0, e1]
        rfl
      · obtain ⟨f', hf, hg⟩ := k2 q
        obtain ⟨⟨n, n1, n2⟩, e2⟩ := ih f' hf _ _ _ hg
        refine ⟨⟨n + 1, ?_, n2⟩, e2⟩
        rw [step n, ← n1]
        generalize z_st (z_F T) D pc L S = R at q
        obtain ⟨⟨a, b⟩, c2⟩ := R
        have q : 1000 ≤ a := q
        show z_it _ n ((a, b), c2) = z_it _ n ((1000 + (a - 1000), b), c2)
        rw [show 1000 + (a - 1000) = a by omega]
  obtain ⟨⟨n, n1, n2⟩, e2⟩ := key f 0 L S hr
  refine ⟨?_, e2⟩
  rw [← n1] at n2 ⊢
  exact (z_psi_of n2).symm
