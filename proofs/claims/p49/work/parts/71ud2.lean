/-! The law, turn by turn: its operations, by program (wip/s/lawgen2.py) -/
theorem e_lcmp_self {x : Int} : e_lcmp x x = 0 := by
  unfold e_lcmp
  rw [if_neg (by omega), if_pos rfl]
theorem zOp_252 {f : Nat} {x1 : Int} {S : ZS} {X : ZX} (h : z_goes z_Q0 zC300 300 f 252 [x1] S X) (hX : ∃ y, X.1.1 = (0, [y])) (hR : zQ S S) : ∃ f2 S2, f2 < f ∧ z_goes z_Q0 zC300 300 f2 2028 [x1] S2 X ∧ zQ S2 S2 := by
  have h := zL_252 h
  obtain ⟨k, v, S1, S2, e1, e2, hR2, ht, ho⟩ := zQ_rel.two (L := [(e_i2c (S r_script 0 0 (e_wr (x1 + 1)))), (S r_script 0 0 (e_wr (x1 + 2))), (S r_script 0 0 (e_wr (x1 + 3)))]) zK256 zK168 rfl rfl hR (by decide +kernel) (by decide +kernel) (fun c m h => oQ_film h)
  have hs : S1 r_script = S r_script := by
    have := zK256.r (L := [(e_i2c (S r_script 0 0 (e_wr (x1 + 1)))), (S r_script 0 0 (e_wr (x1 + 2))), (S r_script 0 0 (e_wr (x1 + 3)))]) rfl (S := S) (by rw [e1]) (r := r_script) (by decide +kernel)
    rw [e1] at this
    exact this
  rw [e1, e_bnd, hs] at h
  rw [e2, e_bnd] at h
  obtain ⟨f2, h1, h2⟩ := z_post_g (pc := 2028) h
  exact ⟨f2, _, h1, h2, hR2⟩
theorem zOp_306 {f : Nat} {x1 : Int} {S : ZS} {X : ZX} (h : z_goes z_Q0 zC300 300 f 306 [x1] S X) (hX : ∃ y, X.1.1 = (0, [y])) (hR : zQ S S) : ∃ f2 S2, f2 < f ∧ z_goes z_Q0 zC300 300 f2 2028 [x1] S2 X ∧ zQ S2 S2 := by
  have h := zL_306 h
  obtain ⟨k, v, S1, S2, e1, e2, hR2, ht, ho⟩ := zQ_rel.two (L := [(S r_script 0 0 (e_wr (x1 + 1)))]) zK257 zK169 rfl rfl hR (by decide +kernel) (by decide +kernel) (fun c m h => oQ_reader h)
  have hs : S1 r_script = S r_script := by
    have := zK257.r (L := [(S r_script 0 0 (e_wr (x1 + 1)))]) rfl (S := S) (by rw [e1]) (r := r_script) (by decide +kernel)
    rw [e1] at this
    exact this
  rw [e1, e_bnd, hs] at h
  rw [e2, e_bnd] at h
  obtain ⟨f2, h1, h2⟩ := z_post_g (pc := 2028) h
  exact ⟨f2, _, h1, h2, hR2⟩
theorem zOp_334 {f : Nat} {x1 : Int} {S : ZS} {X : ZX} (h : z_goes z_Q0 zC300 300 f 334 [x1] S X) (hX : ∃ y, X.1.1 = (0, [y])) (hR : zQ S S) : ∃ f2 S2, f2 < f ∧ z_goes z_Q0 zC300 300 f2 2028 [x1] S2 X ∧ zQ S2 S2 := by
  have h := zL_334 h
  obtain ⟨k, v, S1, S2, e1, e2, hR2, ht, ho⟩ := zQ_rel.two (L := [(S r_script 0 0 (e_wr (x1 + 1))), (S r_script 0 0 (e_wr (x1 + 2)))]) zK258 zK171 rfl rfl hR (by decide +kernel) (by decide +kernel) (fun c m h => oQ_deal h)
  have hs : S1 r_script = S r_script := by
    have := zK258.r (L := [(S r_script 0 0 (e_wr (x1 + 1))), (S r_script 0 0 (e_wr (x1 + 2)))]) rfl (S := S) (by rw [e1]) (r := r_script) (by decide +kernel)
    rw [e1] at this
    exact this
  rw [e1, e_bnd, hs] at h
  rw [e2, e_bnd] at h
  obtain ⟨f2, h1, h2⟩ := z_post_g (pc := 2028) h
  exact ⟨f2, _, h1, h2, hR2⟩
theorem zOp_374 {f : Nat} {x1 : Int} {S : ZS} {X : ZX} (h : z_goes z_Q0 zC300 300 f 374 [x1] S X) (hX : ∃ y, X.1.1 = (0, [y])) (hR : zQ S S) : ∃ f2 S2, f2 < f ∧ z_goes z_Q0 zC300 300 f2 2028 [x1] S2 X ∧ zQ S2 S2 := by
  have h := zL_374 h
  obtain ⟨c0, h⟩ := z_post_b h hX
  have hR := zQ_rel.keep zK259 rfl c0 (by decide +kernel) hR
  obtain ⟨c1, h⟩ := z_post_b h hX
  have hR := zQ_rel.keep zK173 rfl c1 (by decide +kernel) hR
  obtain ⟨f2, h1, h2⟩ := z_post_g (pc := 2028) h
  exact ⟨f2, _, h1, h2, hR⟩
theorem zOp_414 {f : Nat} {x1 : Int} {S : ZS} {X : ZX} (h : z_goes z_Q0 zC300 300 f 414 [x1] S X) (hX : ∃ y, X.1.1 = (0, [y])) (hR : zQ S S) : ∃ f2 S2, f2 < f ∧ z_goes z_Q0 zC300 300 f2 2028 [x1] S2 X ∧ zQ S2 S2 := by
  have h := zL_414 h
  obtain ⟨k, v, S1, S2, e1, e2, hR2, ht, ho⟩ := zQ_rel.two (L := [(S r_script 0 0 (e_wr (x1 + 1))), (S r_script 0 0 (e_wr (x1 + 2))), (S r_script 0 0 (e_wr (x1 + 3)))]) zK260 zK175 rfl rfl hR (by decide +kernel) (by decide +kernel) (fun c m h => oQ_read h)
  have hs : S1 r_script = S r_script := by
    have := zK260.r (L := [(S r_script 0 0 (e_wr (x1 + 1))), (S r_script 0 0 (e_wr (x1 + 2))), (S r_script 0 0 (e_wr (x1 + 3)))]) rfl (S := S) (by rw [e1]) (r := r_script) (by decide +kernel)
    rw [e1] at this
    exact this
  rw [e1, e_bnd, hs] at h
  rw [e2, e_bnd] at h
  obtain ⟨f2, h1, h2⟩ := z_post_g (pc := 2028) h
  exact ⟨f2, _, h1, h2, hR2⟩
theorem zOp_466 {f : Nat} {x1 : Int} {S : ZS} {X : ZX} (h : z_goes z_Q0 zC300 300 f 466 [x1] S X) (hX : ∃ y, X.1.1 = (0, [y])) (hR : zQ S S) : ∃ f2 S2, f2 < f ∧ z_goes z_Q0 zC300 300 f2 2028 [x1] S2 X ∧ zQ S2 S2 := by
  have h := zL_466 h
  obtain ⟨c0, h⟩ := z_post_b h hX
  have hR := zQ_rel.keep zK261 rfl c0 (by decide +kernel) hR
  obtain ⟨c1, h⟩ := z_post_b h hX
  have hR := zQ_rel.keep zK177 rfl c1 (by decide +kernel) hR
  obtain ⟨f2, h1, h2⟩ := z_post_g (pc := 2028) h
  exact ⟨f2, _, h1, h2, hR⟩
theorem zOp_506 {f : Nat} {x1 : Int} {S : ZS} {X : ZX} (h : z_goes z_Q0 zC300 300 f 506 [x1] S X) (hX : ∃ y, X.1.1 = (0, [y])) (hR : zQ S S) : ∃ f2 S2, f2 < f ∧ z_goes z_Q0 zC300 300 f2 2028 [x1] S2 X ∧ zQ S2 S2 := by
  have h := zL_506 h
  obtain ⟨c0, h⟩ := z_post_b h hX
  have hR := zQ_rel.keep zK262 rfl c0 (by decide +kernel) hR
  obtain ⟨c1, h⟩ := z_post_b h hX
  have hR := zQ_rel.keep zK179 rfl c1 (by decide +kernel) hR
  obtain ⟨f2, h1, h2⟩ := z_post_g (pc := 2028) h
  exact ⟨f2, _, h1, h2, hR⟩
theorem zOp_534 {f : Nat} {x1 : Int} {S : ZS} {X : ZX} (h : z_goes z_Q0 zC300 300 f 534 [x1] S X) (hX : ∃ y, X.1.1 = (0, [y])) (hR : zQ S S) : ∃ f2 S2, f2 < f ∧ z_goes z_Q0 zC300 300 f2 2028 [x1] S2 X ∧ zQ S2 S2 := by
  have h := zL_534 h
  obtain ⟨c0, h⟩ := z_post_b h hX
  have hR := zQ_rel.keep zK263 rfl c0 (by decide +kernel) hR
  obtain ⟨c1, h⟩ := z_post_b h hX
  have hR := zQ_rel.keep zK181 rfl c1 (by decide +kernel) hR
  obtain ⟨f2, h1, h2⟩ := z_post_g (pc := 2028) h
  exact ⟨f2, _, h1, h2, hR⟩
theorem zOp_562 {f : Nat} {x1 : Int} {S : ZS} {X : ZX} (h : z_goes z_Q0 zC300 300 f 562 [x1] S X) (hX : ∃ y, X.1.1 = (0, [y])) (hR : zQ S S) : ∃ f2 S2, f2 < f ∧ z_goes z_Q0 zC300 300 f2 2028 [x1] S2 X ∧ zQ S2 S2 := by
  have h := zL_562 h
  obtain ⟨k, v, S1, S2, e1, e2, hR2, ht, ho⟩ := zQ_rel.two (L := [(S r_script 0 0 (e_wr (x1 + 1))), (e_i2c (S r_script 0 0 (e_wr (x1 + 2))))]) zK264 zK184 rfl rfl hR (by decide +kernel) (by decide +kernel) (fun c m h => oQ_rival h)
  have hs : S1 r_script = S r_script := by
    have := zK264.r (L := [(S r_script 0 0 (e_wr (x1 + 1))), (e_i2c (S r_script 0 0 (e_wr (x1 + 2))))]) rfl (S := S) (by rw [e1]) (r := r_script) (by decide +kernel)
    rw [e1] at this
    exact this
  rw [e1, e_bnd, hs] at h
  rw [e2, e_bnd] at h
  obtain ⟨f2, h1, h2⟩ := z_post_g (pc := 2028) h
  exact ⟨f2, _, h1, h2, hR2⟩
theorem zOp_604 {f : Nat} {x1 : Int} {S : ZS} {X : ZX} (h : z_goes z_Q0 zC300 300 f 604 [x1] S X) (hX : ∃ y, X.1.1 = (0, [y])) (hR : zQ S S) : ∃ f2 S2, f2 < f ∧ z_goes z_Q0 zC300 300 f2 2028 [x1] S2 X ∧ zQ S2 S2 := by
  have h := zL_604 h
  obtain ⟨k, v, S1, S2, e1, e2, hR2, ht, ho⟩ := zQ_rel.two (L := [(S r_script 0 0 (e_wr (x1 + 1))), (S r_script 0 0 (e_wr (x1 + 2))), (S r_script 0 0 (e_wr (x1 + 3))), (e_i2c (S r_script 0 0 (e_wr (x1 + 4)))), (e_i2c (S r_script 0 0 (e_wr (x1 + 5))))]) zK265 zK185 rfl rfl hR (by decide +kernel) (by decide +kernel) (fun c m h => oQ_section h)
  have hs : S1 r_script = S r_script := by
    have := zK265.r (L := [(S r_script 0 0 (e_wr (x1 + 1))), (S r_script 0 0 (e_wr (x1 + 2))), (S r_script 0 0 (e_wr (x1 + 3))), (e_i2c (S r_script 0 0 (e_wr (x1 + 4)))), (e_i2c (S r_script 0 0 (e_wr (x1 + 5))))]) rfl (S := S) (by rw [e1]) (r := r_script) (by decide +kernel)
    rw [e1] at this
    exact this
  rw [e1, e_bnd, hs] at h
  rw [e2, e_bnd] at h
  obtain ⟨f2, h1, h2⟩ := z_post_g (pc := 2028) h
  exact ⟨f2, _, h1, h2, hR2⟩
theorem zOp_684 {f : Nat} {x1 : Int} {S : ZS} {X : ZX} (h : z_goes z_Q0 zC300 300 f 684 [x1] S X) (hX : ∃ y, X.1.1 = (0, [y])) (hR : zQ S S) : ∃ f2 S2, f2 < f ∧ z_goes z_Q0 zC300 300 f2 2028 [x1] S2 X ∧ zQ S2 S2 := by
  have h := zL_684 h
  obtain ⟨k, v, S1, S2, e1, e2, hR2, ht, ho⟩ := zQ_rel.two (L := [(S r_script 0 0 (e_wr (x1 + 1)))]) zK266 zK190 rfl rfl hR (by decide +kernel) (by decide +kernel) (fun c m h => oQ_choose h)
  have hs : S1 r_script = S r_script := by
    have := zK266.r (L := [(S r_script 0 0 (e_wr (x1 + 1)))]) rfl (S := S) (by rw [e1]) (r := r_script) (by decide +kernel)
    rw [e1] at this
    exact this
  rw [e1, e_bnd, hs] at h
  rw [e2, e_bnd] at h
  obtain ⟨f2, h1, h2⟩ := z_post_g (pc := 2028) h
  exact ⟨f2, _, h1, h2, hR2⟩
theorem zOp_712 {f : Nat} {x1 : Int} {S : ZS} {X : ZX} (h : z_goes z_Q0 zC300 300 f 712 [x1] S X) (hX : ∃ y, X.1.1 = (0, [y])) (hR : zQ S S) : ∃ f2 S2, f2 < f ∧ z_goes z_Q0 zC300 300 f2 2028 [x1] S2 X ∧ zQ S2 S2 := by
  have h := zL_712 h
  obtain ⟨c0, h⟩ := z_post_b h hX
  have hR := zQ_rel.keep zK267 rfl c0 (by decide +kernel) hR
  obtain ⟨c1, h⟩ := z_post_b h hX
  have hR := zQ_rel.keep zK191 rfl c1 (by decide +kernel) hR
  obtain ⟨f2, h1, h2⟩ := z_post_g (pc := 2028) h
  exact ⟨f2, _, h1, h2, hR⟩
theorem zOp_740 {f : Nat} {x1 : Int} {S : ZS} {X : ZX} (h : z_goes z_Q0 zC300 300 f 740 [x1] S X) (hX : ∃ y, X.1.1 = (0, [y])) (hR : zQ S S) : ∃ f2 S2, f2 < f ∧ z_goes z_Q0 zC300 300 f2 2028 [x1] S2 X ∧ zQ S2 S2 := by
  have h := zL_740 h
  obtain ⟨c0, h⟩ := z_post_b h hX
  have hR := zQ_rel.keep zK268 rfl c0 (by decide +kernel) hR
  obtain ⟨c1, h⟩ := z_post_b h hX
  have hR := zQ_rel.keep zK192 rfl c1 (by decide +kernel) hR
  obtain ⟨f2, h1, h2⟩ := z_post_g (pc := 2028) h
  exact ⟨f2, _, h1, h2, hR⟩
theorem zOp_768 {f : Nat} {x1 : Int} {S : ZS} {X : ZX} (h : z_goes z_Q0 zC300 300 f 768 [x1] S X) (hX : ∃ y, X.1.1 = (0, [y])) (hR : zQ S S) : ∃ f2 S2, f2 < f ∧ z_goes z_Q0 zC300 300 f2 2028 [x1] S2 X ∧ zQ S2 S2 := by
  have h := zL_768 h
  obtain ⟨k, v, S1, S2, e1, e2, hR2, ht, ho⟩ := zQ_rel.two (L := [(S r_script 0 0 (e_wr (x1 + 1)))]) zK269 zK193 rfl rfl hR (by decide +kernel) (by decide +kernel) (fun c m h => oQ_giveUp h)
  have hs : S1 r_script = S r_script := by
    have := zK269.r (L := [(S r_script 0 0 (e_wr (x1 + 1)))]) rfl (S := S) (by rw [e1]) (r := r_script) (by decide +kernel)
    rw [e1] at this
    exact this
  rw [e1, e_bnd, hs] at h
  rw [e2, e_bnd] at h
  obtain ⟨f2, h1, h2⟩ := z_post_g (pc := 2028) h
  exact ⟨f2, _, h1, h2, hR2⟩
theorem zOp_796 {f : Nat} {x1 : Int} {S : ZS} {X : ZX} (h : z_goes z_Q0 zC300 300 f 796 [x1] S X) (hX : ∃ y, X.1.1 = (0, [y])) (hR : zQ S S) : ∃ f2 S2, f2 < f ∧ z_goes z_Q0 zC300 300 f2 2028 [x1] S2 X ∧ zQ S2 S2 := by
  have h := zL_796 h
  obtain ⟨c0, h⟩ := z_post_b h hX
  have hR := zQ_rel.keep zK270 rfl c0 (by decide +kernel) hR
  obtain ⟨c1, h⟩ := z_post_b h hX
  have hR := zQ_rel.keep zK194 rfl c1 (by decide +kernel) hR
  obtain ⟨f2, h1, h2⟩ := z_post_g (pc := 2028) h
  exact ⟨f2, _, h1, h2, hR⟩
theorem zOp_824 {f : Nat} {x1 : Int} {S : ZS} {X : ZX} (h : z_goes z_Q0 zC300 300 f 824 [x1] S X) (hX : ∃ y, X.1.1 = (0, [y])) (hR : zQ S S) : ∃ f2 S2, f2 < f ∧ z_goes z_Q0 zC300 300 f2 2028 [x1] S2 X ∧ zQ S2 S2 := by
  have h := zL_824 h
  rw [zb_d] at h
  by_cases hc0 : (S r_script 0 0 (e_wr (x1 + 2))) = 0
  · rw [if_pos hc0] at h
    obtain ⟨k, v, S1, S2, e1, e2, hR2, ht, ho⟩ := zQ_rel.two (L := [(S r_script 0 0 (e_wr (x1 + 1))), 0]) zK271 zK195 rfl rfl hR (by decide +kernel) (by decide +kernel) (fun c m h => oQ_screen zbit0 h)
    have hs : S1 r_script = S r_script := by
      have := zK271.r (L := [(S r_script 0 0 (e_wr (x1 + 1))), 0]) rfl (S := S) (by rw [e1]) (r := r_script) (by decide +kernel)
      rw [e1] at this
      exact this
    rw [e1, e_bnd, hs] at h
    rw [zb_d, if_pos hc0] at h
    rw [e2, e_bnd] at h
    obtain ⟨f2, h1, h2⟩ := z_post_g (pc := 2028) h
    exact ⟨f2, _, h1, h2, hR2⟩
  · rw [if_neg hc0] at h
    obtain ⟨k, v, S1, S2, e1, e2, hR2, ht, ho⟩ := zQ_rel.two (L := [(S r_script 0 0 (e_wr (x1 + 1))), 1]) zK271 zK195 rfl rfl hR (by decide +kernel) (by decide +kernel) (fun c m h => oQ_screen zbit1 h)
    have hs : S1 r_script = S r_script := by
      have := zK271.r (L := [(S r_script 0 0 (e_wr (x1 + 1))), 1]) rfl (S := S) (by rw [e1]) (r := r_script) (by decide +kernel)
      rw [e1] at this
      exact this
    rw [e1, e_bnd, hs] at h
    rw [zb_d, if_neg hc0] at h
    rw [e2, e_bnd] at h
    obtain ⟨f2, h1, h2⟩ := z_post_g (pc := 2028) h
    exact ⟨f2, _, h1, h2, hR2⟩
theorem zOp_880 {f : Nat} {x1 : Int} {S : ZS} {X : ZX} (h : z_goes z_Q0 zC300 300 f 880 [x1] S X) (hX : ∃ y, X.1.1 = (0, [y])) (hR : zQ S S) : ∃ f2 S2, f2 < f ∧ z_goes z_Q0 zC300 300 f2 2028 [x1] S2 X ∧ zQ S2 S2 := by
  have h := zL_880 h
  obtain ⟨k, v, S1, S2, e1, e2, hR2, ht, ho⟩ := zQ_rel.two (L := [(S r_script 0 0 (e_wr (x1 + 1))), (e_i2c (S r_script 0 0 (e_wr (x1 + 2)))), (S r_script 0 0 (e_wr (x1 + 3)))]) zK272 zK198 rfl rfl hR (by decide +kernel) (by decide +kernel) (fun c m h => oQ_print h)
  have hs : S1 r_script = S r_script := by
    have := zK272.r (L := [(S r_script 0 0 (e_wr (x1 + 1))), (e_i2c (S r_script 0 0 (e_wr (x1 + 2)))), (S r_script 0 0 (e_wr (x1 + 3)))]) rfl (S := S) (by rw [e1]) (r := r_script) (by decide +kernel)
    rw [e1] at this
    exact this
  rw [e1, e_bnd, hs] at h
  rw [e2, e_bnd] at h
  obtain ⟨f2, h1, h2⟩ := z_post_g (pc := 2028) h
  exact ⟨f2, _, h1, h2, hR2⟩
theorem zOp_934 {f : Nat} {x1 : Int} {S : ZS} {X : ZX} (h : z_goes z_Q0 zC300 300 f 934 [x1] S X) (hX : ∃ y, X.1.1 = (0, [y])) (hR : zQ S S) : ∃ f2 S2, f2 < f ∧ z_goes z_Q0 zC300 300 f2 2028 [x1] S2 X ∧ zQ S2 S2 := by
  have h := zL_934 h
  obtain ⟨k, v, S1, S2, e1, e2, hR2, ht, ho⟩ := zQ_rel.two (L := [(S r_script 0 0 (e_wr (x1 + 1))), (S r_script 0 0 (e_wr (x1 + 2))), (S r_script 0 0 (e_wr (x1 + 3))), (S r_script 0 0 (e_wr (x1 + 4)))]) zK273 zK199 rfl rfl hR (by decide +kernel) (by decide +kernel) (fun c m h => oQ_key h)
  have hs : S1 r_script = S r_script := by
    have := zK273.r (L := [(S r_script 0 0 (e_wr (x1 + 1))), (S r_script 0 0 (e_wr (x1 + 2))), (S r_script 0 0 (e_wr (x1 + 3))), (S r_script 0 0 (e_wr (x1 + 4)))]) rfl (S := S) (by rw [e1]) (r := r_script) (by decide +kernel)
    rw [e1] at this
    exact this
  rw [e1, e_bnd, hs] at h
  rw [e2, e_bnd] at h
  obtain ⟨f2, h1, h2⟩ := z_post_g (pc := 2028) h
  exact ⟨f2, _, h1, h2, hR2⟩
theorem zOp_998 {f : Nat} {x1 : Int} {S : ZS} {X : ZX} (h : z_goes z_Q0 zC300 300 f 998 [x1] S X) (hX : ∃ y, X.1.1 = (0, [y])) (hR : zQ S S) : ∃ f2 S2, f2 < f ∧ z_goes z_Q0 zC300 300 f2 2028 [x1] S2 X ∧ zQ S2 S2 := by
  have h := zL_998 h
  obtain ⟨c0, h⟩ := z_post_b h hX
  have hR := zQ_rel.keep zK274 rfl c0 (by decide +kernel) hR
  obtain ⟨c1, h⟩ := z_post_b h hX
  have hR := zQ_rel.keep zK201 rfl c1 (by decide +kernel) hR
  obtain ⟨f2, h1, h2⟩ := z_post_g (pc := 2028) h
  exact ⟨f2, _, h1, h2, hR⟩
theorem zOp_1050 {f : Nat} {x1 : Int} {S : ZS} {X : ZX} (h : z_goes z_Q0 zC300 300 f 1050 [x1] S X) (hX : ∃ y, X.1.1 = (0, [y])) (hR : zQ S S) : ∃ f2 S2, f2 < f ∧ z_goes z_Q0 zC300 300 f2 2028 [x1] S2 X ∧ zQ S2 S2 := by
  have h := zL_1050 h
  obtain ⟨k, v, S1, S2, e1, e2, hR2, ht, ho⟩ := zQ_rel.two (L := [(S r_script 0 0 (e_wr (x1 + 1))), (S r_script 0 0 (e_wr (x1 + 2))), (S r_script 0 0 (e_wr (x1 + 3)))]) zK275 zK209 rfl rfl hR (by decide +kernel) (by decide +kernel) (fun c m h => oQ_show h)
  have hs : S1 r_script = S r_script := by
    have := zK275.r (L := [(S r_script 0 0 (e_wr (x1 + 1))), (S r_script 0 0 (e_wr (x1 + 2))), (S r_script 0 0 (e_wr (x1 + 3)))]) rfl (S := S) (by rw [e1]) (r := r_script) (by decide +kernel)
    rw [e1] at this
    exact this
  rw [e1, e_bnd, hs] at h
  rw [e2, e_bnd] at h
  obtain ⟨f2, h1, h2⟩ := z_post_g (pc := 2028) h
  exact ⟨f2, _, h1, h2, hR2⟩
theorem zOp_1102 {f : Nat} {x1 : Int} {S : ZS} {X : ZX} (h : z_goes z_Q0 zC300 300 f 1102 [x1] S X) (hX : ∃ y, X.1.1 = (0, [y])) (hR : zQ S S) : ∃ f2 S2, f2 < f ∧ z_goes z_Q0 zC300 300 f2 2028 [x1] S2 X ∧ zQ S2 S2 := by
  have h := zL_1102 h
  obtain ⟨k, v, S1, S2, e1, e2, hR2, ht, ho⟩ := zQ_rel.two (L := [(S r_script 0 0 (e_wr (x1 + 1)))]) zK276 zK211 rfl rfl hR (by decide +kernel) (by decide +kernel) (fun c m h => oQ_plan h)
  have hs : S1 r_script = S r_script := by
    have := zK276.r (L := [(S r_script 0 0 (e_wr (x1 + 1)))]) rfl (S := S) (by rw [e1]) (r := r_script) (by decide +kernel)
    rw [e1] at this
    exact this
  rw [e1, e_bnd, hs] at h
  rw [e2, e_bnd] at h
  obtain ⟨f2, h1, h2⟩ := z_post_g (pc := 2028) h
  exact ⟨f2, _, h1, h2, hR2⟩
theorem zOp_1130 {f : Nat} {x1 : Int} {S : ZS} {X : ZX} (h : z_goes z_Q0 zC300 300 f 1130 [x1] S X) (hX : ∃ y, X.1.1 = (0, [y])) (hR : zQ S S) : ∃ f2 S2, f2 < f ∧ z_goes z_Q0 zC300 300 f2 2028 [x1] S2 X ∧ zQ S2 S2 := by
  have h := zL_1130 h
  obtain ⟨c0, h⟩ := z_post_b h hX
  have hR := zQ_rel.keep zK277 rfl c0 (by decide +kernel) hR
  obtain ⟨c1, h⟩ := z_post_b h hX
  have hR := zQ_rel.keep zK213 rfl c1 (by decide +kernel) hR
  obtain ⟨f2, h1, h2⟩ := z_post_g (pc := 2028) h
  exact ⟨f2, _, h1, h2, hR⟩
theorem zOp_1172 {f : Nat} {x1 : Int} {S : ZS} {X : ZX} (h : z_goes z_Q0 zC300 300 f 1172 [x1] S X) (hX : ∃ y, X.1.1 = (0, [y])) (hR : zQ S S) : ∃ f2 S2, f2 < f ∧ z_goes z_Q0 zC300 300 f2 2028 [x1] S2 X ∧ zQ S2 S2 := by
  have h := zL_1172 h
  obtain ⟨c0, h⟩ := z_post_b h hX
  have hR := zQ_rel.keep zK278 rfl c0 (by decide +kernel) hR
  obtain ⟨c1, h⟩ := z_post_b h hX
  have hR := zQ_rel.keep zK214 rfl c1 (by decide +kernel) hR
  obtain ⟨f2, h1, h2⟩ := z_post_g (pc := 2028) h
  exact ⟨f2, _, h1, h2, hR⟩
theorem zOp_1200 {f : Nat} {x1 : Int} {S : ZS} {X : ZX} (h : z_goes z_Q0 zC300 300 f 1200 [x1] S X) (hX : ∃ y, X.1.1 = (0, [y])) (hR : zQ S S) : ∃ f2 S2, f2 < f ∧ z_goes z_Q0 zC300 300 f2 2028 [x1] S2 X ∧ zQ S2 S2 := by
  have h := zL_1200 h
  obtain ⟨c0, h⟩ := z_post_b h hX
  have hR := zQ_rel.keep zK279 rfl c0 (by decide +kernel) hR
  obtain ⟨c1, h⟩ := z_post_b h hX
  have hR := zQ_rel.keep zK215 rfl c1 (by decide +kernel) hR
  obtain ⟨f2, h1, h2⟩ := z_post_g (pc := 2028) h
  exact ⟨f2, _, h1, h2, hR⟩
theorem zOp_1240 {f : Nat} {x1 : Int} {S : ZS} {X : ZX} (h : z_goes z_Q0 zC300 300 f 1240 [x1] S X) (hX : ∃ y, X.1.1 = (0, [y])) (hR : zQ S S) : ∃ f2 S2, f2 < f ∧ z_goes z_Q0 zC300 300 f2 2028 [x1] S2 X ∧ zQ S2 S2 := by
  have h := zL_1240 h
  obtain ⟨k, v, S1, S2, e1, e2, hR2, ht, ho⟩ := zQ_rel.two (L := [(S r_script 0 0 (e_wr (x1 + 1)))]) zK280 zK216 rfl rfl hR (by decide +kernel) (by decide +kernel) (fun c m h => oQ_go h)
  have hs : S1 r_script = S r_script := by
    have := zK280.r (L := [(S r_script 0 0 (e_wr (x1 + 1)))]) rfl (S := S) (by rw [e1]) (r := r_script) (by decide +kernel)
    rw [e1] at this
    exact this
  rw [e1, e_bnd, hs] at h
  rw [e2, e_bnd] at h
  obtain ⟨f2, h1, h2⟩ := z_post_g (pc := 2028) h
  exact ⟨f2, _, h1, h2, hR2⟩
theorem zOp_1268 {f : Nat} {x1 : Int} {S : ZS} {X : ZX} (h : z_goes z_Q0 zC300 300 f 1268 [x1] S X) (hX : ∃ y, X.1.1 = (0, [y])) (hR : zQ S S) : ∃ f2 S2, f2 < f ∧ z_goes z_Q0 zC300 300 f2 2028 [x1] S2 X ∧ zQ S2 S2 := by
  have h := zL_1268 h
  obtain ⟨c0, h⟩ := z_post_b h hX
  have hR := zQ_rel.keep zK217 rfl c0 (by decide +kernel) hR
  obtain ⟨f2, h1, h2⟩ := z_post_g (pc := 2028) h
  exact ⟨f2, _, h1, h2, hR⟩
theorem zOp_1281 {f : Nat} {x1 : Int} {S : ZS} {X : ZX} (h : z_goes z_Q0 zC300 300 f 1281 [x1] S X) (hX : ∃ y, X.1.1 = (0, [y])) (hR : zQ S S) : ∃ f2 S2, f2 < f ∧ z_goes z_Q0 zC300 300 f2 2028 [x1] S2 X ∧ zQ S2 S2 := by
  have h := zL_1281 h
  obtain ⟨k, v, S1, S2, e1, e2, hR2, ht, ho⟩ := zQ_rel.two (L := [(S r_script 0 0 (e_wr (x1 + 1)))]) zK281 zK221 rfl rfl hR (by decide +kernel) (by decide +kernel) (fun c m h => oQ_storm h)
  have hs : S1 r_script = S r_script := by
    have := zK281.r (L := [(S r_script 0 0 (e_wr (x1 + 1)))]) rfl (S := S) (by rw [e1]) (r := r_script) (by decide +kernel)
    rw [e1] at this
    exact this
  rw [e1, e_bnd, hs] at h
  rw [e2, e_bnd] at h
  obtain ⟨f2, h1, h2⟩ := z_post_g (pc := 2028) h
  exact ⟨f2, _, h1, h2, hR2⟩
theorem zOp_1309 {f : Nat} {x1 : Int} {S : ZS} {X : ZX} (h : z_goes z_Q0 zC300 300 f 1309 [x1] S X) (hX : ∃ y, X.1.1 = (0, [y])) (hR : zQ S S) : ∃ f2 S2, f2 < f ∧ z_goes z_Q0 zC300 300 f2 2028 [x1] S2 X ∧ zQ S2 S2 := by
  have h := zL_1309 h
  obtain ⟨k, v, S1, S2, e1, e2, hR2, ht, ho⟩ := zQ_rel.two (L := [(S r_script 0 0 (e_wr (x1 + 1))), (S r_script 0 0 (e_wr (x1 + 2)))]) zK282 zK222 rfl rfl hR (by decide +kernel) (by decide +kernel) (fun c m h => oQ_late h)
  have hs : S1 r_script = S r_script := by
    have := zK282.r (L := [(S r_script 0 0 (e_wr (x1 + 1))), (S r_script 0 0 (e_wr (x1 + 2)))]) rfl (S := S) (by rw [e1]) (r := r_script) (by decide +kernel)
    rw [e1] at this
    exact this
  rw [e1, e_bnd, hs] at h
  rw [e2, e_bnd] at h
  obtain ⟨f2, h1, h2⟩ := z_post_g (pc := 2028) h
  exact ⟨f2, _, h1, h2, hR2⟩
theorem zOp_1349 {f : Nat} {x1 : Int} {S : ZS} {X : ZX} (h : z_goes z_Q0 zC300 300 f 1349 [x1] S X) (hX : ∃ y, X.1.1 = (0, [y])) (hR : zQ S S) : ∃ f2 S2, f2 < f ∧ z_goes z_Q0 zC300 300 f2 2028 [x1] S2 X ∧ zQ S2 S2 := by
  have h := zL_1349 h
  obtain ⟨k, v, S1, S2, e1, e2, hR2, ht, ho⟩ := zQ_rel.two (L := [(S r_script 0 0 (e_wr (x1 + 1)))]) zK283 zK223 rfl rfl hR (by decide +kernel) (by decide +kernel) (fun c m h => oQ_withdraw h)
  have hs : S1 r_script = S r_script := by
    have := zK283.r (L := [(S r_script 0 0 (e_wr (x1 + 1)))]) rfl (S := S) (by rw [e1]) (r := r_script) (by decide +kernel)
    rw [e1] at this
    exact this
  rw [e1, e_bnd, hs] at h
  rw [e2, e_bnd] at h
  obtain ⟨f2, h1, h2⟩ := z_post_g (pc := 2028) h
  exact ⟨f2, _, h1, h2, hR2⟩
theorem zOp_1377 {f : Nat} {x1 : Int} {S : ZS} {X : ZX} (h : z_goes z_Q0 zC300 300 f 1377 [x1] S X) (hX : ∃ y, X.1.1 = (0, [y])) (hR : zQ S S) : ∃ f2 S2, f2 < f ∧ z_goes z_Q0 zC300 300 f2 2028 [x1] S2 X ∧ zQ S2 S2 := by
  have h := zL_1377 h
  obtain ⟨k, v, S1, S2, e1, e2, hR2, ht, ho⟩ := zQ_rel.two (L := [(S r_script 0 0 (e_wr (x1 + 1)))]) zK284 zK224 rfl rfl hR (by decide +kernel) (by decide +kernel) (fun c m h => oQ_pass h)
  have hs : S1 r_script = S r_script := by
    have := zK284.r (L := [(S r_script 0 0 (e_wr (x1 + 1)))]) rfl (S := S) (by rw [e1]) (r := r_script) (by decide +kernel)
    rw [e1] at this
    exact this
  rw [e1, e_bnd, hs] at h
  rw [e2, e_bnd] at h
  obtain ⟨f2, h1, h2⟩ := z_post_g (pc := 2028) h
  exact ⟨f2, _, h1, h2, hR2⟩
theorem zOp_1405 {f : Nat} {x1 : Int} {S : ZS} {X : ZX} (h : z_goes z_Q0 zC300 300 f 1405 [x1] S X) (hX : ∃ y, X.1.1 = (0, [y])) (hR : zQ S S) : ∃ f2 S2, f2 < f ∧ z_goes z_Q0 zC300 300 f2 2028 [x1] S2 X ∧ zQ S2 S2 := by
  have h := zL_1405 h
  obtain ⟨k, v, S1, S2, e1, e2, hR2, ht, ho⟩ := zQ_rel.two (L := [(S r_script 0 0 (e_wr (x1 + 1))), (S r_script 0 0 (e_wr (x1 + 2)))]) zK285 zK226 rfl rfl hR (by decide +kernel) (by decide +kernel) (fun c m h => oQ_join h)
  have hs : S1 r_script = S r_script := by
    have := zK285.r (L := [(S r_script 0 0 (e_wr (x1 + 1))), (S r_script 0 0 (e_wr (x1 + 2)))]) rfl (S := S) (by rw [e1]) (r := r_script) (by decide +kernel)
    rw [e1] at this
    exact this
  rw [e1, e_bnd, hs] at h
  rw [e2, e_bnd] at h
  obtain ⟨f2, h1, h2⟩ := z_post_g (pc := 2028) h
  exact ⟨f2, _, h1, h2, hR2⟩
theorem zOp_1445 {f : Nat} {x1 : Int} {S : ZS} {X : ZX} (h : z_goes z_Q0 zC300 300 f 1445 [x1] S X) (hX : ∃ y, X.1.1 = (0, [y])) (hR : zQ S S) : ∃ f2 S2, f2 < f ∧ z_goes z_Q0 zC300 300 f2 2028 [x1] S2 X ∧ zQ S2 S2 := by
  have h := zL_1445 h
  obtain ⟨k, v, S1, S2, e1, e2, hR2, ht, ho⟩ := zQ_rel.two (L := [(S r_script 0 0 (e_wr (x1 + 1)))]) zK286 zK228 rfl rfl hR (by decide +kernel) (by decide +kernel) (fun c m h => oQ_open h)
  have hs : S1 r_script = S r_script := by
    have := zK286.r (L := [(S r_script 0 0 (e_wr (x1 + 1)))]) rfl (S := S) (by rw [e1]) (r := r_script) (by decide +kernel)
    rw [e1] at this
    exact this
  rw [e1, e_bnd, hs] at h
  rw [e2, e_bnd] at h
  obtain ⟨f2, h1, h2⟩ := z_post_g (pc := 2028) h
  exact ⟨f2, _, h1, h2, hR2⟩
theorem zOp_1473 {f : Nat} {x1 : Int} {S : ZS} {X : ZX} (h : z_goes z_Q0 zC300 300 f 1473 [x1] S X) (hX : ∃ y, X.1.1 = (0, [y])) (hR : zQ S S) : ∃ f2 S2, f2 < f ∧ z_goes z_Q0 zC300 300 f2 2028 [x1] S2 X ∧ zQ S2 S2 := by
  have h := zL_1473 h
  obtain ⟨c0, h⟩ := z_post_b h hX
  have hR := zQ_rel.keep zK287 rfl c0 (by decide +kernel) hR
  obtain ⟨c1, h⟩ := z_post_b h hX
  have hR := zQ_rel.keep zK229 rfl c1 (by decide +kernel) hR
  obtain ⟨f2, h1, h2⟩ := z_post_g (pc := 2028) h
  exact ⟨f2, _, h1, h2, hR⟩
theorem zOp_1513 {f : Nat} {x1 : Int} {S : ZS} {X : ZX} (h : z_goes z_Q0 zC300 300 f 1513 [x1] S X) (hX : ∃ y, X.1.1 = (0, [y])) (hR : zQ S S) : ∃ f2 S2, f2 < f ∧ z_goes z_Q0 zC300 300 f2 2028 [x1] S2 X ∧ zQ S2 S2 := by
  have h := zL_1513 h
  obtain ⟨k, v, S1, S2, e1, e2, hR2, ht, ho⟩ := zQ_rel.two (L := [(S r_script 0 0 (e_wr (x1 + 1))), (S r_script 0 0 (e_wr (x1 + 2)))]) zK288 zK230 rfl rfl hR (by decide +kernel) (by decide +kernel) (fun c m h => oQ_juror h)
  have hs : S1 r_script = S r_script := by
    have := zK288.r (L := [(S r_script 0 0 (e_wr (x1 + 1))), (S r_script 0 0 (e_wr (x1 + 2)))]) rfl (S := S) (by rw [e1]) (r := r_script) (by decide +kernel)
    rw [e1] at this
    exact this
  rw [e1, e_bnd, hs] at h
  rw [e2, e_bnd] at h
  obtain ⟨f2, h1, h2⟩ := z_post_g (pc := 2028) h
  exact ⟨f2, _, h1, h2, hR2⟩
theorem zOp_1553 {f : Nat} {x1 : Int} {S : ZS} {X : ZX} (h : z_goes z_Q0 zC300 300 f 1553 [x1] S X) (hX : ∃ y, X.1.1 = (0, [y])) (hR : zQ S S) : ∃ f2 S2, f2 < f ∧ z_goes z_Q0 zC300 300 f2 2028 [x1] S2 X ∧ zQ S2 S2 := by
  have h := zL_1553 h
  obtain ⟨k, v, S1, S2, e1, e2, hR2, ht, ho⟩ := zQ_rel.two (L := [(S r_script 0 0 (e_wr (x1 + 1))), (e_i2c (S r_script 0 0 (e_wr (x1 + 2))))]) zK289 zK231 rfl rfl hR (by decide +kernel) (by decide +kernel) (fun c m h => oQ_rule h)
  have hs : S1 r_script = S r_script := by
    have := zK289.r (L := [(S r_script 0 0 (e_wr (x1 + 1))), (e_i2c (S r_script 0 0 (e_wr (x1 + 2))))]) rfl (S := S) (by rw [e1]) (r := r_script) (by decide +kernel)
    rw [e1] at this
    exact this
  rw [e1, e_bnd, hs] at h
  rw [e2, e_bnd] at h
  obtain ⟨f2, h1, h2⟩ := z_post_g (pc := 2028) h
  exact ⟨f2, _, h1, h2, hR2⟩
theorem zOp_1595 {f : Nat} {x1 : Int} {S : ZS} {X : ZX} (h : z_goes z_Q0 zC300 300 f 1595 [x1] S X) (hX : ∃ y, X.1.1 = (0, [y])) (hR : zQ S S) : ∃ f2 S2, f2 < f ∧ z_goes z_Q0 zC300 300 f2 2028 [x1] S2 X ∧ zQ S2 S2 := by
  have h := zL_1595 h
  obtain ⟨k, v, S1, S2, e1, e2, hR2, ht, ho⟩ := zQ_rel.two (L := [(S r_script 0 0 (e_wr (x1 + 1))), (S r_script 0 0 (e_wr (x1 + 2))), (S r_script 0 0 (e_wr (x1 + 3)))]) zK290 zK233 rfl rfl hR (by decide +kernel) (by decide +kernel) (fun c m h => oQ_see h)
  have hs : S1 r_script = S r_script := by
    have := zK290.r (L := [(S r_script 0 0 (e_wr (x1 + 1))), (S r_script 0 0 (e_wr (x1 + 2))), (S r_script 0 0 (e_wr (x1 + 3)))]) rfl (S := S) (by rw [e1]) (r := r_script) (by decide +kernel)
    rw [e1] at this
    exact this
  rw [e1, e_bnd, hs] at h
  rw [e2, e_bnd] at h
  obtain ⟨f2, h1, h2⟩ := z_post_g (pc := 2028) h
  exact ⟨f2, _, h1, h2, hR2⟩
theorem zOp_1647 {f : Nat} {x1 : Int} {S : ZS} {X : ZX} (h : z_goes z_Q0 zC300 300 f 1647 [x1] S X) (hX : ∃ y, X.1.1 = (0, [y])) (hR : zQ S S) : ∃ f2 S2, f2 < f ∧ z_goes z_Q0 zC300 300 f2 2028 [x1] S2 X ∧ zQ S2 S2 := by
  have h := zL_1647 h
  obtain ⟨k, v, S1, S2, e1, e2, hR2, ht, ho⟩ := zQ_rel.two (L := [(S r_script 0 0 (e_wr (x1 + 1)))]) zK291 zK234 rfl rfl hR (by decide +kernel) (by decide +kernel) (fun c m h => oQ_type h)
  have hs : S1 r_script = S r_script := by
    have := zK291.r (L := [(S r_script 0 0 (e_wr (x1 + 1)))]) rfl (S := S) (by rw [e1]) (r := r_script) (by decide +kernel)
    rw [e1] at this
    exact this
  rw [e1, e_bnd, hs] at h
  rw [e2, e_bnd] at h
  obtain ⟨f2, h1, h2⟩ := z_post_g (pc := 2028) h
  exact ⟨f2, _, h1, h2, hR2⟩
theorem zOp_1675 {f : Nat} {x1 : Int} {S : ZS} {X : ZX} (h : z_goes z_Q0 zC300 300 f 1675 [x1] S X) (hX : ∃ y, X.1.1 = (0, [y])) (hR : zQ S S) : ∃ f2 S2, f2 < f ∧ z_goes z_Q0 zC300 300 f2 2028 [x1] S2 X ∧ zQ S2 S2 := by
  have h := zL_1675 h
  obtain ⟨k, S1, S2, e1, e2, hR2⟩ := zQ_rel.twoD (L := []) zK127 zK235 rfl rfl hR (by decide +kernel) (by decide +kernel) (fun c m h => oQ_wipe h)
  rw [e1, e_bnd, e2, e_bnd] at h
  obtain ⟨f2, h1, h2⟩ := z_post_g (pc := 2028) h
  exact ⟨f2, _, h1, h2, hR2⟩
theorem zOp_1688 {f : Nat} {x1 : Int} {S : ZS} {X : ZX} (h : z_goes z_Q0 zC300 300 f 1688 [x1] S X) (hX : ∃ y, X.1.1 = (0, [y])) (hR : zQ S S) : ∃ f2 S2, f2 < f ∧ z_goes z_Q0 zC300 300 f2 2028 [x1] S2 X ∧ zQ S2 S2 := by
  have h := zL_1688 h
  obtain ⟨k, v, S1, S2, e1, e2, hR2, ht, ho⟩ := zQ_rel.two (L := [(S r_script 0 0 (e_wr (x1 + 1))), (S r_script 0 0 (e_wr (x1 + 2)))]) zK292 zK237 rfl rfl hR (by decide +kernel) (by decide +kernel) (fun c m h => oQ_rank h)
  have hs : S1 r_script = S r_script := by
    have := zK292.r (L := [(S r_script 0 0 (e_wr (x1 + 1))), (S r_script 0 0 (e_wr (x1 + 2)))]) rfl (S := S) (by rw [e1]) (r := r_script) (by decide +kernel)
    rw [e1] at this
    exact this
  rw [e1, e_bnd, hs] at h
  rw [e2, e_bnd] at h
  obtain ⟨f2, h1, h2⟩ := z_post_g (pc := 2028) h
  exact ⟨f2, _, h1, h2, hR2⟩
theorem zOp_1728 {f : Nat} {x1 : Int} {S : ZS} {X : ZX} (h : z_goes z_Q0 zC300 300 f 1728 [x1] S X) (hX : ∃ y, X.1.1 = (0, [y])) (hR : zQ S S) : ∃ f2 S2, f2 < f ∧ z_goes z_Q0 zC300 300 f2 2028 [x1] S2 X ∧ zQ S2 S2 := by
  have h := zL_1728 h
  obtain ⟨c0, h⟩ := z_post_b h hX
  have hR := zQ_rel.keep zK293 rfl c0 (by decide +kernel) hR
  obtain ⟨c1, h⟩ := z_post_b h hX
  have hR := zQ_rel.keep zK247 rfl c1 (by decide +kernel) hR
  obtain ⟨f2, h1, h2⟩ := z_post_g (pc := 2028) h
  exact ⟨f2, _, h1, h2, hR⟩
theorem zOp_1756 {f : Nat} {x1 : Int} {S : ZS} {X : ZX} (h : z_goes z_Q0 zC300 300 f 1756 [x1] S X) (hX : ∃ y, X.1.1 = (0, [y])) (hR : zQ S S) : ∃ f2 S2, f2 < f ∧ z_goes z_Q0 zC300 300 f2 2028 [x1] S2 X ∧ zQ S2 S2 := by
  have h := zL_1756 h
  obtain ⟨k, v, S1, S2, e1, e2, hR2, ht, ho⟩ := zQ_rel.two (L := [(S r_script 0 0 (e_wr (x1 + 1)))]) zK294 zK248 rfl rfl hR (by decide +kernel) (by decide +kernel) (fun c m h => oQ_award h)
  have hs : S1 r_script = S r_script := by
    have := zK294.r (L := [(S r_script 0 0 (e_wr (x1 + 1)))]) rfl (S := S) (by rw [e1]) (r := r_script) (by decide +kernel)
    rw [e1] at this
    exact this
  rw [e1, e_bnd, hs] at h
  rw [e2, e_bnd] at h
  obtain ⟨f2, h1, h2⟩ := z_post_g (pc := 2028) h
  exact ⟨f2, _, h1, h2, hR2⟩
theorem zOp_1784 {f : Nat} {x1 : Int} {S : ZS} {X : ZX} (h : z_goes z_Q0 zC300 300 f 1784 [x1] S X) (hX : ∃ y, X.1.1 = (0, [y])) (hR : zQ S S) : ∃ f2 S2, f2 < f ∧ z_goes z_Q0 zC300 300 f2 2028 [x1] S2 X ∧ zQ S2 S2 := by
  have h := zL_1784 h
  obtain ⟨k, v, S1, S2, e1, e2, hR2, ht, ho⟩ := zQ_rel.two (L := [(S r_script 0 0 (e_wr (x1 + 1))), (S r_script 0 0 (e_wr (x1 + 2))), (S r_script 0 0 (e_wr (x1 + 3))), (S r_script 0 0 (e_wr (x1 + 4))), (S r_script 0 0 (e_wr (x1 + 5)))]) zK295 zK249 rfl rfl hR (by decide +kernel) (by decide +kernel) (fun c m h => oQ_sell h)
  have hs : S1 r_script = S r_script := by
    have := zK295.r (L := [(S r_script 0 0 (e_wr (x1 + 1))), (S r_script 0 0 (e_wr (x1 + 2))), (S r_script 0 0 (e_wr (x1 + 3))), (S r_script 0 0 (e_wr (x1 + 4))), (S r_script 0 0 (e_wr (x1 + 5)))]) rfl (S := S) (by rw [e1]) (r := r_script) (by decide +kernel)
    rw [e1] at this
    exact this
  rw [e1, e_bnd, hs] at h
  rw [e2, e_bnd] at h
  obtain ⟨f2, h1, h2⟩ := z_post_g (pc := 2028) h
  exact ⟨f2, _, h1, h2, hR2⟩
theorem zOp_1860 {f : Nat} {x1 : Int} {S : ZS} {X : ZX} (h : z_goes z_Q0 zC300 300 f 1860 [x1] S X) (hX : ∃ y, X.1.1 = (0, [y])) (hR : zQ S S) : ∃ f2 S2, f2 < f ∧ z_goes z_Q0 zC300 300 f2 2028 [x1] S2 X ∧ zQ S2 S2 := by
  have h := zL_1860 h
  obtain ⟨c0, h⟩ := z_post_b h hX
  have hR := zQ_rel.keep zK296 rfl c0 (by decide +kernel) hR
  obtain ⟨c1, h⟩ := z_post_b h hX
  have hR := zQ_rel.keep zK250 rfl c1 (by decide +kernel) hR
  obtain ⟨f2, h1, h2⟩ := z_post_g (pc := 2028) h
  exact ⟨f2, _, h1, h2, hR⟩
theorem zOp_1912 {f : Nat} {x1 : Int} {S : ZS} {X : ZX} (h : z_goes z_Q0 zC300 300 f 1912 [x1] S X) (hX : ∃ y, X.1.1 = (0, [y])) (hR : zQ S S) : ∃ f2 S2, f2 < f ∧ z_goes z_Q0 zC300 300 f2 2028 [x1] S2 X ∧ zQ S2 S2 := by
  have h := zL_1912 h
  rw [zb_d] at h
  split at h
  · obtain ⟨c0, h⟩ := z_post_b h hX
    have hR := zQ_rel.keep zK297 rfl c0 (by decide +kernel) hR
    rw [zb_d] at h
    split at h
    · obtain ⟨c1, h⟩ := z_post_b h hX
      have hR := zQ_rel.keep zK251 rfl c1 (by decide +kernel) hR
      obtain ⟨f2, h1, h2⟩ := z_post_g (pc := 2028) h
      exact ⟨f2, _, h1, h2, hR⟩
    · obtain ⟨c1, h⟩ := z_post_b h hX
      have hR := zQ_rel.keep zK251 rfl c1 (by decide +kernel) hR
      obtain ⟨f2, h1, h2⟩ := z_post_g (pc := 2028) h
      exact ⟨f2, _, h1, h2, hR⟩
  · obtain ⟨c0, h⟩ := z_post_b h hX
    have hR := zQ_rel.keep zK297 rfl c0 (by decide +kernel) hR
    rw [zb_d] at h
    split at h
    · obtain ⟨c1, h⟩ := z_post_b h hX
      have hR := zQ_rel.keep zK251 rfl c1 (by decide +kernel) hR
      obtain ⟨f2, h1, h2⟩ := z_post_g (pc := 2028) h
      exact ⟨f2, _, h1, h2, hR⟩
    · obtain ⟨c1, h⟩ := z_post_b h hX
      have hR := zQ_rel.keep zK251 rfl c1 (by decide +kernel) hR
      obtain ⟨f2, h1, h2⟩ := z_post_g (pc := 2028) h
      exact ⟨f2, _, h1, h2, hR⟩
theorem zOp_1968 {f : Nat} {x1 : Int} {S : ZS} {X : ZX} (h : z_goes z_Q0 zC300 300 f 1968 [x1] S X) (hX : ∃ y, X.1.1 = (0, [y])) (hR : zQ S S) : ∃ f2 S2, f2 < f ∧ z_goes z_Q0 zC300 300 f2 2028 [x1] S2 X ∧ zQ S2 S2 := by
  have h := zL_1968 h
  obtain ⟨c0, h⟩ := z_post_b h hX
  have hR := zQ_rel.keep zK134 rfl c0 (by decide +kernel) hR
  obtain ⟨c1, h⟩ := z_post_b h hX
  have hR := zQ_rel.keep zK252 rfl c1 (by decide +kernel) hR
  obtain ⟨f2, h1, h2⟩ := z_post_g (pc := 2028) h
  exact ⟨f2, _, h1, h2, hR⟩
theorem zOp_1981 {f : Nat} {x1 : Int} {S : ZS} {X : ZX} (h : z_goes z_Q0 zC300 300 f 1981 [x1] S X) (hX : ∃ y, X.1.1 = (0, [y])) (hR : zQ S S) : ∃ f2 S2, f2 < f ∧ z_goes z_Q0 zC300 300 f2 2028 [x1] S2 X ∧ zQ S2 S2 := by
  have h := zL_1981 h
  obtain ⟨c0, h⟩ := z_post_b h hX
  have hR := zQ_rel.keep zK298 rfl c0 (by decide +kernel) hR
  obtain ⟨c1, h⟩ := z_post_b h hX
  have hR := zQ_rel.keep zK253 rfl c1 (by decide +kernel) hR
  obtain ⟨f2, h1, h2⟩ := z_post_g (pc := 2028) h
  exact ⟨f2, _, h1, h2, hR⟩
theorem zOp_1998 {f : Nat} {x1 : Int} {S : ZS} {X : ZX} (h : z_goes z_Q0 zC300 300 f 1998 [x1] S X) (hX : ∃ y, X.1.1 = (0, [y])) (hR : zQ S S) : ∃ f2 S2, f2 < f ∧ z_goes z_Q0 zC300 300 f2 2028 [x1] S2 X ∧ zQ S2 S2 := by
  have h := zL_1998 h
  obtain ⟨c0, h⟩ := z_post_b h hX
  have hR := zQ_rel.keep zK299 rfl c0 (by decide +kernel) hR
  obtain ⟨c1, h⟩ := z_post_b h hX
  have hR := zQ_rel.keep zK254 rfl c1 (by decide +kernel) hR
  obtain ⟨f2, h1, h2⟩ := z_post_g (pc := 2028) h
  exact ⟨f2, _, h1, h2, hR⟩
theorem zOp_2015 {f : Nat} {x1 : Int} {S : ZS} {X : ZX} (h : z_goes z_Q0 zC300 300 f 2015 [x1] S X) (hX : ∃ y, X.1.1 = (0, [y])) (hR : zQ S S) : ∃ f2 S2, f2 < f ∧ z_goes z_Q0 zC300 300 f2 2028 [x1] S2 X ∧ zQ S2 S2 := by
  have h := zL_2015 h
  obtain ⟨k, S1, S2, e1, e2, hR2⟩ := zQ_rel.twoD (L := []) zK137 zK255 rfl rfl hR (by decide +kernel) (by decide +kernel) (fun c m h => oQ_isSound h)
  rw [e1, e_bnd, e2, e_bnd] at h
  simp only [zb_d, zb_n, ↓reduceIte, e_lcmp_self] at h
  obtain ⟨f2, h1, h2⟩ := z_post_g (pc := 2028) h
  exact ⟨f2, _, h1, h2, hR2⟩
theorem z_law : ∀ (f : Nat) (i : Int) (S : ZS) (X : ZX), (∃ y, X.1.1 = (0, [y])) → zQ S S → z_goes z_Q0 zC300 300 f 28 [i] S X → X.1.1 = (0, [1]) := by
  intro f
  induction f using Nat.strongRecOn with
  | ind f ih =>
    intro i S X hX hR hg
    have h := zL_28 hg
    rw [zb_d] at h
    split at h
    · exact congrArg Prod.fst (z_post_r (by decide) h)
    · obtain ⟨f1, h1, h2⟩ := z_post_g h
      have key : ∃ f2 S2, f2 < f ∧ z_goes z_Q0 zC300 300 f2 2028 [i] S2 X ∧ zQ S2 S2 := by
        generalize e_and (S r_script 0 0 i) 63 = q at h2
        rcases (e_sw_in : e_sw q 0 [(252, 0), (306, 0), (334, 0), (374, 0), (414, 0), (466, 0), (506, 0), (534, 0), (562, 0), (604, 0), (684, 0), (712, 0), (740, 0), (768, 0), (796, 0), (824, 0), (880, 0), (934, 0), (998, 0), (1050, 0), (1102, 0), (1130, 0), (1172, 0), (1200, 0), (1240, 0), (1268, 0), (1281, 0), (1309, 0), (1349, 0), (1377, 0), (1405, 0), (1445, 0), (1473, 0), (1513, 0), (1553, 0), (1595, 0), (1647, 0), (1675, 0), (1688, 0), (1728, 0), (1756, 0), (1784, 0), (1860, 0), (1912, 0), (1968, 0), (1981, 0), (1998, 0), (2015, 0)] 2028 = _ ∨ _) with e | ⟨t, ht, e⟩
        · rw [e] at h2
          exact ⟨f1, S, h1, h2, hR⟩
        · rw [e] at h2
          simp only [List.mem_cons, List.not_mem_nil, or_false] at ht
          rcases ht with rfl | rfl | rfl | rfl | rfl | rfl | rfl | rfl | rfl | rfl | rfl | rfl | rfl | rfl | rfl | rfl | rfl | rfl | rfl | rfl | rfl | rfl | rfl | rfl | rfl | rfl | rfl | rfl | rfl | rfl | rfl | rfl | rfl | rfl | rfl | rfl | rfl | rfl | rfl | rfl | rfl | rfl | rfl | rfl | rfl | rfl | rfl | rfl
          · obtain ⟨f2, S2, k1, k2, k3⟩ := zOp_252 h2 hX hR
            exact ⟨f2, S2, Nat.lt_trans k1 h1, k2, k3⟩
          · obtain ⟨f2, S2, k1, k2, k3⟩ := zOp_306 h2 hX hR
            exact ⟨f2, S2, Nat.lt_trans k1 h1, k2, k3⟩
          · obtain ⟨f2, S2, k1, k2, k3⟩ := zOp_334 h2 hX hR
            exact ⟨f2, S2, Nat.lt_trans k1 h1, k2, k3⟩
          · obtain ⟨f2, S2, k1, k2, k3⟩ := zOp_374 h2 hX hR
            exact ⟨f2, S2, Nat.lt_trans k1 h1, k2, k3⟩
          · obtain ⟨f2, S2, k1, k2, k3⟩ := zOp_414 h2 hX hR
            exact ⟨f2, S2, Nat.lt_trans k1 h1, k2, k3⟩
          · obtain ⟨f2, S2, k1, k2, k3⟩ := zOp_466 h2 hX hR
            exact ⟨f2, S2, Nat.lt_trans k1 h1, k2, k3⟩
          · obtain ⟨f2, S2, k1, k2, k3⟩ := zOp_506 h2 hX hR
            exact ⟨f2, S2, Nat.lt_trans k1 h1, k2, k3⟩
          · obtain ⟨f2, S2, k1, k2, k3⟩ := zOp_534 h2 hX hR
            exact ⟨f2, S2, Nat.lt_trans k1 h1, k2, k3⟩
          · obtain ⟨f2, S2, k1, k2, k3⟩ := zOp_562 h2 hX hR
            exact ⟨f2, S2, Nat.lt_trans k1 h1, k2, k3⟩
          · obtain ⟨f2, S2, k1, k2, k3⟩ := zOp_604 h2 hX hR
            exact ⟨f2, S2, Nat.lt_trans k1 h1, k2, k3⟩
          · obtain ⟨f2, S2, k1, k2, k3⟩ := zOp_684 h2 hX hR
            exact ⟨f2, S2, Nat.lt_trans k1 h1, k2, k3⟩
          · obtain ⟨f2, S2, k1, k2, k3⟩ := zOp_712 h2 hX hR
            exact ⟨f2, S2, Nat.lt_trans k1 h1, k2, k3⟩
          · obtain ⟨f2, S2, k1, k2, k3⟩ := zOp_740 h2 hX hR
            exact ⟨f2, S2, Nat.lt_trans k1 h1, k2, k3⟩
          · obtain ⟨f2, S2, k1, k2, k3⟩ := zOp_768 h2 hX hR
            exact ⟨f2, S2, Nat.lt_trans k1 h1, k2, k3⟩
          · obtain ⟨f2, S2, k1, k2, k3⟩ := zOp_796 h2 hX hR
            exact ⟨f2, S2, Nat.lt_trans k1 h1, k2, k3⟩
          · obtain ⟨f2, S2, k1, k2, k3⟩ := zOp_824 h2 hX hR
            exact ⟨f2, S2, Nat.lt_trans k1 h1, k2, k3⟩
          · obtain ⟨f2, S2, k1, k2, k3⟩ := zOp_880 h2 hX hR
            exact ⟨f2, S2, Nat.lt_trans k1 h1, k2, k3⟩
          · obtain ⟨f2, S2, k1, k2, k3⟩ := zOp_934 h2 hX hR
            exact ⟨f2, S2, Nat.lt_trans k1 h1, k2, k3⟩
          · obtain ⟨f2, S2, k1, k2, k3⟩ := zOp_998 h2 hX hR
            exact ⟨f2, S2, Nat.lt_trans k1 h1, k2, k3⟩
          · obtain ⟨f2, S2, k1, k2, k3⟩ := zOp_1050 h2 hX hR
            exact ⟨f2, S2, Nat.lt_trans k1 h1, k2, k3⟩
          · obtain ⟨f2, S2, k1, k2, k3⟩ := zOp_1102 h2 hX hR
            exact ⟨f2, S2, Nat.lt_trans k1 h1, k2, k3⟩
          · obtain ⟨f2, S2, k1, k2, k3⟩ := zOp_1130 h2 hX hR
            exact ⟨f2, S2, Nat.lt_trans k1 h1, k2, k3⟩
          · obtain ⟨f2, S2, k1, k2, k3⟩ := zOp_1172 h2 hX hR
            exact ⟨f2, S2, Nat.lt_trans k1 h1, k2, k3⟩
          · obtain ⟨f2, S2, k1, k2, k3⟩ := zOp_1200 h2 hX hR
            exact ⟨f2, S2, Nat.lt_trans k1 h1, k2, k3⟩
          · obtain ⟨f2, S2, k1, k2, k3⟩ := zOp_1240 h2 hX hR
            exact ⟨f2, S2, Nat.lt_trans k1 h1, k2, k3⟩
          · obtain ⟨f2, S2, k1, k2, k3⟩ := zOp_1268 h2 hX hR
            exact ⟨f2, S2, Nat.lt_trans k1 h1, k2, k3⟩
          · obtain ⟨f2, S2, k1, k2, k3⟩ := zOp_1281 h2 hX hR
            exact ⟨f2, S2, Nat.lt_trans k1 h1, k2, k3⟩
          · obtain ⟨f2, S2, k1, k2, k3⟩ := zOp_1309 h2 hX hR
            exact ⟨f2, S2, Nat.lt_trans k1 h1, k2, k3⟩
          · obtain ⟨f2, S2, k1, k2, k3⟩ := zOp_1349 h2 hX hR
            exact ⟨f2, S2, Nat.lt_trans k1 h1, k2, k3⟩
          · obtain ⟨f2, S2, k1, k2, k3⟩ := zOp_1377 h2 hX hR
            exact ⟨f2, S2, Nat.lt_trans k1 h1, k2, k3⟩
          · obtain ⟨f2, S2, k1, k2, k3⟩ := zOp_1405 h2 hX hR
            exact ⟨f2, S2, Nat.lt_trans k1 h1, k2, k3⟩
          · obtain ⟨f2, S2, k1, k2, k3⟩ := zOp_1445 h2 hX hR
            exact ⟨f2, S2, Nat.lt_trans k1 h1, k2, k3⟩
          · obtain ⟨f2, S2, k1, k2, k3⟩ := zOp_1473 h2 hX hR
            exact ⟨f2, S2, Nat.lt_trans k1 h1, k2, k3⟩
          · obtain ⟨f2, S2, k1, k2, k3⟩ := zOp_1513 h2 hX hR
            exact ⟨f2, S2, Nat.lt_trans k1 h1, k2, k3⟩
          · obtain ⟨f2, S2, k1, k2, k3⟩ := zOp_1553 h2 hX hR
            exact ⟨f2, S2, Nat.lt_trans k1 h1, k2, k3⟩
          · obtain ⟨f2, S2, k1, k2, k3⟩ := zOp_1595 h2 hX hR
            exact ⟨f2, S2, Nat.lt_trans k1 h1, k2, k3⟩
          · obtain ⟨f2, S2, k1, k2, k3⟩ := zOp_1647 h2 hX hR
            exact ⟨f2, S2, Nat.lt_trans k1 h1, k2, k3⟩
          · obtain ⟨f2, S2, k1, k2, k3⟩ := zOp_1675 h2 hX hR
            exact ⟨f2, S2, Nat.lt_trans k1 h1, k2, k3⟩
          · obtain ⟨f2, S2, k1, k2, k3⟩ := zOp_1688 h2 hX hR
            exact ⟨f2, S2, Nat.lt_trans k1 h1, k2, k3⟩
          · obtain ⟨f2, S2, k1, k2, k3⟩ := zOp_1728 h2 hX hR
            exact ⟨f2, S2, Nat.lt_trans k1 h1, k2, k3⟩
          · obtain ⟨f2, S2, k1, k2, k3⟩ := zOp_1756 h2 hX hR
            exact ⟨f2, S2, Nat.lt_trans k1 h1, k2, k3⟩
          · obtain ⟨f2, S2, k1, k2, k3⟩ := zOp_1784 h2 hX hR
            exact ⟨f2, S2, Nat.lt_trans k1 h1, k2, k3⟩
          · obtain ⟨f2, S2, k1, k2, k3⟩ := zOp_1860 h2 hX hR
            exact ⟨f2, S2, Nat.lt_trans k1 h1, k2, k3⟩
          · obtain ⟨f2, S2, k1, k2, k3⟩ := zOp_1912 h2 hX hR
            exact ⟨f2, S2, Nat.lt_trans k1 h1, k2, k3⟩
          · obtain ⟨f2, S2, k1, k2, k3⟩ := zOp_1968 h2 hX hR
            exact ⟨f2, S2, Nat.lt_trans k1 h1, k2, k3⟩
          · obtain ⟨f2, S2, k1, k2, k3⟩ := zOp_1981 h2 hX hR
            exact ⟨f2, S2, Nat.lt_trans k1 h1, k2, k3⟩
          · obtain ⟨f2, S2, k1, k2, k3⟩ := zOp_1998 h2 hX hR
            exact ⟨f2, S2, Nat.lt_trans k1 h1, k2, k3⟩
          · obtain ⟨f2, S2, k1, k2, k3⟩ := zOp_2015 h2 hX hR
            exact ⟨f2, S2, Nat.lt_trans k1 h1, k2, k3⟩
      obtain ⟨f2, S2, k1, k2, k3⟩ := key
      obtain ⟨f3, k4, k5⟩ := z_post_g (pc := 28) (zL_2028 k2)
      exact ih f3 (Nat.lt_trans k4 k1) _ S2 X hX k3 k5
