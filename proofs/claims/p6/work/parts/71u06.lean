/-! The law, turn by turn: its operations, by program (wip/s/lawgen.py) -/
theorem e_lcmp_self {x : Int} : e_lcmp x x = 0 := by
  unfold e_lcmp
  rw [if_neg (by omega), if_pos rfl]
theorem zOp_252 {f : Nat} {x1 : Int} {S : ZS} {X : ZX} (h : z_goes z_Q0 zC301 301 f 252 [x1] S X) (hX : ∃ y, X.1.1 = (0, [y])) (hR : zQ S S) : ∃ f2 S2, f2 < f ∧ z_goes z_Q0 zC301 301 f2 2056 [x1] S2 X ∧ zQ S2 S2 := by
  have h := zL_252 h
  obtain ⟨k, v, S1, S2, e1, e2, hR2, ht, ho⟩ := zQ_rel.two (L := [(e_i2c (S r_script 0 0 (e_wr (x1 + 1)))), (S r_script 0 0 (e_wr (x1 + 2))), (S r_script 0 0 (e_wr (x1 + 3)))]) zK256 zK168 rfl rfl hR (by decide +kernel) (by decide +kernel) (fun c m h => o_film h)
  have hs : S1 r_script = S r_script := by
    have := zK256.r (L := [(e_i2c (S r_script 0 0 (e_wr (x1 + 1)))), (S r_script 0 0 (e_wr (x1 + 2))), (S r_script 0 0 (e_wr (x1 + 3)))]) rfl (S := S) (by rw [e1]) (r := r_script) (by decide +kernel)
    rw [e1] at this
    exact this
  rw [e1, e_bnd, hs, e2, e_bnd] at h
  obtain ⟨f2, h1, h2⟩ := z_post_g (pc := 2056) h
  exact ⟨f2, _, h1, h2, hR2⟩
theorem zOp_306 {f : Nat} {x1 : Int} {S : ZS} {X : ZX} (h : z_goes z_Q0 zC301 301 f 306 [x1] S X) (hX : ∃ y, X.1.1 = (0, [y])) (hR : zQ S S) : ∃ f2 S2, f2 < f ∧ z_goes z_Q0 zC301 301 f2 2056 [x1] S2 X ∧ zQ S2 S2 := by
  have h := zL_306 h
  obtain ⟨k, v, S1, S2, e1, e2, hR2, ht, ho⟩ := zQ_rel.two (L := [(S r_script 0 0 (e_wr (x1 + 1)))]) zK257 zK169 rfl rfl hR (by decide +kernel) (by decide +kernel) (fun c m h => o_reader h)
  have hs : S1 r_script = S r_script := by
    have := zK257.r (L := [(S r_script 0 0 (e_wr (x1 + 1)))]) rfl (S := S) (by rw [e1]) (r := r_script) (by decide +kernel)
    rw [e1] at this
    exact this
  rw [e1, e_bnd, hs, e2, e_bnd] at h
  obtain ⟨f2, h1, h2⟩ := z_post_g (pc := 2056) h
  exact ⟨f2, _, h1, h2, hR2⟩
theorem zOp_334 {f : Nat} {x1 : Int} {S : ZS} {X : ZX} (h : z_goes z_Q0 zC301 301 f 334 [x1] S X) (hX : ∃ y, X.1.1 = (0, [y])) (hR : zQ S S) : ∃ f2 S2, f2 < f ∧ z_goes z_Q0 zC301 301 f2 2056 [x1] S2 X ∧ zQ S2 S2 := by
  have h := zL_334 h
  obtain ⟨k, v, S1, S2, e1, e2, hR2, ht, ho⟩ := zQ_rel.two (L := [(S r_script 0 0 (e_wr (x1 + 1))), (S r_script 0 0 (e_wr (x1 + 2)))]) zK258 zK171 rfl rfl hR (by decide +kernel) (by decide +kernel) (fun c m h => o_deal h)
  have hs : S1 r_script = S r_script := by
    have := zK258.r (L := [(S r_script 0 0 (e_wr (x1 + 1))), (S r_script 0 0 (e_wr (x1 + 2)))]) rfl (S := S) (by rw [e1]) (r := r_script) (by decide +kernel)
    rw [e1] at this
    exact this
  rw [e1, e_bnd, hs, e2, e_bnd] at h
  obtain ⟨f2, h1, h2⟩ := z_post_g (pc := 2056) h
  exact ⟨f2, _, h1, h2, hR2⟩
theorem zOp_374 {f : Nat} {x1 : Int} {S : ZS} {X : ZX} (h : z_goes z_Q0 zC301 301 f 374 [x1] S X) (hX : ∃ y, X.1.1 = (0, [y])) (hR : zQ S S) : ∃ f2 S2, f2 < f ∧ z_goes z_Q0 zC301 301 f2 2056 [x1] S2 X ∧ zQ S2 S2 := by
  have h := zL_374 h
  obtain ⟨c0, h⟩ := z_post_b h hX
  have hR := zQ_rel.keep zK259 rfl c0 (by decide +kernel) hR
  obtain ⟨c1, h⟩ := z_post_b h hX
  have hR := zQ_rel.keep zK173 rfl c1 (by decide +kernel) hR
  obtain ⟨f2, h1, h2⟩ := z_post_g (pc := 2056) h
  exact ⟨f2, _, h1, h2, hR⟩
theorem zOp_414 {f : Nat} {x1 : Int} {S : ZS} {X : ZX} (h : z_goes z_Q0 zC301 301 f 414 [x1] S X) (hX : ∃ y, X.1.1 = (0, [y])) (hR : zQ S S) : ∃ f2 S2, f2 < f ∧ z_goes z_Q0 zC301 301 f2 2056 [x1] S2 X ∧ zQ S2 S2 := by
  have h := zL_414 h
  obtain ⟨k, v, S1, S2, e1, e2, hR2, ht, ho⟩ := zQ_rel.two (L := [(S r_script 0 0 (e_wr (x1 + 1))), (S r_script 0 0 (e_wr (x1 + 2))), (S r_script 0 0 (e_wr (x1 + 3)))]) zK260 zK175 rfl rfl hR (by decide +kernel) (by decide +kernel) (fun c m h => o_read h)
  have hs : S1 r_script = S r_script := by
    have := zK260.r (L := [(S r_script 0 0 (e_wr (x1 + 1))), (S r_script 0 0 (e_wr (x1 + 2))), (S r_script 0 0 (e_wr (x1 + 3)))]) rfl (S := S) (by rw [e1]) (r := r_script) (by decide +kernel)
    rw [e1] at this
    exact this
  rw [e1, e_bnd, hs, e2, e_bnd] at h
  rw [show v_m_thrown S2 = k from ht] at h
  simp only [zb_d, zb_n, ↓reduceIte] at h
  by_cases hk : k = 0
  · simp only [hk, ↓reduceIte, ho hk, e_lcmp_self] at h
    obtain ⟨f2, h1, h2⟩ := z_post_g (pc := 2056) h
    exact ⟨f2, _, h1, h2, hR2⟩
  · rw [if_neg hk] at h
    obtain ⟨f2, h1, h2⟩ := z_post_g (pc := 2056) h
    exact ⟨f2, _, h1, h2, hR2⟩
theorem zOp_494 {f : Nat} {x1 : Int} {S : ZS} {X : ZX} (h : z_goes z_Q0 zC301 301 f 494 [x1] S X) (hX : ∃ y, X.1.1 = (0, [y])) (hR : zQ S S) : ∃ f2 S2, f2 < f ∧ z_goes z_Q0 zC301 301 f2 2056 [x1] S2 X ∧ zQ S2 S2 := by
  have h := zL_494 h
  obtain ⟨c0, h⟩ := z_post_b h hX
  have hR := zQ_rel.keep zK261 rfl c0 (by decide +kernel) hR
  obtain ⟨c1, h⟩ := z_post_b h hX
  have hR := zQ_rel.keep zK177 rfl c1 (by decide +kernel) hR
  obtain ⟨f2, h1, h2⟩ := z_post_g (pc := 2056) h
  exact ⟨f2, _, h1, h2, hR⟩
theorem zOp_534 {f : Nat} {x1 : Int} {S : ZS} {X : ZX} (h : z_goes z_Q0 zC301 301 f 534 [x1] S X) (hX : ∃ y, X.1.1 = (0, [y])) (hR : zQ S S) : ∃ f2 S2, f2 < f ∧ z_goes z_Q0 zC301 301 f2 2056 [x1] S2 X ∧ zQ S2 S2 := by
  have h := zL_534 h
  obtain ⟨c0, h⟩ := z_post_b h hX
  have hR := zQ_rel.keep zK262 rfl c0 (by decide +kernel) hR
  obtain ⟨c1, h⟩ := z_post_b h hX
  have hR := zQ_rel.keep zK179 rfl c1 (by decide +kernel) hR
  obtain ⟨f2, h1, h2⟩ := z_post_g (pc := 2056) h
  exact ⟨f2, _, h1, h2, hR⟩
theorem zOp_562 {f : Nat} {x1 : Int} {S : ZS} {X : ZX} (h : z_goes z_Q0 zC301 301 f 562 [x1] S X) (hX : ∃ y, X.1.1 = (0, [y])) (hR : zQ S S) : ∃ f2 S2, f2 < f ∧ z_goes z_Q0 zC301 301 f2 2056 [x1] S2 X ∧ zQ S2 S2 := by
  have h := zL_562 h
  obtain ⟨c0, h⟩ := z_post_b h hX
  have hR := zQ_rel.keep zK263 rfl c0 (by decide +kernel) hR
  obtain ⟨c1, h⟩ := z_post_b h hX
  have hR := zQ_rel.keep zK181 rfl c1 (by decide +kernel) hR
  obtain ⟨f2, h1, h2⟩ := z_post_g (pc := 2056) h
  exact ⟨f2, _, h1, h2, hR⟩
theorem zOp_590 {f : Nat} {x1 : Int} {S : ZS} {X : ZX} (h : z_goes z_Q0 zC301 301 f 590 [x1] S X) (hX : ∃ y, X.1.1 = (0, [y])) (hR : zQ S S) : ∃ f2 S2, f2 < f ∧ z_goes z_Q0 zC301 301 f2 2056 [x1] S2 X ∧ zQ S2 S2 := by
  have h := zL_590 h
  obtain ⟨c0, h⟩ := z_post_b h hX
  have hR := zQ_rel.keep zK264 rfl c0 (by decide +kernel) hR
  obtain ⟨c1, h⟩ := z_post_b h hX
  have hR := zQ_rel.keep zK184 rfl c1 (by decide +kernel) hR
  obtain ⟨f2, h1, h2⟩ := z_post_g (pc := 2056) h
  exact ⟨f2, _, h1, h2, hR⟩
theorem zOp_632 {f : Nat} {x1 : Int} {S : ZS} {X : ZX} (h : z_goes z_Q0 zC301 301 f 632 [x1] S X) (hX : ∃ y, X.1.1 = (0, [y])) (hR : zQ S S) : ∃ f2 S2, f2 < f ∧ z_goes z_Q0 zC301 301 f2 2056 [x1] S2 X ∧ zQ S2 S2 := by
  have h := zL_632 h
  obtain ⟨c0, h⟩ := z_post_b h hX
  have hR := zQ_rel.keep zK265 rfl c0 (by decide +kernel) hR
  obtain ⟨c1, h⟩ := z_post_b h hX
  have hR := zQ_rel.keep zK185 rfl c1 (by decide +kernel) hR
  obtain ⟨f2, h1, h2⟩ := z_post_g (pc := 2056) h
  exact ⟨f2, _, h1, h2, hR⟩
theorem zOp_712 {f : Nat} {x1 : Int} {S : ZS} {X : ZX} (h : z_goes z_Q0 zC301 301 f 712 [x1] S X) (hX : ∃ y, X.1.1 = (0, [y])) (hR : zQ S S) : ∃ f2 S2, f2 < f ∧ z_goes z_Q0 zC301 301 f2 2056 [x1] S2 X ∧ zQ S2 S2 := by
  have h := zL_712 h
  obtain ⟨c0, h⟩ := z_post_b h hX
  have hR := zQ_rel.keep zK266 rfl c0 (by decide +kernel) hR
  obtain ⟨c1, h⟩ := z_post_b h hX
  have hR := zQ_rel.keep zK190 rfl c1 (by decide +kernel) hR
  obtain ⟨f2, h1, h2⟩ := z_post_g (pc := 2056) h
  exact ⟨f2, _, h1, h2, hR⟩
theorem zOp_740 {f : Nat} {x1 : Int} {S : ZS} {X : ZX} (h : z_goes z_Q0 zC301 301 f 740 [x1] S X) (hX : ∃ y, X.1.1 = (0, [y])) (hR : zQ S S) : ∃ f2 S2, f2 < f ∧ z_goes z_Q0 zC301 301 f2 2056 [x1] S2 X ∧ zQ S2 S2 := by
  have h := zL_740 h
  obtain ⟨c0, h⟩ := z_post_b h hX
  have hR := zQ_rel.keep zK267 rfl c0 (by decide +kernel) hR
  obtain ⟨c1, h⟩ := z_post_b h hX
  have hR := zQ_rel.keep zK191 rfl c1 (by decide +kernel) hR
  obtain ⟨f2, h1, h2⟩ := z_post_g (pc := 2056) h
  exact ⟨f2, _, h1, h2, hR⟩
theorem zOp_768 {f : Nat} {x1 : Int} {S : ZS} {X : ZX} (h : z_goes z_Q0 zC301 301 f 768 [x1] S X) (hX : ∃ y, X.1.1 = (0, [y])) (hR : zQ S S) : ∃ f2 S2, f2 < f ∧ z_goes z_Q0 zC301 301 f2 2056 [x1] S2 X ∧ zQ S2 S2 := by
  have h := zL_768 h
  obtain ⟨c0, h⟩ := z_post_b h hX
  have hR := zQ_rel.keep zK268 rfl c0 (by decide +kernel) hR
  obtain ⟨c1, h⟩ := z_post_b h hX
  have hR := zQ_rel.keep zK192 rfl c1 (by decide +kernel) hR
  obtain ⟨f2, h1, h2⟩ := z_post_g (pc := 2056) h
  exact ⟨f2, _, h1, h2, hR⟩
theorem zOp_796 {f : Nat} {x1 : Int} {S : ZS} {X : ZX} (h : z_goes z_Q0 zC301 301 f 796 [x1] S X) (hX : ∃ y, X.1.1 = (0, [y])) (hR : zQ S S) : ∃ f2 S2, f2 < f ∧ z_goes z_Q0 zC301 301 f2 2056 [x1] S2 X ∧ zQ S2 S2 := by
  have h := zL_796 h
  obtain ⟨c0, h⟩ := z_post_b h hX
  have hR := zQ_rel.keep zK269 rfl c0 (by decide +kernel) hR
  obtain ⟨c1, h⟩ := z_post_b h hX
  have hR := zQ_rel.keep zK193 rfl c1 (by decide +kernel) hR
  obtain ⟨f2, h1, h2⟩ := z_post_g (pc := 2056) h
  exact ⟨f2, _, h1, h2, hR⟩
theorem zOp_824 {f : Nat} {x1 : Int} {S : ZS} {X : ZX} (h : z_goes z_Q0 zC301 301 f 824 [x1] S X) (hX : ∃ y, X.1.1 = (0, [y])) (hR : zQ S S) : ∃ f2 S2, f2 < f ∧ z_goes z_Q0 zC301 301 f2 2056 [x1] S2 X ∧ zQ S2 S2 := by
  have h := zL_824 h
  obtain ⟨c0, h⟩ := z_post_b h hX
  have hR := zQ_rel.keep zK270 rfl c0 (by decide +kernel) hR
  obtain ⟨c1, h⟩ := z_post_b h hX
  have hR := zQ_rel.keep zK194 rfl c1 (by decide +kernel) hR
  obtain ⟨f2, h1, h2⟩ := z_post_g (pc := 2056) h
  exact ⟨f2, _, h1, h2, hR⟩
theorem zOp_852 {f : Nat} {x1 : Int} {S : ZS} {X : ZX} (h : z_goes z_Q0 zC301 301 f 852 [x1] S X) (hX : ∃ y, X.1.1 = (0, [y])) (hR : zQ S S) : ∃ f2 S2, f2 < f ∧ z_goes z_Q0 zC301 301 f2 2056 [x1] S2 X ∧ zQ S2 S2 := by
  have h := zL_852 h
  rw [zb_d] at h
  split at h
  · obtain ⟨c0, h⟩ := z_post_b h hX
    have hR := zQ_rel.keep zK271 rfl c0 (by decide +kernel) hR
    rw [zb_d] at h
    split at h
    · obtain ⟨c1, h⟩ := z_post_b h hX
      have hR := zQ_rel.keep zK195 rfl c1 (by decide +kernel) hR
      obtain ⟨f2, h1, h2⟩ := z_post_g (pc := 2056) h
      exact ⟨f2, _, h1, h2, hR⟩
    · obtain ⟨c1, h⟩ := z_post_b h hX
      have hR := zQ_rel.keep zK195 rfl c1 (by decide +kernel) hR
      obtain ⟨f2, h1, h2⟩ := z_post_g (pc := 2056) h
      exact ⟨f2, _, h1, h2, hR⟩
  · obtain ⟨c0, h⟩ := z_post_b h hX
    have hR := zQ_rel.keep zK271 rfl c0 (by decide +kernel) hR
    rw [zb_d] at h
    split at h
    · obtain ⟨c1, h⟩ := z_post_b h hX
      have hR := zQ_rel.keep zK195 rfl c1 (by decide +kernel) hR
      obtain ⟨f2, h1, h2⟩ := z_post_g (pc := 2056) h
      exact ⟨f2, _, h1, h2, hR⟩
    · obtain ⟨c1, h⟩ := z_post_b h hX
      have hR := zQ_rel.keep zK195 rfl c1 (by decide +kernel) hR
      obtain ⟨f2, h1, h2⟩ := z_post_g (pc := 2056) h
      exact ⟨f2, _, h1, h2, hR⟩
theorem zOp_908 {f : Nat} {x1 : Int} {S : ZS} {X : ZX} (h : z_goes z_Q0 zC301 301 f 908 [x1] S X) (hX : ∃ y, X.1.1 = (0, [y])) (hR : zQ S S) : ∃ f2 S2, f2 < f ∧ z_goes z_Q0 zC301 301 f2 2056 [x1] S2 X ∧ zQ S2 S2 := by
  have h := zL_908 h
  obtain ⟨c0, h⟩ := z_post_b h hX
  have hR := zQ_rel.keep zK272 rfl c0 (by decide +kernel) hR
  obtain ⟨c1, h⟩ := z_post_b h hX
  have hR := zQ_rel.keep zK198 rfl c1 (by decide +kernel) hR
  obtain ⟨f2, h1, h2⟩ := z_post_g (pc := 2056) h
  exact ⟨f2, _, h1, h2, hR⟩
theorem zOp_962 {f : Nat} {x1 : Int} {S : ZS} {X : ZX} (h : z_goes z_Q0 zC301 301 f 962 [x1] S X) (hX : ∃ y, X.1.1 = (0, [y])) (hR : zQ S S) : ∃ f2 S2, f2 < f ∧ z_goes z_Q0 zC301 301 f2 2056 [x1] S2 X ∧ zQ S2 S2 := by
  have h := zL_962 h
  obtain ⟨c0, h⟩ := z_post_b h hX
  have hR := zQ_rel.keep zK273 rfl c0 (by decide +kernel) hR
  obtain ⟨c1, h⟩ := z_post_b h hX
  have hR := zQ_rel.keep zK199 rfl c1 (by decide +kernel) hR
  obtain ⟨f2, h1, h2⟩ := z_post_g (pc := 2056) h
  exact ⟨f2, _, h1, h2, hR⟩
theorem zOp_1026 {f : Nat} {x1 : Int} {S : ZS} {X : ZX} (h : z_goes z_Q0 zC301 301 f 1026 [x1] S X) (hX : ∃ y, X.1.1 = (0, [y])) (hR : zQ S S) : ∃ f2 S2, f2 < f ∧ z_goes z_Q0 zC301 301 f2 2056 [x1] S2 X ∧ zQ S2 S2 := by
  have h := zL_1026 h
  obtain ⟨c0, h⟩ := z_post_b h hX
  have hR := zQ_rel.keep zK274 rfl c0 (by decide +kernel) hR
  obtain ⟨c1, h⟩ := z_post_b h hX
  have hR := zQ_rel.keep zK201 rfl c1 (by decide +kernel) hR
  obtain ⟨f2, h1, h2⟩ := z_post_g (pc := 2056) h
  exact ⟨f2, _, h1, h2, hR⟩
theorem zOp_1078 {f : Nat} {x1 : Int} {S : ZS} {X : ZX} (h : z_goes z_Q0 zC301 301 f 1078 [x1] S X) (hX : ∃ y, X.1.1 = (0, [y])) (hR : zQ S S) : ∃ f2 S2, f2 < f ∧ z_goes z_Q0 zC301 301 f2 2056 [x1] S2 X ∧ zQ S2 S2 := by
  have h := zL_1078 h
  obtain ⟨c0, h⟩ := z_post_b h hX
  have hR := zQ_rel.keep zK275 rfl c0 (by decide +kernel) hR
  obtain ⟨c1, h⟩ := z_post_b h hX
  have hR := zQ_rel.keep zK209 rfl c1 (by decide +kernel) hR
  obtain ⟨f2, h1, h2⟩ := z_post_g (pc := 2056) h
  exact ⟨f2, _, h1, h2, hR⟩
theorem zOp_1130 {f : Nat} {x1 : Int} {S : ZS} {X : ZX} (h : z_goes z_Q0 zC301 301 f 1130 [x1] S X) (hX : ∃ y, X.1.1 = (0, [y])) (hR : zQ S S) : ∃ f2 S2, f2 < f ∧ z_goes z_Q0 zC301 301 f2 2056 [x1] S2 X ∧ zQ S2 S2 := by
  have h := zL_1130 h
  obtain ⟨c0, h⟩ := z_post_b h hX
  have hR := zQ_rel.keep zK276 rfl c0 (by decide +kernel) hR
  obtain ⟨c1, h⟩ := z_post_b h hX
  have hR := zQ_rel.keep zK211 rfl c1 (by decide +kernel) hR
  obtain ⟨f2, h1, h2⟩ := z_post_g (pc := 2056) h
  exact ⟨f2, _, h1, h2, hR⟩
theorem zOp_1158 {f : Nat} {x1 : Int} {S : ZS} {X : ZX} (h : z_goes z_Q0 zC301 301 f 1158 [x1] S X) (hX : ∃ y, X.1.1 = (0, [y])) (hR : zQ S S) : ∃ f2 S2, f2 < f ∧ z_goes z_Q0 zC301 301 f2 2056 [x1] S2 X ∧ zQ S2 S2 := by
  have h := zL_1158 h
  obtain ⟨c0, h⟩ := z_post_b h hX
  have hR := zQ_rel.keep zK277 rfl c0 (by decide +kernel) hR
  obtain ⟨c1, h⟩ := z_post_b h hX
  have hR := zQ_rel.keep zK213 rfl c1 (by decide +kernel) hR
  obtain ⟨f2, h1, h2⟩ := z_post_g (pc := 2056) h
  exact ⟨f2, _, h1, h2, hR⟩
theorem zOp_1200 {f : Nat} {x1 : Int} {S : ZS} {X : ZX} (h : z_goes z_Q0 zC301 301 f 1200 [x1] S X) (hX : ∃ y, X.1.1 = (0, [y])) (hR : zQ S S) : ∃ f2 S2, f2 < f ∧ z_goes z_Q0 zC301 301 f2 2056 [x1] S2 X ∧ zQ S2 S2 := by
  have h := zL_1200 h
  obtain ⟨c0, h⟩ := z_post_b h hX
  have hR := zQ_rel.keep zK278 rfl c0 (by decide +kernel) hR
  obtain ⟨c1, h⟩ := z_post_b h hX
  have hR := zQ_rel.keep zK214 rfl c1 (by decide +kernel) hR
  obtain ⟨f2, h1, h2⟩ := z_post_g (pc := 2056) h
  exact ⟨f2, _, h1, h2, hR⟩
theorem zOp_1228 {f : Nat} {x1 : Int} {S : ZS} {X : ZX} (h : z_goes z_Q0 zC301 301 f 1228 [x1] S X) (hX : ∃ y, X.1.1 = (0, [y])) (hR : zQ S S) : ∃ f2 S2, f2 < f ∧ z_goes z_Q0 zC301 301 f2 2056 [x1] S2 X ∧ zQ S2 S2 := by
  have h := zL_1228 h
  obtain ⟨c0, h⟩ := z_post_b h hX
  have hR := zQ_rel.keep zK279 rfl c0 (by decide +kernel) hR
  obtain ⟨c1, h⟩ := z_post_b h hX
  have hR := zQ_rel.keep zK215 rfl c1 (by decide +kernel) hR
  obtain ⟨f2, h1, h2⟩ := z_post_g (pc := 2056) h
  exact ⟨f2, _, h1, h2, hR⟩
theorem zOp_1268 {f : Nat} {x1 : Int} {S : ZS} {X : ZX} (h : z_goes z_Q0 zC301 301 f 1268 [x1] S X) (hX : ∃ y, X.1.1 = (0, [y])) (hR : zQ S S) : ∃ f2 S2, f2 < f ∧ z_goes z_Q0 zC301 301 f2 2056 [x1] S2 X ∧ zQ S2 S2 := by
  have h := zL_1268 h
  obtain ⟨c0, h⟩ := z_post_b h hX
  have hR := zQ_rel.keep zK280 rfl c0 (by decide +kernel) hR
  obtain ⟨c1, h⟩ := z_post_b h hX
  have hR := zQ_rel.keep zK216 rfl c1 (by decide +kernel) hR
  obtain ⟨f2, h1, h2⟩ := z_post_g (pc := 2056) h
  exact ⟨f2, _, h1, h2, hR⟩
theorem zOp_1296 {f : Nat} {x1 : Int} {S : ZS} {X : ZX} (h : z_goes z_Q0 zC301 301 f 1296 [x1] S X) (hX : ∃ y, X.1.1 = (0, [y])) (hR : zQ S S) : ∃ f2 S2, f2 < f ∧ z_goes z_Q0 zC301 301 f2 2056 [x1] S2 X ∧ zQ S2 S2 := by
  have h := zL_1296 h
  obtain ⟨c0, h⟩ := z_post_b h hX
  have hR := zQ_rel.keep zK217 rfl c0 (by decide +kernel) hR
  obtain ⟨f2, h1, h2⟩ := z_post_g (pc := 2056) h
  exact ⟨f2, _, h1, h2, hR⟩
theorem zOp_1309 {f : Nat} {x1 : Int} {S : ZS} {X : ZX} (h : z_goes z_Q0 zC301 301 f 1309 [x1] S X) (hX : ∃ y, X.1.1 = (0, [y])) (hR : zQ S S) : ∃ f2 S2, f2 < f ∧ z_goes z_Q0 zC301 301 f2 2056 [x1] S2 X ∧ zQ S2 S2 := by
  have h := zL_1309 h
  obtain ⟨c0, h⟩ := z_post_b h hX
  have hR := zQ_rel.keep zK281 rfl c0 (by decide +kernel) hR
  obtain ⟨c1, h⟩ := z_post_b h hX
  have hR := zQ_rel.keep zK221 rfl c1 (by decide +kernel) hR
  obtain ⟨f2, h1, h2⟩ := z_post_g (pc := 2056) h
  exact ⟨f2, _, h1, h2, hR⟩
theorem zOp_1337 {f : Nat} {x1 : Int} {S : ZS} {X : ZX} (h : z_goes z_Q0 zC301 301 f 1337 [x1] S X) (hX : ∃ y, X.1.1 = (0, [y])) (hR : zQ S S) : ∃ f2 S2, f2 < f ∧ z_goes z_Q0 zC301 301 f2 2056 [x1] S2 X ∧ zQ S2 S2 := by
  have h := zL_1337 h
  obtain ⟨c0, h⟩ := z_post_b h hX
  have hR := zQ_rel.keep zK282 rfl c0 (by decide +kernel) hR
  obtain ⟨c1, h⟩ := z_post_b h hX
  have hR := zQ_rel.keep zK222 rfl c1 (by decide +kernel) hR
  obtain ⟨f2, h1, h2⟩ := z_post_g (pc := 2056) h
  exact ⟨f2, _, h1, h2, hR⟩
theorem zOp_1377 {f : Nat} {x1 : Int} {S : ZS} {X : ZX} (h : z_goes z_Q0 zC301 301 f 1377 [x1] S X) (hX : ∃ y, X.1.1 = (0, [y])) (hR : zQ S S) : ∃ f2 S2, f2 < f ∧ z_goes z_Q0 zC301 301 f2 2056 [x1] S2 X ∧ zQ S2 S2 := by
  have h := zL_1377 h
  obtain ⟨c0, h⟩ := z_post_b h hX
  have hR := zQ_rel.keep zK283 rfl c0 (by decide +kernel) hR
  obtain ⟨c1, h⟩ := z_post_b h hX
  have hR := zQ_rel.keep zK223 rfl c1 (by decide +kernel) hR
  obtain ⟨f2, h1, h2⟩ := z_post_g (pc := 2056) h
  exact ⟨f2, _, h1, h2, hR⟩
theorem zOp_1405 {f : Nat} {x1 : Int} {S : ZS} {X : ZX} (h : z_goes z_Q0 zC301 301 f 1405 [x1] S X) (hX : ∃ y, X.1.1 = (0, [y])) (hR : zQ S S) : ∃ f2 S2, f2 < f ∧ z_goes z_Q0 zC301 301 f2 2056 [x1] S2 X ∧ zQ S2 S2 := by
  have h := zL_1405 h
  obtain ⟨c0, h⟩ := z_post_b h hX
  have hR := zQ_rel.keep zK284 rfl c0 (by decide +kernel) hR
  obtain ⟨c1, h⟩ := z_post_b h hX
  have hR := zQ_rel.keep zK224 rfl c1 (by decide +kernel) hR
  obtain ⟨f2, h1, h2⟩ := z_post_g (pc := 2056) h
  exact ⟨f2, _, h1, h2, hR⟩
theorem zOp_1433 {f : Nat} {x1 : Int} {S : ZS} {X : ZX} (h : z_goes z_Q0 zC301 301 f 1433 [x1] S X) (hX : ∃ y, X.1.1 = (0, [y])) (hR : zQ S S) : ∃ f2 S2, f2 < f ∧ z_goes z_Q0 zC301 301 f2 2056 [x1] S2 X ∧ zQ S2 S2 := by
  have h := zL_1433 h
  obtain ⟨c0, h⟩ := z_post_b h hX
  have hR := zQ_rel.keep zK285 rfl c0 (by decide +kernel) hR
  obtain ⟨c1, h⟩ := z_post_b h hX
  have hR := zQ_rel.keep zK226 rfl c1 (by decide +kernel) hR
  obtain ⟨f2, h1, h2⟩ := z_post_g (pc := 2056) h
  exact ⟨f2, _, h1, h2, hR⟩
theorem zOp_1473 {f : Nat} {x1 : Int} {S : ZS} {X : ZX} (h : z_goes z_Q0 zC301 301 f 1473 [x1] S X) (hX : ∃ y, X.1.1 = (0, [y])) (hR : zQ S S) : ∃ f2 S2, f2 < f ∧ z_goes z_Q0 zC301 301 f2 2056 [x1] S2 X ∧ zQ S2 S2 := by
  have h := zL_1473 h
  obtain ⟨c0, h⟩ := z_post_b h hX
  have hR := zQ_rel.keep zK286 rfl c0 (by decide +kernel) hR
  obtain ⟨c1, h⟩ := z_post_b h hX
  have hR := zQ_rel.keep zK228 rfl c1 (by decide +kernel) hR
  obtain ⟨f2, h1, h2⟩ := z_post_g (pc := 2056) h
  exact ⟨f2, _, h1, h2, hR⟩
theorem zOp_1501 {f : Nat} {x1 : Int} {S : ZS} {X : ZX} (h : z_goes z_Q0 zC301 301 f 1501 [x1] S X) (hX : ∃ y, X.1.1 = (0, [y])) (hR : zQ S S) : ∃ f2 S2, f2 < f ∧ z_goes z_Q0 zC301 301 f2 2056 [x1] S2 X ∧ zQ S2 S2 := by
  have h := zL_1501 h
  obtain ⟨c0, h⟩ := z_post_b h hX
  have hR := zQ_rel.keep zK287 rfl c0 (by decide +kernel) hR
  obtain ⟨c1, h⟩ := z_post_b h hX
  have hR := zQ_rel.keep zK229 rfl c1 (by decide +kernel) hR
  obtain ⟨f2, h1, h2⟩ := z_post_g (pc := 2056) h
  exact ⟨f2, _, h1, h2, hR⟩
theorem zOp_1541 {f : Nat} {x1 : Int} {S : ZS} {X : ZX} (h : z_goes z_Q0 zC301 301 f 1541 [x1] S X) (hX : ∃ y, X.1.1 = (0, [y])) (hR : zQ S S) : ∃ f2 S2, f2 < f ∧ z_goes z_Q0 zC301 301 f2 2056 [x1] S2 X ∧ zQ S2 S2 := by
  have h := zL_1541 h
  obtain ⟨c0, h⟩ := z_post_b h hX
  have hR := zQ_rel.keep zK288 rfl c0 (by decide +kernel) hR
  obtain ⟨c1, h⟩ := z_post_b h hX
  have hR := zQ_rel.keep zK230 rfl c1 (by decide +kernel) hR
  obtain ⟨f2, h1, h2⟩ := z_post_g (pc := 2056) h
  exact ⟨f2, _, h1, h2, hR⟩
theorem zOp_1581 {f : Nat} {x1 : Int} {S : ZS} {X : ZX} (h : z_goes z_Q0 zC301 301 f 1581 [x1] S X) (hX : ∃ y, X.1.1 = (0, [y])) (hR : zQ S S) : ∃ f2 S2, f2 < f ∧ z_goes z_Q0 zC301 301 f2 2056 [x1] S2 X ∧ zQ S2 S2 := by
  have h := zL_1581 h
  obtain ⟨c0, h⟩ := z_post_b h hX
  have hR := zQ_rel.keep zK289 rfl c0 (by decide +kernel) hR
  obtain ⟨c1, h⟩ := z_post_b h hX
  have hR := zQ_rel.keep zK231 rfl c1 (by decide +kernel) hR
  obtain ⟨f2, h1, h2⟩ := z_post_g (pc := 2056) h
  exact ⟨f2, _, h1, h2, hR⟩
theorem zOp_1623 {f : Nat} {x1 : Int} {S : ZS} {X : ZX} (h : z_goes z_Q0 zC301 301 f 1623 [x1] S X) (hX : ∃ y, X.1.1 = (0, [y])) (hR : zQ S S) : ∃ f2 S2, f2 < f ∧ z_goes z_Q0 zC301 301 f2 2056 [x1] S2 X ∧ zQ S2 S2 := by
  have h := zL_1623 h
  obtain ⟨c0, h⟩ := z_post_b h hX
  have hR := zQ_rel.keep zK290 rfl c0 (by decide +kernel) hR
  obtain ⟨c1, h⟩ := z_post_b h hX
  have hR := zQ_rel.keep zK233 rfl c1 (by decide +kernel) hR
  obtain ⟨f2, h1, h2⟩ := z_post_g (pc := 2056) h
  exact ⟨f2, _, h1, h2, hR⟩
theorem zOp_1675 {f : Nat} {x1 : Int} {S : ZS} {X : ZX} (h : z_goes z_Q0 zC301 301 f 1675 [x1] S X) (hX : ∃ y, X.1.1 = (0, [y])) (hR : zQ S S) : ∃ f2 S2, f2 < f ∧ z_goes z_Q0 zC301 301 f2 2056 [x1] S2 X ∧ zQ S2 S2 := by
  have h := zL_1675 h
  obtain ⟨c0, h⟩ := z_post_b h hX
  have hR := zQ_rel.keep zK291 rfl c0 (by decide +kernel) hR
  obtain ⟨c1, h⟩ := z_post_b h hX
  have hR := zQ_rel.keep zK234 rfl c1 (by decide +kernel) hR
  obtain ⟨f2, h1, h2⟩ := z_post_g (pc := 2056) h
  exact ⟨f2, _, h1, h2, hR⟩
theorem zOp_1703 {f : Nat} {x1 : Int} {S : ZS} {X : ZX} (h : z_goes z_Q0 zC301 301 f 1703 [x1] S X) (hX : ∃ y, X.1.1 = (0, [y])) (hR : zQ S S) : ∃ f2 S2, f2 < f ∧ z_goes z_Q0 zC301 301 f2 2056 [x1] S2 X ∧ zQ S2 S2 := by
  have h := zL_1703 h
  obtain ⟨c0, h⟩ := z_post_b h hX
  have hR := zQ_rel.keep zK127 rfl c0 (by decide +kernel) hR
  obtain ⟨c1, h⟩ := z_post_b h hX
  have hR := zQ_rel.keep zK235 rfl c1 (by decide +kernel) hR
  obtain ⟨f2, h1, h2⟩ := z_post_g (pc := 2056) h
  exact ⟨f2, _, h1, h2, hR⟩
theorem zOp_1716 {f : Nat} {x1 : Int} {S : ZS} {X : ZX} (h : z_goes z_Q0 zC301 301 f 1716 [x1] S X) (hX : ∃ y, X.1.1 = (0, [y])) (hR : zQ S S) : ∃ f2 S2, f2 < f ∧ z_goes z_Q0 zC301 301 f2 2056 [x1] S2 X ∧ zQ S2 S2 := by
  have h := zL_1716 h
  obtain ⟨c0, h⟩ := z_post_b h hX
  have hR := zQ_rel.keep zK292 rfl c0 (by decide +kernel) hR
  obtain ⟨c1, h⟩ := z_post_b h hX
  have hR := zQ_rel.keep zK237 rfl c1 (by decide +kernel) hR
  obtain ⟨f2, h1, h2⟩ := z_post_g (pc := 2056) h
  exact ⟨f2, _, h1, h2, hR⟩
theorem zOp_1756 {f : Nat} {x1 : Int} {S : ZS} {X : ZX} (h : z_goes z_Q0 zC301 301 f 1756 [x1] S X) (hX : ∃ y, X.1.1 = (0, [y])) (hR : zQ S S) : ∃ f2 S2, f2 < f ∧ z_goes z_Q0 zC301 301 f2 2056 [x1] S2 X ∧ zQ S2 S2 := by
  have h := zL_1756 h
  obtain ⟨c0, h⟩ := z_post_b h hX
  have hR := zQ_rel.keep zK293 rfl c0 (by decide +kernel) hR
  obtain ⟨c1, h⟩ := z_post_b h hX
  have hR := zQ_rel.keep zK247 rfl c1 (by decide +kernel) hR
  obtain ⟨f2, h1, h2⟩ := z_post_g (pc := 2056) h
  exact ⟨f2, _, h1, h2, hR⟩
theorem zOp_1784 {f : Nat} {x1 : Int} {S : ZS} {X : ZX} (h : z_goes z_Q0 zC301 301 f 1784 [x1] S X) (hX : ∃ y, X.1.1 = (0, [y])) (hR : zQ S S) : ∃ f2 S2, f2 < f ∧ z_goes z_Q0 zC301 301 f2 2056 [x1] S2 X ∧ zQ S2 S2 := by
  have h := zL_1784 h
  obtain ⟨c0, h⟩ := z_post_b h hX
  have hR := zQ_rel.keep zK294 rfl c0 (by decide +kernel) hR
  obtain ⟨c1, h⟩ := z_post_b h hX
  have hR := zQ_rel.keep zK248 rfl c1 (by decide +kernel) hR
  obtain ⟨f2, h1, h2⟩ := z_post_g (pc := 2056) h
  exact ⟨f2, _, h1, h2, hR⟩
theorem zOp_1812 {f : Nat} {x1 : Int} {S : ZS} {X : ZX} (h : z_goes z_Q0 zC301 301 f 1812 [x1] S X) (hX : ∃ y, X.1.1 = (0, [y])) (hR : zQ S S) : ∃ f2 S2, f2 < f ∧ z_goes z_Q0 zC301 301 f2 2056 [x1] S2 X ∧ zQ S2 S2 := by
  have h := zL_1812 h
  obtain ⟨c0, h⟩ := z_post_b h hX
  have hR := zQ_rel.keep zK295 rfl c0 (by decide +kernel) hR
  obtain ⟨c1, h⟩ := z_post_b h hX
  have hR := zQ_rel.keep zK249 rfl c1 (by decide +kernel) hR
  obtain ⟨f2, h1, h2⟩ := z_post_g (pc := 2056) h
  exact ⟨f2, _, h1, h2, hR⟩
theorem zOp_1888 {f : Nat} {x1 : Int} {S : ZS} {X : ZX} (h : z_goes z_Q0 zC301 301 f 1888 [x1] S X) (hX : ∃ y, X.1.1 = (0, [y])) (hR : zQ S S) : ∃ f2 S2, f2 < f ∧ z_goes z_Q0 zC301 301 f2 2056 [x1] S2 X ∧ zQ S2 S2 := by
  have h := zL_1888 h
  obtain ⟨c0, h⟩ := z_post_b h hX
  have hR := zQ_rel.keep zK296 rfl c0 (by decide +kernel) hR
  obtain ⟨c1, h⟩ := z_post_b h hX
  have hR := zQ_rel.keep zK250 rfl c1 (by decide +kernel) hR
  obtain ⟨f2, h1, h2⟩ := z_post_g (pc := 2056) h
  exact ⟨f2, _, h1, h2, hR⟩
theorem zOp_1940 {f : Nat} {x1 : Int} {S : ZS} {X : ZX} (h : z_goes z_Q0 zC301 301 f 1940 [x1] S X) (hX : ∃ y, X.1.1 = (0, [y])) (hR : zQ S S) : ∃ f2 S2, f2 < f ∧ z_goes z_Q0 zC301 301 f2 2056 [x1] S2 X ∧ zQ S2 S2 := by
  have h := zL_1940 h
  rw [zb_d] at h
  split at h
  · obtain ⟨c0, h⟩ := z_post_b h hX
    have hR := zQ_rel.keep zK297 rfl c0 (by decide +kernel) hR
    rw [zb_d] at h
    split at h
    · obtain ⟨c1, h⟩ := z_post_b h hX
      have hR := zQ_rel.keep zK251 rfl c1 (by decide +kernel) hR
      obtain ⟨f2, h1, h2⟩ := z_post_g (pc := 2056) h
      exact ⟨f2, _, h1, h2, hR⟩
    · obtain ⟨c1, h⟩ := z_post_b h hX
      have hR := zQ_rel.keep zK251 rfl c1 (by decide +kernel) hR
      obtain ⟨f2, h1, h2⟩ := z_post_g (pc := 2056) h
      exact ⟨f2, _, h1, h2, hR⟩
  · obtain ⟨c0, h⟩ := z_post_b h hX
    have hR := zQ_rel.keep zK297 rfl c0 (by decide +kernel) hR
    rw [zb_d] at h
    split at h
    · obtain ⟨c1, h⟩ := z_post_b h hX
      have hR := zQ_rel.keep zK251 rfl c1 (by decide +kernel) hR
      obtain ⟨f2, h1, h2⟩ := z_post_g (pc := 2056) h
      exact ⟨f2, _, h1, h2, hR⟩
    · obtain ⟨c1, h⟩ := z_post_b h hX
      have hR := zQ_rel.keep zK251 rfl c1 (by decide +kernel) hR
      obtain ⟨f2, h1, h2⟩ := z_post_g (pc := 2056) h
      exact ⟨f2, _, h1, h2, hR⟩
theorem zOp_1996 {f : Nat} {x1 : Int} {S : ZS} {X : ZX} (h : z_goes z_Q0 zC301 301 f 1996 [x1] S X) (hX : ∃ y, X.1.1 = (0, [y])) (hR : zQ S S) : ∃ f2 S2, f2 < f ∧ z_goes z_Q0 zC301 301 f2 2056 [x1] S2 X ∧ zQ S2 S2 := by
  have h := zL_1996 h
  obtain ⟨c0, h⟩ := z_post_b h hX
  have hR := zQ_rel.keep zK134 rfl c0 (by decide +kernel) hR
  obtain ⟨c1, h⟩ := z_post_b h hX
  have hR := zQ_rel.keep zK252 rfl c1 (by decide +kernel) hR
  obtain ⟨f2, h1, h2⟩ := z_post_g (pc := 2056) h
  exact ⟨f2, _, h1, h2, hR⟩
theorem zOp_2009 {f : Nat} {x1 : Int} {S : ZS} {X : ZX} (h : z_goes z_Q0 zC301 301 f 2009 [x1] S X) (hX : ∃ y, X.1.1 = (0, [y])) (hR : zQ S S) : ∃ f2 S2, f2 < f ∧ z_goes z_Q0 zC301 301 f2 2056 [x1] S2 X ∧ zQ S2 S2 := by
  have h := zL_2009 h
  obtain ⟨c0, h⟩ := z_post_b h hX
  have hR := zQ_rel.keep zK298 rfl c0 (by decide +kernel) hR
  obtain ⟨c1, h⟩ := z_post_b h hX
  have hR := zQ_rel.keep zK253 rfl c1 (by decide +kernel) hR
  obtain ⟨f2, h1, h2⟩ := z_post_g (pc := 2056) h
  exact ⟨f2, _, h1, h2, hR⟩
theorem zOp_2026 {f : Nat} {x1 : Int} {S : ZS} {X : ZX} (h : z_goes z_Q0 zC301 301 f 2026 [x1] S X) (hX : ∃ y, X.1.1 = (0, [y])) (hR : zQ S S) : ∃ f2 S2, f2 < f ∧ z_goes z_Q0 zC301 301 f2 2056 [x1] S2 X ∧ zQ S2 S2 := by
  have h := zL_2026 h
  obtain ⟨c0, h⟩ := z_post_b h hX
  have hR := zQ_rel.keep zK299 rfl c0 (by decide +kernel) hR
  obtain ⟨c1, h⟩ := z_post_b h hX
  have hR := zQ_rel.keep zK254 rfl c1 (by decide +kernel) hR
  obtain ⟨f2, h1, h2⟩ := z_post_g (pc := 2056) h
  exact ⟨f2, _, h1, h2, hR⟩
theorem zOp_2043 {f : Nat} {x1 : Int} {S : ZS} {X : ZX} (h : z_goes z_Q0 zC301 301 f 2043 [x1] S X) (hX : ∃ y, X.1.1 = (0, [y])) (hR : zQ S S) : ∃ f2 S2, f2 < f ∧ z_goes z_Q0 zC301 301 f2 2056 [x1] S2 X ∧ zQ S2 S2 := by
  have h := zL_2043 h
  obtain ⟨c0, h⟩ := z_post_b h hX
  have hR := zQ_rel.keep zK137 rfl c0 (by decide +kernel) hR
  obtain ⟨c1, h⟩ := z_post_b h hX
  have hR := zQ_rel.keep zK255 rfl c1 (by decide +kernel) hR
  obtain ⟨f2, h1, h2⟩ := z_post_g (pc := 2056) h
  exact ⟨f2, _, h1, h2, hR⟩
theorem z_law : ∀ (f : Nat) (i : Int) (S : ZS) (X : ZX), (∃ y, X.1.1 = (0, [y])) → zQ S S → z_goes z_Q0 zC301 301 f 28 [i] S X → X.1.1 = (0, [1]) := by
  intro f
  induction f using Nat.strongRecOn with
  | ind f ih =>
    intro i S X hX hR hg
    have h := zL_28 hg
    rw [zb_d] at h
    split at h
    · exact congrArg Prod.fst (z_post_r (by decide) h)
    · obtain ⟨f1, h1, h2⟩ := z_post_g h
      have key : ∃ f2 S2, f2 < f ∧ z_goes z_Q0 zC301 301 f2 2056 [i] S2 X ∧ zQ S2 S2 := by
        generalize e_and (S r_script 0 0 i) 63 = q at h2
        rcases (e_sw_in : e_sw q 0 [(252, 0), (306, 0), (334, 0), (374, 0), (414, 0), (494, 0), (534, 0), (562, 0), (590, 0), (632, 0), (712, 0), (740, 0), (768, 0), (796, 0), (824, 0), (852, 0), (908, 0), (962, 0), (1026, 0), (1078, 0), (1130, 0), (1158, 0), (1200, 0), (1228, 0), (1268, 0), (1296, 0), (1309, 0), (1337, 0), (1377, 0), (1405, 0), (1433, 0), (1473, 0), (1501, 0), (1541, 0), (1581, 0), (1623, 0), (1675, 0), (1703, 0), (1716, 0), (1756, 0), (1784, 0), (1812, 0), (1888, 0), (1940, 0), (1996, 0), (2009, 0), (2026, 0), (2043, 0)] 2056 = _ ∨ _) with e | ⟨t, ht, e⟩
        · rw [e] at h2
          exact ⟨f1, S, h1, h2, hR⟩
        · rw [e] at h2
          simp only [List.mem_cons, List.not_mem_nil, or_false] at ht
          rcases ht with rfl | rfl | rfl | rfl | rfl | rfl | rfl | rfl | rfl | rfl | rfl | rfl | rfl | rfl | rfl | rfl | rfl | rfl | rfl | rfl | rfl | rfl | rfl | rfl | rfl | rfl | rfl | rfl | rfl | rfl | rfl | rfl | rfl | rfl | rfl | rfl | rfl | rfl | rfl | rfl | rfl | rfl | rfl | rfl | rfl | rfl | rfl | rfl
          · obtain ⟨f2, S2, k1, k2, k3⟩ := zOp_252 h2 hX hR
            exact ⟨f2, S2, Nat.lt_trans k1 h1, k2, k3⟩
          · obtain ⟨f2, S2, k1, k2, k3⟩ := zOp_306 h2 hX hR
            exact ⟨f2, S2, Nat.lt_trans k1 h1, k2, k3⟩
          · obtain ⟨f2, S2, k1, k2, k3⟩ := zOp_334 h2 hX hR
            exact ⟨f2, S2, Nat.lt_trans k1 h1, k2, k3⟩
          · obtain ⟨f2, S2, k1, k2, k3⟩ := zOp_374 h2 hX hR
            exact ⟨f2, S2, Nat.lt_trans k1 h1, k2, k3⟩
          · obtain ⟨f2, S2, k1, k2, k3⟩ := zOp_414 h2 hX hR
            exact ⟨f2, S2, Nat.lt_trans k1 h1, k2, k3⟩
          · obtain ⟨f2, S2, k1, k2, k3⟩ := zOp_494 h2 hX hR
            exact ⟨f2, S2, Nat.lt_trans k1 h1, k2, k3⟩
          · obtain ⟨f2, S2, k1, k2, k3⟩ := zOp_534 h2 hX hR
            exact ⟨f2, S2, Nat.lt_trans k1 h1, k2, k3⟩
          · obtain ⟨f2, S2, k1, k2, k3⟩ := zOp_562 h2 hX hR
            exact ⟨f2, S2, Nat.lt_trans k1 h1, k2, k3⟩
          · obtain ⟨f2, S2, k1, k2, k3⟩ := zOp_590 h2 hX hR
            exact ⟨f2, S2, Nat.lt_trans k1 h1, k2, k3⟩
          · obtain ⟨f2, S2, k1, k2, k3⟩ := zOp_632 h2 hX hR
            exact ⟨f2, S2, Nat.lt_trans k1 h1, k2, k3⟩
          · obtain ⟨f2, S2, k1, k2, k3⟩ := zOp_712 h2 hX hR
            exact ⟨f2, S2, Nat.lt_trans k1 h1, k2, k3⟩
          · obtain ⟨f2, S2, k1, k2, k3⟩ := zOp_740 h2 hX hR
            exact ⟨f2, S2, Nat.lt_trans k1 h1, k2, k3⟩
          · obtain ⟨f2, S2, k1, k2, k3⟩ := zOp_768 h2 hX hR
            exact ⟨f2, S2, Nat.lt_trans k1 h1, k2, k3⟩
          · obtain ⟨f2, S2, k1, k2, k3⟩ := zOp_796 h2 hX hR
            exact ⟨f2, S2, Nat.lt_trans k1 h1, k2, k3⟩
          · obtain ⟨f2, S2, k1, k2, k3⟩ := zOp_824 h2 hX hR
            exact ⟨f2, S2, Nat.lt_trans k1 h1, k2, k3⟩
          · obtain ⟨f2, S2, k1, k2, k3⟩ := zOp_852 h2 hX hR
            exact ⟨f2, S2, Nat.lt_trans k1 h1, k2, k3⟩
          · obtain ⟨f2, S2, k1, k2, k3⟩ := zOp_908 h2 hX hR
            exact ⟨f2, S2, Nat.lt_trans k1 h1, k2, k3⟩
          · obtain ⟨f2, S2, k1, k2, k3⟩ := zOp_962 h2 hX hR
            exact ⟨f2, S2, Nat.lt_trans k1 h1, k2, k3⟩
          · obtain ⟨f2, S2, k1, k2, k3⟩ := zOp_1026 h2 hX hR
            exact ⟨f2, S2, Nat.lt_trans k1 h1, k2, k3⟩
          · obtain ⟨f2, S2, k1, k2, k3⟩ := zOp_1078 h2 hX hR
            exact ⟨f2, S2, Nat.lt_trans k1 h1, k2, k3⟩
          · obtain ⟨f2, S2, k1, k2, k3⟩ := zOp_1130 h2 hX hR
            exact ⟨f2, S2, Nat.lt_trans k1 h1, k2, k3⟩
          · obtain ⟨f2, S2, k1, k2, k3⟩ := zOp_1158 h2 hX hR
            exact ⟨f2, S2, Nat.lt_trans k1 h1, k2, k3⟩
          · obtain ⟨f2, S2, k1, k2, k3⟩ := zOp_1200 h2 hX hR
            exact ⟨f2, S2, Nat.lt_trans k1 h1, k2, k3⟩
          · obtain ⟨f2, S2, k1, k2, k3⟩ := zOp_1228 h2 hX hR
            exact ⟨f2, S2, Nat.lt_trans k1 h1, k2, k3⟩
          · obtain ⟨f2, S2, k1, k2, k3⟩ := zOp_1268 h2 hX hR
            exact ⟨f2, S2, Nat.lt_trans k1 h1, k2, k3⟩
          · obtain ⟨f2, S2, k1, k2, k3⟩ := zOp_1296 h2 hX hR
            exact ⟨f2, S2, Nat.lt_trans k1 h1, k2, k3⟩
          · obtain ⟨f2, S2, k1, k2, k3⟩ := zOp_1309 h2 hX hR
            exact ⟨f2, S2, Nat.lt_trans k1 h1, k2, k3⟩
          · obtain ⟨f2, S2, k1, k2, k3⟩ := zOp_1337 h2 hX hR
            exact ⟨f2, S2, Nat.lt_trans k1 h1, k2, k3⟩
          · obtain ⟨f2, S2, k1, k2, k3⟩ := zOp_1377 h2 hX hR
            exact ⟨f2, S2, Nat.lt_trans k1 h1, k2, k3⟩
          · obtain ⟨f2, S2, k1, k2, k3⟩ := zOp_1405 h2 hX hR
            exact ⟨f2, S2, Nat.lt_trans k1 h1, k2, k3⟩
          · obtain ⟨f2, S2, k1, k2, k3⟩ := zOp_1433 h2 hX hR
            exact ⟨f2, S2, Nat.lt_trans k1 h1, k2, k3⟩
          · obtain ⟨f2, S2, k1, k2, k3⟩ := zOp_1473 h2 hX hR
            exact ⟨f2, S2, Nat.lt_trans k1 h1, k2, k3⟩
          · obtain ⟨f2, S2, k1, k2, k3⟩ := zOp_1501 h2 hX hR
            exact ⟨f2, S2, Nat.lt_trans k1 h1, k2, k3⟩
          · obtain ⟨f2, S2, k1, k2, k3⟩ := zOp_1541 h2 hX hR
            exact ⟨f2, S2, Nat.lt_trans k1 h1, k2, k3⟩
          · obtain ⟨f2, S2, k1, k2, k3⟩ := zOp_1581 h2 hX hR
            exact ⟨f2, S2, Nat.lt_trans k1 h1, k2, k3⟩
          · obtain ⟨f2, S2, k1, k2, k3⟩ := zOp_1623 h2 hX hR
            exact ⟨f2, S2, Nat.lt_trans k1 h1, k2, k3⟩
          · obtain ⟨f2, S2, k1, k2, k3⟩ := zOp_1675 h2 hX hR
            exact ⟨f2, S2, Nat.lt_trans k1 h1, k2, k3⟩
          · obtain ⟨f2, S2, k1, k2, k3⟩ := zOp_1703 h2 hX hR
            exact ⟨f2, S2, Nat.lt_trans k1 h1, k2, k3⟩
          · obtain ⟨f2, S2, k1, k2, k3⟩ := zOp_1716 h2 hX hR
            exact ⟨f2, S2, Nat.lt_trans k1 h1, k2, k3⟩
          · obtain ⟨f2, S2, k1, k2, k3⟩ := zOp_1756 h2 hX hR
            exact ⟨f2, S2, Nat.lt_trans k1 h1, k2, k3⟩
          · obtain ⟨f2, S2, k1, k2, k3⟩ := zOp_1784 h2 hX hR
            exact ⟨f2, S2, Nat.lt_trans k1 h1, k2, k3⟩
          · obtain ⟨f2, S2, k1, k2, k3⟩ := zOp_1812 h2 hX hR
            exact ⟨f2, S2, Nat.lt_trans k1 h1, k2, k3⟩
          · obtain ⟨f2, S2, k1, k2, k3⟩ := zOp_1888 h2 hX hR
            exact ⟨f2, S2, Nat.lt_trans k1 h1, k2, k3⟩
          · obtain ⟨f2, S2, k1, k2, k3⟩ := zOp_1940 h2 hX hR
            exact ⟨f2, S2, Nat.lt_trans k1 h1, k2, k3⟩
          · obtain ⟨f2, S2, k1, k2, k3⟩ := zOp_1996 h2 hX hR
            exact ⟨f2, S2, Nat.lt_trans k1 h1, k2, k3⟩
          · obtain ⟨f2, S2, k1, k2, k3⟩ := zOp_2009 h2 hX hR
            exact ⟨f2, S2, Nat.lt_trans k1 h1, k2, k3⟩
          · obtain ⟨f2, S2, k1, k2, k3⟩ := zOp_2026 h2 hX hR
            exact ⟨f2, S2, Nat.lt_trans k1 h1, k2, k3⟩
          · obtain ⟨f2, S2, k1, k2, k3⟩ := zOp_2043 h2 hX hR
            exact ⟨f2, S2, Nat.lt_trans k1 h1, k2, k3⟩
      obtain ⟨f2, S2, k1, k2, k3⟩ := key
      obtain ⟨f3, k4, k5⟩ := z_post_g (pc := 28) (zL_2056 k2)
      exact ih f3 (Nat.lt_trans k4 k1) _ S2 X hX k3 k5
