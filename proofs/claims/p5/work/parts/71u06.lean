/-! The law, turn by turn: its operations, by program (wip/s/lawgen.py) -/
theorem e_lcmp_self {x : Int} : e_lcmp x x = 0 := by
  unfold e_lcmp
  rw [if_neg (by omega), if_pos rfl]
theorem zOp_252 {f : Nat} {x1 : Int} {S : ZS} {X : ZX} (h : z_goes z_Q0 zC301 301 f 252 [x1] S X) (hX : ∃ y, X.1.1 = (0, [y])) (hR : zQ S S) : ∃ f2 S2, f2 < f ∧ z_goes z_Q0 zC301 301 f2 2063 [x1] S2 X ∧ zQ S2 S2 := by
  have h := zL_252 h
  obtain ⟨k, v, S1, S2, e1, e2, hR2, ht, ho⟩ := zQ_rel.two (L := [(e_i2c (S r_script 0 0 (e_wr (x1 + 1)))), (S r_script 0 0 (e_wr (x1 + 2))), (S r_script 0 0 (e_wr (x1 + 3)))]) zK256 zK168 rfl rfl hR (by decide +kernel) (by decide +kernel) (fun c m h => o_film h)
  have hs : S1 r_script = S r_script := by
    have := zK256.r (L := [(e_i2c (S r_script 0 0 (e_wr (x1 + 1)))), (S r_script 0 0 (e_wr (x1 + 2))), (S r_script 0 0 (e_wr (x1 + 3)))]) rfl (S := S) (by rw [e1]) (r := r_script) (by decide +kernel)
    rw [e1] at this
    exact this
  rw [e1, e_bnd, hs, e2, e_bnd] at h
  obtain ⟨f2, h1, h2⟩ := z_post_g (pc := 2063) h
  exact ⟨f2, _, h1, h2, hR2⟩
theorem zOp_306 {f : Nat} {x1 : Int} {S : ZS} {X : ZX} (h : z_goes z_Q0 zC301 301 f 306 [x1] S X) (hX : ∃ y, X.1.1 = (0, [y])) (hR : zQ S S) : ∃ f2 S2, f2 < f ∧ z_goes z_Q0 zC301 301 f2 2063 [x1] S2 X ∧ zQ S2 S2 := by
  have h := zL_306 h
  obtain ⟨k, v, S1, S2, e1, e2, hR2, ht, ho⟩ := zQ_rel.two (L := [(S r_script 0 0 (e_wr (x1 + 1)))]) zK257 zK169 rfl rfl hR (by decide +kernel) (by decide +kernel) (fun c m h => o_reader h)
  have hs : S1 r_script = S r_script := by
    have := zK257.r (L := [(S r_script 0 0 (e_wr (x1 + 1)))]) rfl (S := S) (by rw [e1]) (r := r_script) (by decide +kernel)
    rw [e1] at this
    exact this
  rw [e1, e_bnd, hs, e2, e_bnd] at h
  obtain ⟨f2, h1, h2⟩ := z_post_g (pc := 2063) h
  exact ⟨f2, _, h1, h2, hR2⟩
theorem zOp_334 {f : Nat} {x1 : Int} {S : ZS} {X : ZX} (h : z_goes z_Q0 zC301 301 f 334 [x1] S X) (hX : ∃ y, X.1.1 = (0, [y])) (hR : zQ S S) : ∃ f2 S2, f2 < f ∧ z_goes z_Q0 zC301 301 f2 2063 [x1] S2 X ∧ zQ S2 S2 := by
  have h := zL_334 h
  obtain ⟨k, v, S1, S2, e1, e2, hR2, ht, ho⟩ := zQ_rel.two (L := [(S r_script 0 0 (e_wr (x1 + 1))), (S r_script 0 0 (e_wr (x1 + 2)))]) zK258 zK171 rfl rfl hR (by decide +kernel) (by decide +kernel) (fun c m h => o_deal h)
  have hs : S1 r_script = S r_script := by
    have := zK258.r (L := [(S r_script 0 0 (e_wr (x1 + 1))), (S r_script 0 0 (e_wr (x1 + 2)))]) rfl (S := S) (by rw [e1]) (r := r_script) (by decide +kernel)
    rw [e1] at this
    exact this
  rw [e1, e_bnd, hs, e2, e_bnd] at h
  obtain ⟨f2, h1, h2⟩ := z_post_g (pc := 2063) h
  exact ⟨f2, _, h1, h2, hR2⟩
theorem zOp_374 {f : Nat} {x1 : Int} {S : ZS} {X : ZX} (h : z_goes z_Q0 zC301 301 f 374 [x1] S X) (hX : ∃ y, X.1.1 = (0, [y])) (hR : zQ S S) : ∃ f2 S2, f2 < f ∧ z_goes z_Q0 zC301 301 f2 2063 [x1] S2 X ∧ zQ S2 S2 := by
  have h := zL_374 h
  obtain ⟨k, v, S1, S2, e1, e2, hR2, ht, ho⟩ := zQ_rel.two (L := [(S r_script 0 0 (e_wr (x1 + 1))), (S r_script 0 0 (e_wr (x1 + 2)))]) zK259 zK173 rfl rfl hR (by decide +kernel) (by decide +kernel) (fun c m h => o_isDealt h)
  have hs : S1 r_script = S r_script := by
    have := zK259.r (L := [(S r_script 0 0 (e_wr (x1 + 1))), (S r_script 0 0 (e_wr (x1 + 2)))]) rfl (S := S) (by rw [e1]) (r := r_script) (by decide +kernel)
    rw [e1] at this
    exact this
  rw [e1, e_bnd, hs, e2, e_bnd] at h
  rw [show v_m_thrown S2 = k from ht] at h
  simp only [zb_d, zb_n, ↓reduceIte] at h
  by_cases hk : k = 0
  · rw [if_pos hk, ho hk] at h
    rcases b_isDealt e2 with rfl | rfl
    · simp only [↓reduceIte, Int.reduceEq, e_lcmp_self] at h
      obtain ⟨f2, h1, h2⟩ := z_post_g (pc := 2063) h
      exact ⟨f2, _, h1, h2, hR2⟩
    · simp only [↓reduceIte, Int.reduceEq, e_lcmp_self] at h
      obtain ⟨f2, h1, h2⟩ := z_post_g (pc := 2063) h
      exact ⟨f2, _, h1, h2, hR2⟩
  · rw [if_neg hk] at h
    obtain ⟨f2, h1, h2⟩ := z_post_g (pc := 2063) h
    exact ⟨f2, _, h1, h2, hR2⟩
theorem zOp_449 {f : Nat} {x1 : Int} {S : ZS} {X : ZX} (h : z_goes z_Q0 zC301 301 f 449 [x1] S X) (hX : ∃ y, X.1.1 = (0, [y])) (hR : zQ S S) : ∃ f2 S2, f2 < f ∧ z_goes z_Q0 zC301 301 f2 2063 [x1] S2 X ∧ zQ S2 S2 := by
  have h := zL_449 h
  obtain ⟨k, v, S1, S2, e1, e2, hR2, ht, ho⟩ := zQ_rel.two (L := [(S r_script 0 0 (e_wr (x1 + 1))), (S r_script 0 0 (e_wr (x1 + 2))), (S r_script 0 0 (e_wr (x1 + 3)))]) zK260 zK175 rfl rfl hR (by decide +kernel) (by decide +kernel) (fun c m h => o_read h)
  have hs : S1 r_script = S r_script := by
    have := zK260.r (L := [(S r_script 0 0 (e_wr (x1 + 1))), (S r_script 0 0 (e_wr (x1 + 2))), (S r_script 0 0 (e_wr (x1 + 3)))]) rfl (S := S) (by rw [e1]) (r := r_script) (by decide +kernel)
    rw [e1] at this
    exact this
  rw [e1, e_bnd, hs, e2, e_bnd] at h
  obtain ⟨f2, h1, h2⟩ := z_post_g (pc := 2063) h
  exact ⟨f2, _, h1, h2, hR2⟩
theorem zOp_501 {f : Nat} {x1 : Int} {S : ZS} {X : ZX} (h : z_goes z_Q0 zC301 301 f 501 [x1] S X) (hX : ∃ y, X.1.1 = (0, [y])) (hR : zQ S S) : ∃ f2 S2, f2 < f ∧ z_goes z_Q0 zC301 301 f2 2063 [x1] S2 X ∧ zQ S2 S2 := by
  have h := zL_501 h
  obtain ⟨c0, h⟩ := z_post_b h hX
  have hR := zQ_rel.keep zK261 rfl c0 (by decide +kernel) hR
  obtain ⟨c1, h⟩ := z_post_b h hX
  have hR := zQ_rel.keep zK177 rfl c1 (by decide +kernel) hR
  obtain ⟨f2, h1, h2⟩ := z_post_g (pc := 2063) h
  exact ⟨f2, _, h1, h2, hR⟩
theorem zOp_541 {f : Nat} {x1 : Int} {S : ZS} {X : ZX} (h : z_goes z_Q0 zC301 301 f 541 [x1] S X) (hX : ∃ y, X.1.1 = (0, [y])) (hR : zQ S S) : ∃ f2 S2, f2 < f ∧ z_goes z_Q0 zC301 301 f2 2063 [x1] S2 X ∧ zQ S2 S2 := by
  have h := zL_541 h
  obtain ⟨c0, h⟩ := z_post_b h hX
  have hR := zQ_rel.keep zK262 rfl c0 (by decide +kernel) hR
  obtain ⟨c1, h⟩ := z_post_b h hX
  have hR := zQ_rel.keep zK179 rfl c1 (by decide +kernel) hR
  obtain ⟨f2, h1, h2⟩ := z_post_g (pc := 2063) h
  exact ⟨f2, _, h1, h2, hR⟩
theorem zOp_569 {f : Nat} {x1 : Int} {S : ZS} {X : ZX} (h : z_goes z_Q0 zC301 301 f 569 [x1] S X) (hX : ∃ y, X.1.1 = (0, [y])) (hR : zQ S S) : ∃ f2 S2, f2 < f ∧ z_goes z_Q0 zC301 301 f2 2063 [x1] S2 X ∧ zQ S2 S2 := by
  have h := zL_569 h
  obtain ⟨c0, h⟩ := z_post_b h hX
  have hR := zQ_rel.keep zK263 rfl c0 (by decide +kernel) hR
  obtain ⟨c1, h⟩ := z_post_b h hX
  have hR := zQ_rel.keep zK181 rfl c1 (by decide +kernel) hR
  obtain ⟨f2, h1, h2⟩ := z_post_g (pc := 2063) h
  exact ⟨f2, _, h1, h2, hR⟩
theorem zOp_597 {f : Nat} {x1 : Int} {S : ZS} {X : ZX} (h : z_goes z_Q0 zC301 301 f 597 [x1] S X) (hX : ∃ y, X.1.1 = (0, [y])) (hR : zQ S S) : ∃ f2 S2, f2 < f ∧ z_goes z_Q0 zC301 301 f2 2063 [x1] S2 X ∧ zQ S2 S2 := by
  have h := zL_597 h
  obtain ⟨c0, h⟩ := z_post_b h hX
  have hR := zQ_rel.keep zK264 rfl c0 (by decide +kernel) hR
  obtain ⟨c1, h⟩ := z_post_b h hX
  have hR := zQ_rel.keep zK184 rfl c1 (by decide +kernel) hR
  obtain ⟨f2, h1, h2⟩ := z_post_g (pc := 2063) h
  exact ⟨f2, _, h1, h2, hR⟩
theorem zOp_639 {f : Nat} {x1 : Int} {S : ZS} {X : ZX} (h : z_goes z_Q0 zC301 301 f 639 [x1] S X) (hX : ∃ y, X.1.1 = (0, [y])) (hR : zQ S S) : ∃ f2 S2, f2 < f ∧ z_goes z_Q0 zC301 301 f2 2063 [x1] S2 X ∧ zQ S2 S2 := by
  have h := zL_639 h
  obtain ⟨c0, h⟩ := z_post_b h hX
  have hR := zQ_rel.keep zK265 rfl c0 (by decide +kernel) hR
  obtain ⟨c1, h⟩ := z_post_b h hX
  have hR := zQ_rel.keep zK185 rfl c1 (by decide +kernel) hR
  obtain ⟨f2, h1, h2⟩ := z_post_g (pc := 2063) h
  exact ⟨f2, _, h1, h2, hR⟩
theorem zOp_719 {f : Nat} {x1 : Int} {S : ZS} {X : ZX} (h : z_goes z_Q0 zC301 301 f 719 [x1] S X) (hX : ∃ y, X.1.1 = (0, [y])) (hR : zQ S S) : ∃ f2 S2, f2 < f ∧ z_goes z_Q0 zC301 301 f2 2063 [x1] S2 X ∧ zQ S2 S2 := by
  have h := zL_719 h
  obtain ⟨c0, h⟩ := z_post_b h hX
  have hR := zQ_rel.keep zK266 rfl c0 (by decide +kernel) hR
  obtain ⟨c1, h⟩ := z_post_b h hX
  have hR := zQ_rel.keep zK190 rfl c1 (by decide +kernel) hR
  obtain ⟨f2, h1, h2⟩ := z_post_g (pc := 2063) h
  exact ⟨f2, _, h1, h2, hR⟩
theorem zOp_747 {f : Nat} {x1 : Int} {S : ZS} {X : ZX} (h : z_goes z_Q0 zC301 301 f 747 [x1] S X) (hX : ∃ y, X.1.1 = (0, [y])) (hR : zQ S S) : ∃ f2 S2, f2 < f ∧ z_goes z_Q0 zC301 301 f2 2063 [x1] S2 X ∧ zQ S2 S2 := by
  have h := zL_747 h
  obtain ⟨c0, h⟩ := z_post_b h hX
  have hR := zQ_rel.keep zK267 rfl c0 (by decide +kernel) hR
  obtain ⟨c1, h⟩ := z_post_b h hX
  have hR := zQ_rel.keep zK191 rfl c1 (by decide +kernel) hR
  obtain ⟨f2, h1, h2⟩ := z_post_g (pc := 2063) h
  exact ⟨f2, _, h1, h2, hR⟩
theorem zOp_775 {f : Nat} {x1 : Int} {S : ZS} {X : ZX} (h : z_goes z_Q0 zC301 301 f 775 [x1] S X) (hX : ∃ y, X.1.1 = (0, [y])) (hR : zQ S S) : ∃ f2 S2, f2 < f ∧ z_goes z_Q0 zC301 301 f2 2063 [x1] S2 X ∧ zQ S2 S2 := by
  have h := zL_775 h
  obtain ⟨c0, h⟩ := z_post_b h hX
  have hR := zQ_rel.keep zK268 rfl c0 (by decide +kernel) hR
  obtain ⟨c1, h⟩ := z_post_b h hX
  have hR := zQ_rel.keep zK192 rfl c1 (by decide +kernel) hR
  obtain ⟨f2, h1, h2⟩ := z_post_g (pc := 2063) h
  exact ⟨f2, _, h1, h2, hR⟩
theorem zOp_803 {f : Nat} {x1 : Int} {S : ZS} {X : ZX} (h : z_goes z_Q0 zC301 301 f 803 [x1] S X) (hX : ∃ y, X.1.1 = (0, [y])) (hR : zQ S S) : ∃ f2 S2, f2 < f ∧ z_goes z_Q0 zC301 301 f2 2063 [x1] S2 X ∧ zQ S2 S2 := by
  have h := zL_803 h
  obtain ⟨c0, h⟩ := z_post_b h hX
  have hR := zQ_rel.keep zK269 rfl c0 (by decide +kernel) hR
  obtain ⟨c1, h⟩ := z_post_b h hX
  have hR := zQ_rel.keep zK193 rfl c1 (by decide +kernel) hR
  obtain ⟨f2, h1, h2⟩ := z_post_g (pc := 2063) h
  exact ⟨f2, _, h1, h2, hR⟩
theorem zOp_831 {f : Nat} {x1 : Int} {S : ZS} {X : ZX} (h : z_goes z_Q0 zC301 301 f 831 [x1] S X) (hX : ∃ y, X.1.1 = (0, [y])) (hR : zQ S S) : ∃ f2 S2, f2 < f ∧ z_goes z_Q0 zC301 301 f2 2063 [x1] S2 X ∧ zQ S2 S2 := by
  have h := zL_831 h
  obtain ⟨c0, h⟩ := z_post_b h hX
  have hR := zQ_rel.keep zK270 rfl c0 (by decide +kernel) hR
  obtain ⟨c1, h⟩ := z_post_b h hX
  have hR := zQ_rel.keep zK194 rfl c1 (by decide +kernel) hR
  obtain ⟨f2, h1, h2⟩ := z_post_g (pc := 2063) h
  exact ⟨f2, _, h1, h2, hR⟩
theorem zOp_859 {f : Nat} {x1 : Int} {S : ZS} {X : ZX} (h : z_goes z_Q0 zC301 301 f 859 [x1] S X) (hX : ∃ y, X.1.1 = (0, [y])) (hR : zQ S S) : ∃ f2 S2, f2 < f ∧ z_goes z_Q0 zC301 301 f2 2063 [x1] S2 X ∧ zQ S2 S2 := by
  have h := zL_859 h
  rw [zb_d] at h
  split at h
  · obtain ⟨c0, h⟩ := z_post_b h hX
    have hR := zQ_rel.keep zK271 rfl c0 (by decide +kernel) hR
    rw [zb_d] at h
    split at h
    · obtain ⟨c1, h⟩ := z_post_b h hX
      have hR := zQ_rel.keep zK195 rfl c1 (by decide +kernel) hR
      obtain ⟨f2, h1, h2⟩ := z_post_g (pc := 2063) h
      exact ⟨f2, _, h1, h2, hR⟩
    · obtain ⟨c1, h⟩ := z_post_b h hX
      have hR := zQ_rel.keep zK195 rfl c1 (by decide +kernel) hR
      obtain ⟨f2, h1, h2⟩ := z_post_g (pc := 2063) h
      exact ⟨f2, _, h1, h2, hR⟩
  · obtain ⟨c0, h⟩ := z_post_b h hX
    have hR := zQ_rel.keep zK271 rfl c0 (by decide +kernel) hR
    rw [zb_d] at h
    split at h
    · obtain ⟨c1, h⟩ := z_post_b h hX
      have hR := zQ_rel.keep zK195 rfl c1 (by decide +kernel) hR
      obtain ⟨f2, h1, h2⟩ := z_post_g (pc := 2063) h
      exact ⟨f2, _, h1, h2, hR⟩
    · obtain ⟨c1, h⟩ := z_post_b h hX
      have hR := zQ_rel.keep zK195 rfl c1 (by decide +kernel) hR
      obtain ⟨f2, h1, h2⟩ := z_post_g (pc := 2063) h
      exact ⟨f2, _, h1, h2, hR⟩
theorem zOp_915 {f : Nat} {x1 : Int} {S : ZS} {X : ZX} (h : z_goes z_Q0 zC301 301 f 915 [x1] S X) (hX : ∃ y, X.1.1 = (0, [y])) (hR : zQ S S) : ∃ f2 S2, f2 < f ∧ z_goes z_Q0 zC301 301 f2 2063 [x1] S2 X ∧ zQ S2 S2 := by
  have h := zL_915 h
  obtain ⟨c0, h⟩ := z_post_b h hX
  have hR := zQ_rel.keep zK272 rfl c0 (by decide +kernel) hR
  obtain ⟨c1, h⟩ := z_post_b h hX
  have hR := zQ_rel.keep zK198 rfl c1 (by decide +kernel) hR
  obtain ⟨f2, h1, h2⟩ := z_post_g (pc := 2063) h
  exact ⟨f2, _, h1, h2, hR⟩
theorem zOp_969 {f : Nat} {x1 : Int} {S : ZS} {X : ZX} (h : z_goes z_Q0 zC301 301 f 969 [x1] S X) (hX : ∃ y, X.1.1 = (0, [y])) (hR : zQ S S) : ∃ f2 S2, f2 < f ∧ z_goes z_Q0 zC301 301 f2 2063 [x1] S2 X ∧ zQ S2 S2 := by
  have h := zL_969 h
  obtain ⟨c0, h⟩ := z_post_b h hX
  have hR := zQ_rel.keep zK273 rfl c0 (by decide +kernel) hR
  obtain ⟨c1, h⟩ := z_post_b h hX
  have hR := zQ_rel.keep zK199 rfl c1 (by decide +kernel) hR
  obtain ⟨f2, h1, h2⟩ := z_post_g (pc := 2063) h
  exact ⟨f2, _, h1, h2, hR⟩
theorem zOp_1033 {f : Nat} {x1 : Int} {S : ZS} {X : ZX} (h : z_goes z_Q0 zC301 301 f 1033 [x1] S X) (hX : ∃ y, X.1.1 = (0, [y])) (hR : zQ S S) : ∃ f2 S2, f2 < f ∧ z_goes z_Q0 zC301 301 f2 2063 [x1] S2 X ∧ zQ S2 S2 := by
  have h := zL_1033 h
  obtain ⟨c0, h⟩ := z_post_b h hX
  have hR := zQ_rel.keep zK274 rfl c0 (by decide +kernel) hR
  obtain ⟨c1, h⟩ := z_post_b h hX
  have hR := zQ_rel.keep zK201 rfl c1 (by decide +kernel) hR
  obtain ⟨f2, h1, h2⟩ := z_post_g (pc := 2063) h
  exact ⟨f2, _, h1, h2, hR⟩
theorem zOp_1085 {f : Nat} {x1 : Int} {S : ZS} {X : ZX} (h : z_goes z_Q0 zC301 301 f 1085 [x1] S X) (hX : ∃ y, X.1.1 = (0, [y])) (hR : zQ S S) : ∃ f2 S2, f2 < f ∧ z_goes z_Q0 zC301 301 f2 2063 [x1] S2 X ∧ zQ S2 S2 := by
  have h := zL_1085 h
  obtain ⟨c0, h⟩ := z_post_b h hX
  have hR := zQ_rel.keep zK275 rfl c0 (by decide +kernel) hR
  obtain ⟨c1, h⟩ := z_post_b h hX
  have hR := zQ_rel.keep zK209 rfl c1 (by decide +kernel) hR
  obtain ⟨f2, h1, h2⟩ := z_post_g (pc := 2063) h
  exact ⟨f2, _, h1, h2, hR⟩
theorem zOp_1137 {f : Nat} {x1 : Int} {S : ZS} {X : ZX} (h : z_goes z_Q0 zC301 301 f 1137 [x1] S X) (hX : ∃ y, X.1.1 = (0, [y])) (hR : zQ S S) : ∃ f2 S2, f2 < f ∧ z_goes z_Q0 zC301 301 f2 2063 [x1] S2 X ∧ zQ S2 S2 := by
  have h := zL_1137 h
  obtain ⟨c0, h⟩ := z_post_b h hX
  have hR := zQ_rel.keep zK276 rfl c0 (by decide +kernel) hR
  obtain ⟨c1, h⟩ := z_post_b h hX
  have hR := zQ_rel.keep zK211 rfl c1 (by decide +kernel) hR
  obtain ⟨f2, h1, h2⟩ := z_post_g (pc := 2063) h
  exact ⟨f2, _, h1, h2, hR⟩
theorem zOp_1165 {f : Nat} {x1 : Int} {S : ZS} {X : ZX} (h : z_goes z_Q0 zC301 301 f 1165 [x1] S X) (hX : ∃ y, X.1.1 = (0, [y])) (hR : zQ S S) : ∃ f2 S2, f2 < f ∧ z_goes z_Q0 zC301 301 f2 2063 [x1] S2 X ∧ zQ S2 S2 := by
  have h := zL_1165 h
  obtain ⟨c0, h⟩ := z_post_b h hX
  have hR := zQ_rel.keep zK277 rfl c0 (by decide +kernel) hR
  obtain ⟨c1, h⟩ := z_post_b h hX
  have hR := zQ_rel.keep zK213 rfl c1 (by decide +kernel) hR
  obtain ⟨f2, h1, h2⟩ := z_post_g (pc := 2063) h
  exact ⟨f2, _, h1, h2, hR⟩
theorem zOp_1207 {f : Nat} {x1 : Int} {S : ZS} {X : ZX} (h : z_goes z_Q0 zC301 301 f 1207 [x1] S X) (hX : ∃ y, X.1.1 = (0, [y])) (hR : zQ S S) : ∃ f2 S2, f2 < f ∧ z_goes z_Q0 zC301 301 f2 2063 [x1] S2 X ∧ zQ S2 S2 := by
  have h := zL_1207 h
  obtain ⟨c0, h⟩ := z_post_b h hX
  have hR := zQ_rel.keep zK278 rfl c0 (by decide +kernel) hR
  obtain ⟨c1, h⟩ := z_post_b h hX
  have hR := zQ_rel.keep zK214 rfl c1 (by decide +kernel) hR
  obtain ⟨f2, h1, h2⟩ := z_post_g (pc := 2063) h
  exact ⟨f2, _, h1, h2, hR⟩
theorem zOp_1235 {f : Nat} {x1 : Int} {S : ZS} {X : ZX} (h : z_goes z_Q0 zC301 301 f 1235 [x1] S X) (hX : ∃ y, X.1.1 = (0, [y])) (hR : zQ S S) : ∃ f2 S2, f2 < f ∧ z_goes z_Q0 zC301 301 f2 2063 [x1] S2 X ∧ zQ S2 S2 := by
  have h := zL_1235 h
  obtain ⟨c0, h⟩ := z_post_b h hX
  have hR := zQ_rel.keep zK279 rfl c0 (by decide +kernel) hR
  obtain ⟨c1, h⟩ := z_post_b h hX
  have hR := zQ_rel.keep zK215 rfl c1 (by decide +kernel) hR
  obtain ⟨f2, h1, h2⟩ := z_post_g (pc := 2063) h
  exact ⟨f2, _, h1, h2, hR⟩
theorem zOp_1275 {f : Nat} {x1 : Int} {S : ZS} {X : ZX} (h : z_goes z_Q0 zC301 301 f 1275 [x1] S X) (hX : ∃ y, X.1.1 = (0, [y])) (hR : zQ S S) : ∃ f2 S2, f2 < f ∧ z_goes z_Q0 zC301 301 f2 2063 [x1] S2 X ∧ zQ S2 S2 := by
  have h := zL_1275 h
  obtain ⟨c0, h⟩ := z_post_b h hX
  have hR := zQ_rel.keep zK280 rfl c0 (by decide +kernel) hR
  obtain ⟨c1, h⟩ := z_post_b h hX
  have hR := zQ_rel.keep zK216 rfl c1 (by decide +kernel) hR
  obtain ⟨f2, h1, h2⟩ := z_post_g (pc := 2063) h
  exact ⟨f2, _, h1, h2, hR⟩
theorem zOp_1303 {f : Nat} {x1 : Int} {S : ZS} {X : ZX} (h : z_goes z_Q0 zC301 301 f 1303 [x1] S X) (hX : ∃ y, X.1.1 = (0, [y])) (hR : zQ S S) : ∃ f2 S2, f2 < f ∧ z_goes z_Q0 zC301 301 f2 2063 [x1] S2 X ∧ zQ S2 S2 := by
  have h := zL_1303 h
  obtain ⟨c0, h⟩ := z_post_b h hX
  have hR := zQ_rel.keep zK217 rfl c0 (by decide +kernel) hR
  obtain ⟨f2, h1, h2⟩ := z_post_g (pc := 2063) h
  exact ⟨f2, _, h1, h2, hR⟩
theorem zOp_1316 {f : Nat} {x1 : Int} {S : ZS} {X : ZX} (h : z_goes z_Q0 zC301 301 f 1316 [x1] S X) (hX : ∃ y, X.1.1 = (0, [y])) (hR : zQ S S) : ∃ f2 S2, f2 < f ∧ z_goes z_Q0 zC301 301 f2 2063 [x1] S2 X ∧ zQ S2 S2 := by
  have h := zL_1316 h
  obtain ⟨c0, h⟩ := z_post_b h hX
  have hR := zQ_rel.keep zK281 rfl c0 (by decide +kernel) hR
  obtain ⟨c1, h⟩ := z_post_b h hX
  have hR := zQ_rel.keep zK221 rfl c1 (by decide +kernel) hR
  obtain ⟨f2, h1, h2⟩ := z_post_g (pc := 2063) h
  exact ⟨f2, _, h1, h2, hR⟩
theorem zOp_1344 {f : Nat} {x1 : Int} {S : ZS} {X : ZX} (h : z_goes z_Q0 zC301 301 f 1344 [x1] S X) (hX : ∃ y, X.1.1 = (0, [y])) (hR : zQ S S) : ∃ f2 S2, f2 < f ∧ z_goes z_Q0 zC301 301 f2 2063 [x1] S2 X ∧ zQ S2 S2 := by
  have h := zL_1344 h
  obtain ⟨c0, h⟩ := z_post_b h hX
  have hR := zQ_rel.keep zK282 rfl c0 (by decide +kernel) hR
  obtain ⟨c1, h⟩ := z_post_b h hX
  have hR := zQ_rel.keep zK222 rfl c1 (by decide +kernel) hR
  obtain ⟨f2, h1, h2⟩ := z_post_g (pc := 2063) h
  exact ⟨f2, _, h1, h2, hR⟩
theorem zOp_1384 {f : Nat} {x1 : Int} {S : ZS} {X : ZX} (h : z_goes z_Q0 zC301 301 f 1384 [x1] S X) (hX : ∃ y, X.1.1 = (0, [y])) (hR : zQ S S) : ∃ f2 S2, f2 < f ∧ z_goes z_Q0 zC301 301 f2 2063 [x1] S2 X ∧ zQ S2 S2 := by
  have h := zL_1384 h
  obtain ⟨c0, h⟩ := z_post_b h hX
  have hR := zQ_rel.keep zK283 rfl c0 (by decide +kernel) hR
  obtain ⟨c1, h⟩ := z_post_b h hX
  have hR := zQ_rel.keep zK223 rfl c1 (by decide +kernel) hR
  obtain ⟨f2, h1, h2⟩ := z_post_g (pc := 2063) h
  exact ⟨f2, _, h1, h2, hR⟩
theorem zOp_1412 {f : Nat} {x1 : Int} {S : ZS} {X : ZX} (h : z_goes z_Q0 zC301 301 f 1412 [x1] S X) (hX : ∃ y, X.1.1 = (0, [y])) (hR : zQ S S) : ∃ f2 S2, f2 < f ∧ z_goes z_Q0 zC301 301 f2 2063 [x1] S2 X ∧ zQ S2 S2 := by
  have h := zL_1412 h
  obtain ⟨c0, h⟩ := z_post_b h hX
  have hR := zQ_rel.keep zK284 rfl c0 (by decide +kernel) hR
  obtain ⟨c1, h⟩ := z_post_b h hX
  have hR := zQ_rel.keep zK224 rfl c1 (by decide +kernel) hR
  obtain ⟨f2, h1, h2⟩ := z_post_g (pc := 2063) h
  exact ⟨f2, _, h1, h2, hR⟩
theorem zOp_1440 {f : Nat} {x1 : Int} {S : ZS} {X : ZX} (h : z_goes z_Q0 zC301 301 f 1440 [x1] S X) (hX : ∃ y, X.1.1 = (0, [y])) (hR : zQ S S) : ∃ f2 S2, f2 < f ∧ z_goes z_Q0 zC301 301 f2 2063 [x1] S2 X ∧ zQ S2 S2 := by
  have h := zL_1440 h
  obtain ⟨c0, h⟩ := z_post_b h hX
  have hR := zQ_rel.keep zK285 rfl c0 (by decide +kernel) hR
  obtain ⟨c1, h⟩ := z_post_b h hX
  have hR := zQ_rel.keep zK226 rfl c1 (by decide +kernel) hR
  obtain ⟨f2, h1, h2⟩ := z_post_g (pc := 2063) h
  exact ⟨f2, _, h1, h2, hR⟩
theorem zOp_1480 {f : Nat} {x1 : Int} {S : ZS} {X : ZX} (h : z_goes z_Q0 zC301 301 f 1480 [x1] S X) (hX : ∃ y, X.1.1 = (0, [y])) (hR : zQ S S) : ∃ f2 S2, f2 < f ∧ z_goes z_Q0 zC301 301 f2 2063 [x1] S2 X ∧ zQ S2 S2 := by
  have h := zL_1480 h
  obtain ⟨c0, h⟩ := z_post_b h hX
  have hR := zQ_rel.keep zK286 rfl c0 (by decide +kernel) hR
  obtain ⟨c1, h⟩ := z_post_b h hX
  have hR := zQ_rel.keep zK228 rfl c1 (by decide +kernel) hR
  obtain ⟨f2, h1, h2⟩ := z_post_g (pc := 2063) h
  exact ⟨f2, _, h1, h2, hR⟩
theorem zOp_1508 {f : Nat} {x1 : Int} {S : ZS} {X : ZX} (h : z_goes z_Q0 zC301 301 f 1508 [x1] S X) (hX : ∃ y, X.1.1 = (0, [y])) (hR : zQ S S) : ∃ f2 S2, f2 < f ∧ z_goes z_Q0 zC301 301 f2 2063 [x1] S2 X ∧ zQ S2 S2 := by
  have h := zL_1508 h
  obtain ⟨c0, h⟩ := z_post_b h hX
  have hR := zQ_rel.keep zK287 rfl c0 (by decide +kernel) hR
  obtain ⟨c1, h⟩ := z_post_b h hX
  have hR := zQ_rel.keep zK229 rfl c1 (by decide +kernel) hR
  obtain ⟨f2, h1, h2⟩ := z_post_g (pc := 2063) h
  exact ⟨f2, _, h1, h2, hR⟩
theorem zOp_1548 {f : Nat} {x1 : Int} {S : ZS} {X : ZX} (h : z_goes z_Q0 zC301 301 f 1548 [x1] S X) (hX : ∃ y, X.1.1 = (0, [y])) (hR : zQ S S) : ∃ f2 S2, f2 < f ∧ z_goes z_Q0 zC301 301 f2 2063 [x1] S2 X ∧ zQ S2 S2 := by
  have h := zL_1548 h
  obtain ⟨c0, h⟩ := z_post_b h hX
  have hR := zQ_rel.keep zK288 rfl c0 (by decide +kernel) hR
  obtain ⟨c1, h⟩ := z_post_b h hX
  have hR := zQ_rel.keep zK230 rfl c1 (by decide +kernel) hR
  obtain ⟨f2, h1, h2⟩ := z_post_g (pc := 2063) h
  exact ⟨f2, _, h1, h2, hR⟩
theorem zOp_1588 {f : Nat} {x1 : Int} {S : ZS} {X : ZX} (h : z_goes z_Q0 zC301 301 f 1588 [x1] S X) (hX : ∃ y, X.1.1 = (0, [y])) (hR : zQ S S) : ∃ f2 S2, f2 < f ∧ z_goes z_Q0 zC301 301 f2 2063 [x1] S2 X ∧ zQ S2 S2 := by
  have h := zL_1588 h
  obtain ⟨c0, h⟩ := z_post_b h hX
  have hR := zQ_rel.keep zK289 rfl c0 (by decide +kernel) hR
  obtain ⟨c1, h⟩ := z_post_b h hX
  have hR := zQ_rel.keep zK231 rfl c1 (by decide +kernel) hR
  obtain ⟨f2, h1, h2⟩ := z_post_g (pc := 2063) h
  exact ⟨f2, _, h1, h2, hR⟩
theorem zOp_1630 {f : Nat} {x1 : Int} {S : ZS} {X : ZX} (h : z_goes z_Q0 zC301 301 f 1630 [x1] S X) (hX : ∃ y, X.1.1 = (0, [y])) (hR : zQ S S) : ∃ f2 S2, f2 < f ∧ z_goes z_Q0 zC301 301 f2 2063 [x1] S2 X ∧ zQ S2 S2 := by
  have h := zL_1630 h
  obtain ⟨c0, h⟩ := z_post_b h hX
  have hR := zQ_rel.keep zK290 rfl c0 (by decide +kernel) hR
  obtain ⟨c1, h⟩ := z_post_b h hX
  have hR := zQ_rel.keep zK233 rfl c1 (by decide +kernel) hR
  obtain ⟨f2, h1, h2⟩ := z_post_g (pc := 2063) h
  exact ⟨f2, _, h1, h2, hR⟩
theorem zOp_1682 {f : Nat} {x1 : Int} {S : ZS} {X : ZX} (h : z_goes z_Q0 zC301 301 f 1682 [x1] S X) (hX : ∃ y, X.1.1 = (0, [y])) (hR : zQ S S) : ∃ f2 S2, f2 < f ∧ z_goes z_Q0 zC301 301 f2 2063 [x1] S2 X ∧ zQ S2 S2 := by
  have h := zL_1682 h
  obtain ⟨c0, h⟩ := z_post_b h hX
  have hR := zQ_rel.keep zK291 rfl c0 (by decide +kernel) hR
  obtain ⟨c1, h⟩ := z_post_b h hX
  have hR := zQ_rel.keep zK234 rfl c1 (by decide +kernel) hR
  obtain ⟨f2, h1, h2⟩ := z_post_g (pc := 2063) h
  exact ⟨f2, _, h1, h2, hR⟩
theorem zOp_1710 {f : Nat} {x1 : Int} {S : ZS} {X : ZX} (h : z_goes z_Q0 zC301 301 f 1710 [x1] S X) (hX : ∃ y, X.1.1 = (0, [y])) (hR : zQ S S) : ∃ f2 S2, f2 < f ∧ z_goes z_Q0 zC301 301 f2 2063 [x1] S2 X ∧ zQ S2 S2 := by
  have h := zL_1710 h
  obtain ⟨c0, h⟩ := z_post_b h hX
  have hR := zQ_rel.keep zK127 rfl c0 (by decide +kernel) hR
  obtain ⟨c1, h⟩ := z_post_b h hX
  have hR := zQ_rel.keep zK235 rfl c1 (by decide +kernel) hR
  obtain ⟨f2, h1, h2⟩ := z_post_g (pc := 2063) h
  exact ⟨f2, _, h1, h2, hR⟩
theorem zOp_1723 {f : Nat} {x1 : Int} {S : ZS} {X : ZX} (h : z_goes z_Q0 zC301 301 f 1723 [x1] S X) (hX : ∃ y, X.1.1 = (0, [y])) (hR : zQ S S) : ∃ f2 S2, f2 < f ∧ z_goes z_Q0 zC301 301 f2 2063 [x1] S2 X ∧ zQ S2 S2 := by
  have h := zL_1723 h
  obtain ⟨c0, h⟩ := z_post_b h hX
  have hR := zQ_rel.keep zK292 rfl c0 (by decide +kernel) hR
  obtain ⟨c1, h⟩ := z_post_b h hX
  have hR := zQ_rel.keep zK237 rfl c1 (by decide +kernel) hR
  obtain ⟨f2, h1, h2⟩ := z_post_g (pc := 2063) h
  exact ⟨f2, _, h1, h2, hR⟩
theorem zOp_1763 {f : Nat} {x1 : Int} {S : ZS} {X : ZX} (h : z_goes z_Q0 zC301 301 f 1763 [x1] S X) (hX : ∃ y, X.1.1 = (0, [y])) (hR : zQ S S) : ∃ f2 S2, f2 < f ∧ z_goes z_Q0 zC301 301 f2 2063 [x1] S2 X ∧ zQ S2 S2 := by
  have h := zL_1763 h
  obtain ⟨c0, h⟩ := z_post_b h hX
  have hR := zQ_rel.keep zK293 rfl c0 (by decide +kernel) hR
  obtain ⟨c1, h⟩ := z_post_b h hX
  have hR := zQ_rel.keep zK247 rfl c1 (by decide +kernel) hR
  obtain ⟨f2, h1, h2⟩ := z_post_g (pc := 2063) h
  exact ⟨f2, _, h1, h2, hR⟩
theorem zOp_1791 {f : Nat} {x1 : Int} {S : ZS} {X : ZX} (h : z_goes z_Q0 zC301 301 f 1791 [x1] S X) (hX : ∃ y, X.1.1 = (0, [y])) (hR : zQ S S) : ∃ f2 S2, f2 < f ∧ z_goes z_Q0 zC301 301 f2 2063 [x1] S2 X ∧ zQ S2 S2 := by
  have h := zL_1791 h
  obtain ⟨c0, h⟩ := z_post_b h hX
  have hR := zQ_rel.keep zK294 rfl c0 (by decide +kernel) hR
  obtain ⟨c1, h⟩ := z_post_b h hX
  have hR := zQ_rel.keep zK248 rfl c1 (by decide +kernel) hR
  obtain ⟨f2, h1, h2⟩ := z_post_g (pc := 2063) h
  exact ⟨f2, _, h1, h2, hR⟩
theorem zOp_1819 {f : Nat} {x1 : Int} {S : ZS} {X : ZX} (h : z_goes z_Q0 zC301 301 f 1819 [x1] S X) (hX : ∃ y, X.1.1 = (0, [y])) (hR : zQ S S) : ∃ f2 S2, f2 < f ∧ z_goes z_Q0 zC301 301 f2 2063 [x1] S2 X ∧ zQ S2 S2 := by
  have h := zL_1819 h
  obtain ⟨c0, h⟩ := z_post_b h hX
  have hR := zQ_rel.keep zK295 rfl c0 (by decide +kernel) hR
  obtain ⟨c1, h⟩ := z_post_b h hX
  have hR := zQ_rel.keep zK249 rfl c1 (by decide +kernel) hR
  obtain ⟨f2, h1, h2⟩ := z_post_g (pc := 2063) h
  exact ⟨f2, _, h1, h2, hR⟩
theorem zOp_1895 {f : Nat} {x1 : Int} {S : ZS} {X : ZX} (h : z_goes z_Q0 zC301 301 f 1895 [x1] S X) (hX : ∃ y, X.1.1 = (0, [y])) (hR : zQ S S) : ∃ f2 S2, f2 < f ∧ z_goes z_Q0 zC301 301 f2 2063 [x1] S2 X ∧ zQ S2 S2 := by
  have h := zL_1895 h
  obtain ⟨c0, h⟩ := z_post_b h hX
  have hR := zQ_rel.keep zK296 rfl c0 (by decide +kernel) hR
  obtain ⟨c1, h⟩ := z_post_b h hX
  have hR := zQ_rel.keep zK250 rfl c1 (by decide +kernel) hR
  obtain ⟨f2, h1, h2⟩ := z_post_g (pc := 2063) h
  exact ⟨f2, _, h1, h2, hR⟩
theorem zOp_1947 {f : Nat} {x1 : Int} {S : ZS} {X : ZX} (h : z_goes z_Q0 zC301 301 f 1947 [x1] S X) (hX : ∃ y, X.1.1 = (0, [y])) (hR : zQ S S) : ∃ f2 S2, f2 < f ∧ z_goes z_Q0 zC301 301 f2 2063 [x1] S2 X ∧ zQ S2 S2 := by
  have h := zL_1947 h
  rw [zb_d] at h
  split at h
  · obtain ⟨c0, h⟩ := z_post_b h hX
    have hR := zQ_rel.keep zK297 rfl c0 (by decide +kernel) hR
    rw [zb_d] at h
    split at h
    · obtain ⟨c1, h⟩ := z_post_b h hX
      have hR := zQ_rel.keep zK251 rfl c1 (by decide +kernel) hR
      obtain ⟨f2, h1, h2⟩ := z_post_g (pc := 2063) h
      exact ⟨f2, _, h1, h2, hR⟩
    · obtain ⟨c1, h⟩ := z_post_b h hX
      have hR := zQ_rel.keep zK251 rfl c1 (by decide +kernel) hR
      obtain ⟨f2, h1, h2⟩ := z_post_g (pc := 2063) h
      exact ⟨f2, _, h1, h2, hR⟩
  · obtain ⟨c0, h⟩ := z_post_b h hX
    have hR := zQ_rel.keep zK297 rfl c0 (by decide +kernel) hR
    rw [zb_d] at h
    split at h
    · obtain ⟨c1, h⟩ := z_post_b h hX
      have hR := zQ_rel.keep zK251 rfl c1 (by decide +kernel) hR
      obtain ⟨f2, h1, h2⟩ := z_post_g (pc := 2063) h
      exact ⟨f2, _, h1, h2, hR⟩
    · obtain ⟨c1, h⟩ := z_post_b h hX
      have hR := zQ_rel.keep zK251 rfl c1 (by decide +kernel) hR
      obtain ⟨f2, h1, h2⟩ := z_post_g (pc := 2063) h
      exact ⟨f2, _, h1, h2, hR⟩
theorem zOp_2003 {f : Nat} {x1 : Int} {S : ZS} {X : ZX} (h : z_goes z_Q0 zC301 301 f 2003 [x1] S X) (hX : ∃ y, X.1.1 = (0, [y])) (hR : zQ S S) : ∃ f2 S2, f2 < f ∧ z_goes z_Q0 zC301 301 f2 2063 [x1] S2 X ∧ zQ S2 S2 := by
  have h := zL_2003 h
  obtain ⟨c0, h⟩ := z_post_b h hX
  have hR := zQ_rel.keep zK134 rfl c0 (by decide +kernel) hR
  obtain ⟨c1, h⟩ := z_post_b h hX
  have hR := zQ_rel.keep zK252 rfl c1 (by decide +kernel) hR
  obtain ⟨f2, h1, h2⟩ := z_post_g (pc := 2063) h
  exact ⟨f2, _, h1, h2, hR⟩
theorem zOp_2016 {f : Nat} {x1 : Int} {S : ZS} {X : ZX} (h : z_goes z_Q0 zC301 301 f 2016 [x1] S X) (hX : ∃ y, X.1.1 = (0, [y])) (hR : zQ S S) : ∃ f2 S2, f2 < f ∧ z_goes z_Q0 zC301 301 f2 2063 [x1] S2 X ∧ zQ S2 S2 := by
  have h := zL_2016 h
  obtain ⟨c0, h⟩ := z_post_b h hX
  have hR := zQ_rel.keep zK298 rfl c0 (by decide +kernel) hR
  obtain ⟨c1, h⟩ := z_post_b h hX
  have hR := zQ_rel.keep zK253 rfl c1 (by decide +kernel) hR
  obtain ⟨f2, h1, h2⟩ := z_post_g (pc := 2063) h
  exact ⟨f2, _, h1, h2, hR⟩
theorem zOp_2033 {f : Nat} {x1 : Int} {S : ZS} {X : ZX} (h : z_goes z_Q0 zC301 301 f 2033 [x1] S X) (hX : ∃ y, X.1.1 = (0, [y])) (hR : zQ S S) : ∃ f2 S2, f2 < f ∧ z_goes z_Q0 zC301 301 f2 2063 [x1] S2 X ∧ zQ S2 S2 := by
  have h := zL_2033 h
  obtain ⟨c0, h⟩ := z_post_b h hX
  have hR := zQ_rel.keep zK299 rfl c0 (by decide +kernel) hR
  obtain ⟨c1, h⟩ := z_post_b h hX
  have hR := zQ_rel.keep zK254 rfl c1 (by decide +kernel) hR
  obtain ⟨f2, h1, h2⟩ := z_post_g (pc := 2063) h
  exact ⟨f2, _, h1, h2, hR⟩
theorem zOp_2050 {f : Nat} {x1 : Int} {S : ZS} {X : ZX} (h : z_goes z_Q0 zC301 301 f 2050 [x1] S X) (hX : ∃ y, X.1.1 = (0, [y])) (hR : zQ S S) : ∃ f2 S2, f2 < f ∧ z_goes z_Q0 zC301 301 f2 2063 [x1] S2 X ∧ zQ S2 S2 := by
  have h := zL_2050 h
  obtain ⟨c0, h⟩ := z_post_b h hX
  have hR := zQ_rel.keep zK137 rfl c0 (by decide +kernel) hR
  obtain ⟨c1, h⟩ := z_post_b h hX
  have hR := zQ_rel.keep zK255 rfl c1 (by decide +kernel) hR
  obtain ⟨f2, h1, h2⟩ := z_post_g (pc := 2063) h
  exact ⟨f2, _, h1, h2, hR⟩
theorem z_law : ∀ (f : Nat) (i : Int) (S : ZS) (X : ZX), (∃ y, X.1.1 = (0, [y])) → zQ S S → z_goes z_Q0 zC301 301 f 28 [i] S X → X.1.1 = (0, [1]) := by
  intro f
  induction f using Nat.strongRecOn with
  | ind f ih =>
    intro i S X hX hR hg
    have h := zL_28 hg
    rw [zb_d] at h
    split at h
    · exact congrArg Prod.fst (z_post_r (by decide) h)
    · obtain ⟨f1, h1, h2⟩ := z_post_g h
      have key : ∃ f2 S2, f2 < f ∧ z_goes z_Q0 zC301 301 f2 2063 [i] S2 X ∧ zQ S2 S2 := by
        generalize e_and (S r_script 0 0 i) 63 = q at h2
        rcases (e_sw_in : e_sw q 0 [(252, 0), (306, 0), (334, 0), (374, 0), (449, 0), (501, 0), (541, 0), (569, 0), (597, 0), (639, 0), (719, 0), (747, 0), (775, 0), (803, 0), (831, 0), (859, 0), (915, 0), (969, 0), (1033, 0), (1085, 0), (1137, 0), (1165, 0), (1207, 0), (1235, 0), (1275, 0), (1303, 0), (1316, 0), (1344, 0), (1384, 0), (1412, 0), (1440, 0), (1480, 0), (1508, 0), (1548, 0), (1588, 0), (1630, 0), (1682, 0), (1710, 0), (1723, 0), (1763, 0), (1791, 0), (1819, 0), (1895, 0), (1947, 0), (2003, 0), (2016, 0), (2033, 0), (2050, 0)] 2063 = _ ∨ _) with e | ⟨t, ht, e⟩
        · rw [e] at h2
          exact ⟨f1, S, h1, h2, hR⟩
        · rw [e] at h2
          simp only [List.mem_cons, List.not_mem_nil, or_false] at ht
          rcases ht with rfl | rfl | rfl | rfl | rfl | rfl | rfl | rfl | rfl | rfl | rfl | rfl | rfl | rfl | rfl | rfl | rfl | rfl | rfl | rfl | rfl | rfl | rfl | rfl | rfl | rfl | rfl | rfl | rfl | rfl | rfl | rfl | rfl | rfl | rfl | rfl | rfl | rfl | rfl | rfl | rfl | rfl | rfl | rfl | rfl | rfl | rfl | rfl
          · obtain ⟨f2, S2, k1, k2, k3⟩ := zOp_252 h2 hX hR
            exact ⟨f2, S2, Nat.lt_trans k1 h1, k2, k3⟩
          · obtain ⟨f2, S2, k1, k2, k3⟩ := zOp_306 h2 hX hR
            exact ⟨f2, S2, Nat.lt_trans k1 h1, k2, k3⟩
          · obtain ⟨f2, S2, k1, k2, k3⟩ := zOp_334 h2 hX hR
            exact ⟨f2, S2, Nat.lt_trans k1 h1, k2, k3⟩
          · obtain ⟨f2, S2, k1, k2, k3⟩ := zOp_374 h2 hX hR
            exact ⟨f2, S2, Nat.lt_trans k1 h1, k2, k3⟩
          · obtain ⟨f2, S2, k1, k2, k3⟩ := zOp_449 h2 hX hR
            exact ⟨f2, S2, Nat.lt_trans k1 h1, k2, k3⟩
          · obtain ⟨f2, S2, k1, k2, k3⟩ := zOp_501 h2 hX hR
            exact ⟨f2, S2, Nat.lt_trans k1 h1, k2, k3⟩
          · obtain ⟨f2, S2, k1, k2, k3⟩ := zOp_541 h2 hX hR
            exact ⟨f2, S2, Nat.lt_trans k1 h1, k2, k3⟩
          · obtain ⟨f2, S2, k1, k2, k3⟩ := zOp_569 h2 hX hR
            exact ⟨f2, S2, Nat.lt_trans k1 h1, k2, k3⟩
          · obtain ⟨f2, S2, k1, k2, k3⟩ := zOp_597 h2 hX hR
            exact ⟨f2, S2, Nat.lt_trans k1 h1, k2, k3⟩
          · obtain ⟨f2, S2, k1, k2, k3⟩ := zOp_639 h2 hX hR
            exact ⟨f2, S2, Nat.lt_trans k1 h1, k2, k3⟩
          · obtain ⟨f2, S2, k1, k2, k3⟩ := zOp_719 h2 hX hR
            exact ⟨f2, S2, Nat.lt_trans k1 h1, k2, k3⟩
          · obtain ⟨f2, S2, k1, k2, k3⟩ := zOp_747 h2 hX hR
            exact ⟨f2, S2, Nat.lt_trans k1 h1, k2, k3⟩
          · obtain ⟨f2, S2, k1, k2, k3⟩ := zOp_775 h2 hX hR
            exact ⟨f2, S2, Nat.lt_trans k1 h1, k2, k3⟩
          · obtain ⟨f2, S2, k1, k2, k3⟩ := zOp_803 h2 hX hR
            exact ⟨f2, S2, Nat.lt_trans k1 h1, k2, k3⟩
          · obtain ⟨f2, S2, k1, k2, k3⟩ := zOp_831 h2 hX hR
            exact ⟨f2, S2, Nat.lt_trans k1 h1, k2, k3⟩
          · obtain ⟨f2, S2, k1, k2, k3⟩ := zOp_859 h2 hX hR
            exact ⟨f2, S2, Nat.lt_trans k1 h1, k2, k3⟩
          · obtain ⟨f2, S2, k1, k2, k3⟩ := zOp_915 h2 hX hR
            exact ⟨f2, S2, Nat.lt_trans k1 h1, k2, k3⟩
          · obtain ⟨f2, S2, k1, k2, k3⟩ := zOp_969 h2 hX hR
            exact ⟨f2, S2, Nat.lt_trans k1 h1, k2, k3⟩
          · obtain ⟨f2, S2, k1, k2, k3⟩ := zOp_1033 h2 hX hR
            exact ⟨f2, S2, Nat.lt_trans k1 h1, k2, k3⟩
          · obtain ⟨f2, S2, k1, k2, k3⟩ := zOp_1085 h2 hX hR
            exact ⟨f2, S2, Nat.lt_trans k1 h1, k2, k3⟩
          · obtain ⟨f2, S2, k1, k2, k3⟩ := zOp_1137 h2 hX hR
            exact ⟨f2, S2, Nat.lt_trans k1 h1, k2, k3⟩
          · obtain ⟨f2, S2, k1, k2, k3⟩ := zOp_1165 h2 hX hR
            exact ⟨f2, S2, Nat.lt_trans k1 h1, k2, k3⟩
          · obtain ⟨f2, S2, k1, k2, k3⟩ := zOp_1207 h2 hX hR
            exact ⟨f2, S2, Nat.lt_trans k1 h1, k2, k3⟩
          · obtain ⟨f2, S2, k1, k2, k3⟩ := zOp_1235 h2 hX hR
            exact ⟨f2, S2, Nat.lt_trans k1 h1, k2, k3⟩
          · obtain ⟨f2, S2, k1, k2, k3⟩ := zOp_1275 h2 hX hR
            exact ⟨f2, S2, Nat.lt_trans k1 h1, k2, k3⟩
          · obtain ⟨f2, S2, k1, k2, k3⟩ := zOp_1303 h2 hX hR
            exact ⟨f2, S2, Nat.lt_trans k1 h1, k2, k3⟩
          · obtain ⟨f2, S2, k1, k2, k3⟩ := zOp_1316 h2 hX hR
            exact ⟨f2, S2, Nat.lt_trans k1 h1, k2, k3⟩
          · obtain ⟨f2, S2, k1, k2, k3⟩ := zOp_1344 h2 hX hR
            exact ⟨f2, S2, Nat.lt_trans k1 h1, k2, k3⟩
          · obtain ⟨f2, S2, k1, k2, k3⟩ := zOp_1384 h2 hX hR
            exact ⟨f2, S2, Nat.lt_trans k1 h1, k2, k3⟩
          · obtain ⟨f2, S2, k1, k2, k3⟩ := zOp_1412 h2 hX hR
            exact ⟨f2, S2, Nat.lt_trans k1 h1, k2, k3⟩
          · obtain ⟨f2, S2, k1, k2, k3⟩ := zOp_1440 h2 hX hR
            exact ⟨f2, S2, Nat.lt_trans k1 h1, k2, k3⟩
          · obtain ⟨f2, S2, k1, k2, k3⟩ := zOp_1480 h2 hX hR
            exact ⟨f2, S2, Nat.lt_trans k1 h1, k2, k3⟩
          · obtain ⟨f2, S2, k1, k2, k3⟩ := zOp_1508 h2 hX hR
            exact ⟨f2, S2, Nat.lt_trans k1 h1, k2, k3⟩
          · obtain ⟨f2, S2, k1, k2, k3⟩ := zOp_1548 h2 hX hR
            exact ⟨f2, S2, Nat.lt_trans k1 h1, k2, k3⟩
          · obtain ⟨f2, S2, k1, k2, k3⟩ := zOp_1588 h2 hX hR
            exact ⟨f2, S2, Nat.lt_trans k1 h1, k2, k3⟩
          · obtain ⟨f2, S2, k1, k2, k3⟩ := zOp_1630 h2 hX hR
            exact ⟨f2, S2, Nat.lt_trans k1 h1, k2, k3⟩
          · obtain ⟨f2, S2, k1, k2, k3⟩ := zOp_1682 h2 hX hR
            exact ⟨f2, S2, Nat.lt_trans k1 h1, k2, k3⟩
          · obtain ⟨f2, S2, k1, k2, k3⟩ := zOp_1710 h2 hX hR
            exact ⟨f2, S2, Nat.lt_trans k1 h1, k2, k3⟩
          · obtain ⟨f2, S2, k1, k2, k3⟩ := zOp_1723 h2 hX hR
            exact ⟨f2, S2, Nat.lt_trans k1 h1, k2, k3⟩
          · obtain ⟨f2, S2, k1, k2, k3⟩ := zOp_1763 h2 hX hR
            exact ⟨f2, S2, Nat.lt_trans k1 h1, k2, k3⟩
          · obtain ⟨f2, S2, k1, k2, k3⟩ := zOp_1791 h2 hX hR
            exact ⟨f2, S2, Nat.lt_trans k1 h1, k2, k3⟩
          · obtain ⟨f2, S2, k1, k2, k3⟩ := zOp_1819 h2 hX hR
            exact ⟨f2, S2, Nat.lt_trans k1 h1, k2, k3⟩
          · obtain ⟨f2, S2, k1, k2, k3⟩ := zOp_1895 h2 hX hR
            exact ⟨f2, S2, Nat.lt_trans k1 h1, k2, k3⟩
          · obtain ⟨f2, S2, k1, k2, k3⟩ := zOp_1947 h2 hX hR
            exact ⟨f2, S2, Nat.lt_trans k1 h1, k2, k3⟩
          · obtain ⟨f2, S2, k1, k2, k3⟩ := zOp_2003 h2 hX hR
            exact ⟨f2, S2, Nat.lt_trans k1 h1, k2, k3⟩
          · obtain ⟨f2, S2, k1, k2, k3⟩ := zOp_2016 h2 hX hR
            exact ⟨f2, S2, Nat.lt_trans k1 h1, k2, k3⟩
          · obtain ⟨f2, S2, k1, k2, k3⟩ := zOp_2033 h2 hX hR
            exact ⟨f2, S2, Nat.lt_trans k1 h1, k2, k3⟩
          · obtain ⟨f2, S2, k1, k2, k3⟩ := zOp_2050 h2 hX hR
            exact ⟨f2, S2, Nat.lt_trans k1 h1, k2, k3⟩
      obtain ⟨f2, S2, k1, k2, k3⟩ := key
      obtain ⟨f3, k4, k5⟩ := z_post_g (pc := 28) (zL_2063 k2)
      exact ih f3 (Nat.lt_trans k4 k1) _ S2 X hX k3 k5
