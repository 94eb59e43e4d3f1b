/-! needs: n25. A film (wip/p51/gen_n26.py) -/
section
variable {P : Value → AH → Prop} {F R : Nat} {b : Nat} {A0 G : Nat → Int → Int} {M : Int → Int → Int}
theorem n_Gf_at {f c mt ln : Int} : n_Gf G f c mt ln 0 0 = f + 1 ∧ n_Gf G f c mt ln 0 1 = G 0 1 ∧ n_Gf G f c mt ln 7 f = ln ∧ (∀ k, n_Gf G f c mt ln 1 k = G 1 k) ∧ ∀ k, n_Gf G f c mt ln 2 k = G 2 k := by
  unfold n_Gf
  refine ⟨n_up_eq, ?_, ?_, fun k => ?_, fun k => ?_⟩
  · rw [n_up_ne (Or.inr (by decide)), n_up_na rfl, n_up_na rfl, n_up_na rfl]
  · rw [n_up_na rfl, n_up_eq]
  · rw [n_up_na rfl, n_up_na rfl, n_up_na rfl, n_up_na rfl]
  · rw [n_up_na rfl, n_up_na rfl, n_up_na rfl, n_up_na rfl]
theorem n_film257 {f : Nat} {ln c mt : Int} (hf : f < F) (hR : 2 ≤ R ∧ R ≤ 5) (hF : 2 ≤ F ∧ F ≤ 7) (h : n_I2 F R f A0 G M) (hc : c = 102 ∨ c = 100) (m0 : 1 ≤ mt) (m1 : mt ≤ 300) (l0 : 0 ≤ ln) (l1 : ln < 3) (hx : ∀ A G' M', n_I2 F R (f + 1) A G' M' → n_J 12 96 P (n_T F) (n_l F R) 195 [.ref 0, .ref 1, n_v 1, n_v R, n_v F, n_p 0, n_p 1, n_p 2, n_p 3, n_p 4, n_p 5, n_p (6 + F), n_v ((f : Int) + 1)] [] (7 + 2 * F) A (n_K G' M') b) : n_J 12 96 P (n_T F) (n_l F R) 257 [.ref 0, .ref 1, n_v 1, n_v R, n_v F, n_p 0, n_p 1, n_p 2, n_p 3, n_p 4, n_p 5, n_p (6 + F), n_v f, n_v ln] [n_v c, n_v f, n_p 3] (7 + 2 * F) (n_up A0 2 f mt) (n_K G M) (b + 6 + R) := by
  obtain ⟨⟨g1, g2, g3⟩, hL, hD, hP, hO, hN, h9, hM8⟩ := id h
  obtain ⟨e00, e01, e7, e1, e2⟩ := n_Gf_at (G := G) (f := f) (c := c) (mt := mt) (ln := ln)
  have hMf := (hN f (Nat.le_refl _) (by omega)).2.1
  have hA6 := (hN f (Nat.le_refl _) (by omega)).2.2 hf
  refine n_J.le (b' := b + 2 + R + 1 + 1 + 1 + 1) ?_ (by omega)
  refine n_kcast (p' := 258) n_K_cl n_i257 (by omega) n_T3 hc (by omega) (by rw [n_l3]; omega) (by rw [n_l3]; omega) rfl ?_
  refine n_kiln (p' := 259) n_i258 rfl rfl ?_
  refine n_kaln (p' := 260) n_i259 rfl rfl ?_
  refine n_kal (p' := 262) n_i260 rfl rfl ?_
  refine n_kil (p' := 264) n_i262 rfl rfl ?_
  refine n_kcald (p' := 265) n_i264 (by omega) n_T3 (by omega) (by rw [n_l3]; omega) (by rw [n_l3]; omega) rfl ?_
  rw [n_up_eq]
  refine n_kal (p' := 267) n_i265 rfl rfl ?_
  refine n_kil (p' := 269) n_i267 rfl rfl ?_
  refine n_kiald (p' := 270) n_i269 (by omega) n_T2 (by omega) (by rw [n_l2]; omega) (by rw [n_l2]; omega) rfl ?_
  rw [n_up_na (a := 3) rfl, n_up_eq]
  refine n_kil (p' := 272) n_i270 rfl rfl ?_
  refine n_o_film (p' := 275) (v := (f : Int)) (K' := n_K (n_Gf G f c mt ln) M) n_i272 (Nat.le_of_ble_eq_true rfl) rfl (n_fit84 ⟨by omega, by omega⟩ ⟨by omega, by omega⟩ ⟨by omega, by omega⟩) (fun S hS => ?_) ?_
  · have q := k_film hS hc m0 m1 l0 (show ln ≤ 9 by omega) (by omega) (by omega)
    rw [g1] at q
    exact q
  refine n_kil (p' := 277) n_i275 rfl rfl ?_
  refine n_c2ne (t := 304) (p' := 280) n_i277 (by decide) rfl ⟨by omega, by omega⟩ ⟨by omega, by omega⟩ (fun e => absurd rfl e) (fun e => ?_)
  refine n_kaln (p' := 281) n_i280 rfl rfl ?_
  refine n_kil (p' := 283) n_i281 rfl rfl ?_
  refine n_o_score (p' := 286) (v := -900002) (K' := n_K (n_Gf G f c mt ln) M) n_i283 (Nat.le_of_ble_eq_true rfl) rfl (n_fit89 ⟨by omega, by omega⟩) (fun S hS => ⟨S, k_noScore (R := R) hS (by omega) (by rw [e00]; omega) (by rw [e00]; omega) (by rw [e01]; exact g2) (by omega) (fun i i0 i1 => by rw [hMf i i0 (by omega)]; decide), hS⟩) ?_
  refine n_kldc (z := (-900002)) (p' := 288) n_i286 (by decide +kernel) rfl ?_
  refine n_c2ne (t := 304) (p' := 291) n_i288 (by decide) rfl ⟨by omega, by omega⟩ ⟨by omega, by omega⟩ (fun e => absurd rfl e) (fun e => ?_)
  refine n_kaln (p' := 292) n_i291 rfl rfl ?_
  refine n_kil (p' := 294) n_i292 rfl rfl ?_
  refine n_o_isInQuarrel (p' := 297) (v := 0) (K' := n_K (n_Gf G f c mt ln) M) n_i294 (Nat.le_of_ble_eq_true rfl) rfl (n_fit61 ⟨by omega, by omega⟩) (fun S hS => ⟨S, k_noQuarrel (R := R) hS (by omega) (by rw [e00]; omega) (by rw [e00]; omega) (by rw [e01]; exact g2) (by omega) (fun i i0 i1 => by rw [hMf i i0 (by omega)]; decide), hS⟩) ?_
  refine n_c1ne (t := 304) (p' := 300) n_i297 (by decide) rfl ⟨by omega, by omega⟩ (fun e => absurd rfl e) (fun e => ?_)
  refine n_kpush (z := 1) (p' := 301) n_i300 rfl rfl rfl rfl ?_
  refine n_kgoto (p' := 305) n_i301 (by decide) ?_
  refine n_kand (p' := 306) n_i305 rfl ?_
  refine n_kisn (p' := 307) (vl' := [_, _, _, _, _, _, _, _, _, _, _, _, _, _]) n_i306 rfl n_mx rfl rfl rfl ?_
  refine n_kpush (z := 1) (p' := 308) n_i307 rfl rfl rfl rfl ?_
  refine n_kaln (p' := 309) n_i308 rfl rfl ?_
  refine n_kpush (z := 50) (p' := 311) n_i309 rfl rfl (by decide +kernel) rfl ?_
  refine n_kil (p' := 313) n_i311 rfl rfl ?_
  refine n_kadd (p' := 314) n_i313 rfl ?_
  refine n_kpush (z := 3) (p' := 315) n_i314 rfl rfl rfl rfl ?_
  refine n_kin (p' := 318) n_i315 (n_ain (Nat.le_of_ble_eq_true rfl)) (by decide) (by omega) (by omega) (by decide) (by decide) rfl (fun zm zm0 zm1 => ?_)
  refine n_kadd (p' := 319) n_i318 rfl ?_
  refine n_kis (p' := 321) (vl' := [_, _, _, _, _, _, _, _, _, _, _, _, _, _, _]) n_i319 rfl n_mx rfl rfl rfl ?_
  obtain ⟨mm, hmm⟩ := Int.eq_ofNat_of_zero_le (show 0 ≤ 1 + zm by omega)
  rw [hmm]
  refine n_kpush (z := 0) (p' := 322) n_i321 rfl rfl rfl rfl ?_
  refine n_kis (p' := 324) (vl' := [_, _, _, _, _, _, _, _, _, _, _, _, _, _, _, _]) n_i322 rfl n_mx rfl rfl rfl ?_
  refine n_kpush (z := 0) (p' := 325) n_i324 rfl rfl rfl rfl ?_
  refine n_kis (p' := 327) (vl' := [_, _, _, _, _, _, _, _, _, _, _, _, _, _, _, _, _]) n_i325 rfl n_mx rfl rfl rfl ?_
  refine n_can hR hF (fun i i0 i1 => ?_) l0 l1 ?_ R 0 (by omega)
  · rw [n_up_na rfl, n_up_na rfl]
    exact ⟨(hL i i0 i1).1.1, (hL i i0 i1).1.2.1⟩
  · have hcan : zcnt (n_cp (n_up (n_up A0 2 f mt) 3 f c) ln) R 0 = zcnt (n_fr (n_Gf G f c mt ln 1) (M f) ln) R 0 := zcnt_cg R 0 (fun i i0 i1 => by
      unfold n_cp n_fr
      rw [n_up_na rfl, n_up_na rfl, e1, (hL i i0 (by omega)).1.2.2, hMf i i0 (by omega)]
      simp)
    have hc0 := zcnt_le (n_fr (n_Gf G f c mt ln 1) (M f) ln) R 0
    have hcan2 := hcan
    by_cases hlt : zcnt (n_fr (n_Gf G f c mt ln 1) (M f) ln) R 0 < (mm : Int)
    · refine n_kaln (p' := 360) n_i359 rfl rfl ?_
      refine n_kil (p' := 362) n_i360 rfl rfl ?_
      refine n_kil (p' := 364) n_i362 rfl rfl ?_
      refine n_o_deal (p' := 367) (v := -900003) (K' := n_K (n_Gf G f c mt ln) M) n_i364 (Nat.le_of_ble_eq_true rfl) rfl (n_fit86 ⟨by omega, by omega⟩ ⟨by omega, by omega⟩) (fun S hS => ⟨S, (k_deal (R := R) hS (by omega) (by rw [e00]; omega) (by rw [e00]; omega) e7 (by omega) (by omega) (by rw [e01]; exact g2) (by omega) (fun k k0 k1 => by rw [e2]; have q := hD k k0 k1; omega) (fun k k0 k1 => hMf k k0 (by omega))).1 hlt, hS⟩) ?_
      refine n_kis (p' := 369) (vl' := [_, _, _, _, _, _, _, _, _, _, _, _, _, _, _, _, _]) n_i367 rfl n_mx rfl rfl rfl ?_
      refine n_kiln (p' := 370) n_i369 rfl rfl ?_
      refine n_kil (p' := 372) n_i370 rfl rfl ?_
      refine n_kil (p' := 374) n_i372 rfl rfl ?_
      refine n_kil (p' := 376) n_i374 rfl rfl ?_
      refine n_c2ge (t := 384) (p' := 379) n_i376 (by decide) rfl ⟨by omega, by omega⟩ ⟨by omega, by omega⟩ (fun e => absurd e (by omega)) (fun e => ?_)
      refine n_kldc (z := (-900003)) (p' := 381) n_i379 (by decide +kernel) rfl ?_
      refine n_kgoto (p' := 386) n_i381 (by decide) ?_
      refine n_c2ne (t := 393) (p' := 389) n_i386 (by decide) rfl ⟨by omega, by omega⟩ ⟨by omega, by omega⟩ (fun e => absurd rfl e) (fun e => ?_)
      refine n_kpush (z := 1) (p' := 390) n_i389 rfl rfl rfl rfl ?_
      refine n_kgoto (p' := 394) n_i390 (by decide) ?_
      refine n_kand (p' := 395) n_i394 rfl ?_
      refine n_kisn (p' := 396) (vl' := [_, _, _, _, _, _, _, _, _, _, _, _, _, _, _, _, _]) n_i395 rfl n_mx rfl rfl rfl ?_
      refine n_kpush (z := 0) (p' := 397) n_i396 rfl rfl rfl rfl ?_
      refine n_kis (p' := 399) (vl' := [_, _, _, _, _, _, _, _, _, _, _, _, _, _, _, _, _, _]) n_i397 rfl n_mx rfl rfl rfl ?_
      refine n_kil (p' := 401) n_i399 rfl rfl ?_
      refine n_kil (p' := 403) n_i401 rfl rfl ?_
      refine n_c2ge (t := 516) (p' := 406) n_i403 (by decide) rfl ⟨by omega, by omega⟩ ⟨by omega, by omega⟩ (fun e => absurd e (by omega)) (fun e => ?_)
      refine n_kil (p' := 408) n_i406 rfl rfl ?_
      refine n_kil (p' := 410) n_i408 rfl rfl ?_
      refine n_c2lt (t := 516) (p' := 413) n_i410 (by decide) rfl ⟨by omega, by omega⟩ ⟨by omega, by omega⟩ (fun e => ?_) (fun e => absurd e (by omega))
      refine n_J.mono (n_filmC (s := (n_Gf G f c mt ln 2, M f)) hf hR hF h hc m0 m1 ⟨fun i i0 i1 => ?_, fun _ _ _ _ => rfl⟩ (fun i i0 i1 => ?_) (fun i i0 i1 => Or.inl (hMf i i0 i1)) (fun i _ => rfl) hx) (fun S hS => ?_) (by omega)
      · rw [n_up_na rfl, n_up_na rfl, n_up_ne (a' := 6 + f) (a := 3) (Or.inl (by omega)), n_up_ne (a' := 6 + f) (a := 2) (Or.inl (by omega)), hA6 i i0 i1, (hL i i0 i1).2]
        refine ⟨(e2 i).symm, ?_⟩
        show 0 = if M f i = -2 then 0 else 1
        rw [hMf i i0 (by omega), if_pos rfl]
      · show 0 ≤ n_Gf G f c mt ln 2 i ∧ n_Gf G f c mt ln 2 i ≤ _
        rw [e2]
        have q := hD i i0 i1
        omega
      · exact hS.eq (fun a ha => funext fun k => if_neg ha) (fun k _ _ => rfl) (fun g k _ _ _ _ => by
          unfold n_sM
          split
          · rename_i e
            rw [e]
          · rfl)
    · refine n_kaln (p' := 360) n_i359 rfl rfl ?_
      refine n_kil (p' := 362) n_i360 rfl rfl ?_
      refine n_kil (p' := 364) n_i362 rfl rfl ?_
      refine n_o_deal (p' := 367) (v := mm) (K' := n_K (n_sG (n_Gf G f c mt ln) (n_dlt (n_Gf G f c mt ln 1) R ln mm (n_Gf G f c mt ln 2, M f)).1) (n_sM M f (n_dlt (n_Gf G f c mt ln 1) R ln mm (n_Gf G f c mt ln 2, M f)).2)) n_i364 (Nat.le_of_ble_eq_true rfl) rfl (n_fit86 ⟨by omega, by omega⟩ ⟨by omega, by omega⟩) (fun S hS => ?_) ?_
      · have q := (k_deal (R := R) hS (by omega) (by rw [e00]; omega) (by rw [e00]; omega) e7 (by omega) (by omega) (by rw [e01]; exact g2) (by omega) (fun k k0 k1 => by rw [e2]; have q := hD k k0 k1; omega) (fun k k0 k1 => hMf k k0 (by omega))).2 (show (mm : Int) ≤ _ by omega)
        rw [Int.toNat_natCast] at q
        exact q
      refine n_kis (p' := 369) (vl' := [_, _, _, _, _, _, _, _, _, _, _, _, _, _, _, _, _]) n_i367 rfl n_mx rfl rfl rfl ?_
      refine n_kiln (p' := 370) n_i369 rfl rfl ?_
      refine n_kil (p' := 372) n_i370 rfl rfl ?_
      refine n_kil (p' := 374) n_i372 rfl rfl ?_
      refine n_kil (p' := 376) n_i374 rfl rfl ?_
      refine n_c2ge (t := 384) (p' := 379) n_i376 (by decide) rfl ⟨by omega, by omega⟩ ⟨by omega, by omega⟩ (fun e => ?_) (fun e => absurd e (by omega))
      refine n_kil (p' := 386) n_i384 rfl rfl ?_
      refine n_c2ne (t := 393) (p' := 389) n_i386 (by decide) rfl ⟨by omega, by omega⟩ ⟨by omega, by omega⟩ (fun e => absurd rfl e) (fun e => ?_)
      refine n_kpush (z := 1) (p' := 390) n_i389 rfl rfl rfl rfl ?_
      refine n_kgoto (p' := 394) n_i390 (by decide) ?_
      refine n_kand (p' := 395) n_i394 rfl ?_
      refine n_kisn (p' := 396) (vl' := [_, _, _, _, _, _, _, _, _, _, _, _, _, _, _, _, _]) n_i395 rfl n_mx rfl rfl rfl ?_
      refine n_kpush (z := 0) (p' := 397) n_i396 rfl rfl rfl rfl ?_
      refine n_kis (p' := 399) (vl' := [_, _, _, _, _, _, _, _, _, _, _, _, _, _, _, _, _, _]) n_i397 rfl n_mx rfl rfl rfl ?_
      refine n_deals (ld := n_Gf G f c mt ln 1) (s0 := (n_Gf G f c mt ln 2, M f)) (mn := mm) n_K_cl hf hR hF (by omega) (fun i i0 i1 => ?_) (fun i i0 i1 => ?_) (by rw [n_up_na rfl, n_up_na rfl]; exact (hP f hf).1) l0 l1 (by rw [hcan]; omega) (by rw [hcan]; omega) (by show (mm : Int) ≤ zcnt (n_fr (n_Gf G f c mt ln 1) (M f) ln) R 0; omega) (fun A' hlk => ?_) mm 0 _ (by omega) ⟨fun i i0 i1 => ?_, fun _ _ _ _ => rfl⟩
      · rw [n_up_na rfl, n_up_na rfl, e1]
        exact (hL i i0 i1).1
      · show 0 ≤ n_Gf G f c mt ln 2 i ∧ n_Gf G f c mt ln 2 i ≤ 900
        rw [e2]
        have q := hD i i0 (by omega)
        omega
      · refine n_filmC hf hR hF h hc m0 m1 hlk (fun i i0 i1 => ?_) (fun i i0 i1 => ?_) (fun i i0 => ?_) hx
        · have q := n_dlt_b (ld := n_Gf G f c mt ln 1) (R := R) (l := ln) mm (n_Gf G f c mt ln 2, M f) i
          have q2 := hD i i0 i1
          have q3 : (n_Gf G f c mt ln 2, M f).1 i = G 2 i := e2 i
          omega
        · rcases n_dlt_r (ld := n_Gf G f c mt ln 1) (R := R) (l := ln) mm (n_Gf G f c mt ln 2, M f) (by show (mm : Int) ≤ zcnt (n_fr (n_Gf G f c mt ln 1) (M f) ln) R 0; omega) i with q | q
          · exact Or.inl (q.trans (hMf i i0 i1))
          · exact Or.inr ⟨q.1, q.2.2⟩
        · rcases n_dlt_r (ld := n_Gf G f c mt ln 1) (R := R) (l := ln) mm (n_Gf G f c mt ln 2, M f) (by show (mm : Int) ≤ zcnt (n_fr (n_Gf G f c mt ln 1) (M f) ln) R 0; omega) i with q | q
          · exact q
          · omega
      · rw [n_up_na rfl, n_up_na rfl, n_up_ne (a' := 6 + f) (a := 3) (Or.inl (by omega)), n_up_ne (a' := 6 + f) (a := 2) (Or.inl (by omega)), hA6 i i0 i1, (hL i i0 i1).2]
        refine ⟨(e2 i).symm, ?_⟩
        show 0 = if M f i = -2 then 0 else 1
        rw [hMf i i0 (by omega), if_pos rfl]
end
