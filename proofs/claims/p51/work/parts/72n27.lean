/-! needs: n26. All films (wip/p51/gen_n27.py) -/
section
variable {P : Value → AH → Prop} {F R : Nat} {b : Nat}
theorem n_films (hR : 2 ≤ R ∧ R ≤ 5) (hF : 2 ≤ F ∧ F ≤ 7) (hx : ∀ A G M, n_I2 F R F A G M → n_J 12 96 P (n_T F) (n_l F R) 689 [.ref 0, .ref 1, n_v 1, n_v R, n_v F, n_p 0, n_p 1, n_p 2, n_p 3, n_p 4, n_p 5, n_p (6 + F), n_v F] [] (7 + 2 * F) A (n_K G M) b) : ∀ (j f : Nat) (A G : Nat → Int → Int) (M : Int → Int → Int), f + j = F → n_I2 F R f A G M → n_J 12 96 P (n_T F) (n_l F R) 195 [.ref 0, .ref 1, n_v 1, n_v R, n_v F, n_p 0, n_p 1, n_p 2, n_p 3, n_p 4, n_p 5, n_p (6 + F), n_v (f : Int)] [] (7 + 2 * F) A (n_K G M) (b + j * 11) := by
  intro j
  induction j with
  | zero =>
    intro f A G M fj h
    obtain rfl : f = F := by omega
    refine n_J.le (b' := b) ?_ (by omega)
    refine n_kil (p' := 197) n_i195 rfl rfl ?_
    refine n_kil (p' := 199) n_i197 rfl rfl ?_
    refine n_c2ge (t := 689) (p' := 202) n_i199 (by decide) rfl ⟨by omega, by omega⟩ ⟨by omega, by omega⟩ (fun e => ?_) (fun e => absurd e (by omega))
    exact hx A G M h
  | succ j ih =>
    intro f A G M fj h
    refine n_J.le (b' := b + j * 11 + 6 + R) ?_ (by omega)
    refine n_kil (p' := 197) n_i195 rfl rfl ?_
    refine n_kil (p' := 199) n_i197 rfl rfl ?_
    refine n_c2ge (t := 689) (p' := 202) n_i199 (by decide) rfl ⟨by omega, by omega⟩ ⟨by omega, by omega⟩ (fun e => absurd e (by omega)) (fun e => ?_)
    refine n_kaln (p' := 203) n_i202 rfl rfl ?_
    refine n_kpush (z := 20) (p' := 205) n_i203 rfl rfl (by decide +kernel) rfl ?_
    refine n_kil (p' := 207) n_i205 rfl rfl ?_
    refine n_kadd (p' := 208) n_i207 rfl ?_
    refine n_kpush (z := 3) (p' := 209) n_i208 rfl rfl rfl rfl ?_
    refine n_kin (p' := 212) n_i209 (n_ain (Nat.le_of_ble_eq_true rfl)) (by decide) (by omega) (by omega) (by decide) (by decide) rfl (fun zl zl0 zl1 => ?_)
    refine n_kis (p' := 214) (vl' := [_, _, _, _, _, _, _, _, _, _, _, _, _, _]) n_i212 rfl n_mx rfl rfl rfl ?_
    refine n_kal (p' := 216) n_i214 rfl rfl ?_
    refine n_kil (p' := 218) n_i216 rfl rfl ?_
    refine n_kpush (z := 1) (p' := 219) n_i218 rfl rfl rfl rfl ?_
    refine n_kaln (p' := 220) n_i219 rfl rfl ?_
    refine n_kpush (z := 30) (p' := 222) n_i220 rfl rfl (by decide +kernel) rfl ?_
    refine n_kil (p' := 224) n_i222 rfl rfl ?_
    refine n_kadd (p' := 225) n_i224 rfl ?_
    refine n_kpush (z := 300) (p' := 228) n_i225 rfl rfl (by decide +kernel) rfl ?_
    refine n_kin (p' := 231) n_i228 (n_ain (Nat.le_of_ble_eq_true rfl)) (by decide) (by omega) (by omega) (by decide) (by decide) rfl (fun zm zm0 zm1 => ?_)
    refine n_kadd (p' := 232) n_i231 rfl ?_
    refine n_kiast (p' := 233) n_K_cl n_i232 (by omega) n_T2 (by omega) (by rw [n_l2]; omega) (by rw [n_l2]; omega) rfl ?_
    refine n_kal (p' := 235) n_i233 rfl rfl ?_
    refine n_kil (p' := 237) n_i235 rfl rfl ?_
    refine n_kaln (p' := 238) n_i237 rfl rfl ?_
    refine n_kpush (z := 40) (p' := 240) n_i238 rfl rfl (by decide +kernel) rfl ?_
    refine n_kil (p' := 242) n_i240 rfl rfl ?_
    refine n_kadd (p' := 243) n_i242 rfl ?_
    refine n_kpush (z := 2) (p' := 244) n_i243 rfl rfl rfl rfl ?_
    refine n_kin (p' := 247) n_i244 (n_ain (Nat.le_of_ble_eq_true rfl)) (by decide) (by omega) (by omega) (by decide) (by decide) rfl (fun zf zf0 zf1 => ?_)
    refine n_c1ne (t := 255) (p' := 250) n_i247 (by decide) rfl ⟨by omega, by omega⟩ (fun e247 => ?_) (fun e247 => ?_)
    · refine n_kpush (z := 100) (p' := 257) n_i255 rfl rfl (by decide +kernel) rfl ?_
      refine n_film257 (by omega) hR hF h (Or.inr rfl) (by omega) (by omega) zl0 zl1 (fun A2 G2 M2 h2 => ?_)
      exact ih (f + 1) A2 G2 M2 (by omega) h2
    · refine n_kpush (z := 102) (p' := 252) n_i250 rfl rfl (by decide +kernel) rfl ?_
      refine n_kgoto (p' := 257) n_i252 (by decide) ?_
      refine n_film257 (by omega) hR hF h (Or.inl rfl) (by omega) (by omega) zl0 zl1 (fun A2 G2 M2 h2 => ?_)
      exact ih (f + 1) A2 G2 M2 (by omega) h2
theorem n_I2.start {A G : Nat → Int → Int} (hR : 2 ≤ R ∧ R ≤ 5) (hF : 2 ≤ F ∧ F ≤ 7) (h : n_I1 R R A G) : n_I2 F R 0 (n_mkA (n_mkA (n_zr (n_zr (n_zr A 2) 3) 4) 5) (6 + F)) G (fun _ _ => -2) := by
  obtain ⟨h1, h2, h3, h4, h5, h6⟩ := h
  have low : ∀ (a : Nat) (i : Int), a < 2 → n_mkA (n_mkA (n_zr (n_zr (n_zr A 2) 3) 4) 5) (6 + F) a i = A a i := fun a i ha => by
    unfold n_mkA n_zr
    rw [if_neg (by omega), if_neg (by omega), if_neg (by omega), if_neg (by omega), if_neg (by omega), if_neg (by omega), if_neg (by omega)]
  refine ⟨⟨h3, h4, h5⟩, fun i i0 i1 => ⟨?_, ?_⟩, fun i i0 i1 => ?_, fun j hj => ⟨?_, ?_⟩, fun g hg => by omega, fun g hg g20 => ⟨(h6 g).2.2.2.1, fun i i0 i1 => rfl, fun gF i i0 i1 => ?_⟩, fun g => (h6 g).2.2.2.2, fun g i i0 i1 => rfl⟩
  · rw [low 0 i (by omega)]
    exact h1 i i0 i1
  · rw [low 1 i (by omega), h2 i i0 i1, (h6 i).1]
  · obtain ⟨q1, q2, q3, -⟩ := h6 i
    rw [q1, q2, q3]
    omega
  · unfold n_mkA
    rw [if_neg (by omega), if_neg (by omega), if_pos rfl]
    omega
  · unfold n_mkA
    rw [if_pos rfl]
    omega
  · unfold n_mkA
    rw [if_neg (by omega), if_neg (by omega), if_neg (by omega), if_pos (by omega)]
theorem n_st2 (hR : 2 ≤ R ∧ R ≤ 5) (hF : 2 ≤ F ∧ F ≤ 7) (hx : ∀ A G M, n_I2 F R F A G M → n_J 12 96 P (n_T F) (n_l F R) 689 [.ref 0, .ref 1, n_v 1, n_v R, n_v F, n_p 0, n_p 1, n_p 2, n_p 3, n_p 4, n_p 5, n_p (6 + F), n_v F] [] (7 + 2 * F) A (n_K G M) b) {A G : Nat → Int → Int} (h : n_I1 R R A G) : n_J 12 96 P (n_T F) (n_l F R) 156 [.ref 0, .ref 1, n_v 1, n_v R, n_v F, n_p 0, n_p 1, n_v R] [] 2 A (n_K G (fun _ _ => -2)) (b + 110) := by
  refine n_J.le (b' := b + F * 11 + 11 + 11 + 1 + 1 + 1) ?_ (by omega)
  refine n_kil (p' := 158) n_i156 rfl rfl ?_
  refine n_knew (p' := 160) n_K_cl n_i158 (by decide +kernel) (n_T2.trans (by decide +kernel)) (by rw [n_T2]; decide) rfl (by omega) n_l2 rfl ?_
  refine n_kas (p' := 162) (vl' := [_, _, _, _, _, _, _, _]) n_i160 rfl n_mx rfl rfl rfl ?_
  refine n_kil (p' := 164) n_i162 rfl rfl ?_
  refine n_knew (p' := 166) n_K_cl n_i164 (by decide +kernel) (n_T3.trans (by decide +kernel)) (by rw [n_T3]; decide) rfl (by omega) n_l3 rfl ?_
  refine n_kas (p' := 168) (vl' := [_, _, _, _, _, _, _, _, _]) n_i166 rfl n_mx rfl rfl rfl ?_
  refine n_kil (p' := 170) n_i168 rfl rfl ?_
  refine n_knew (p' := 172) n_K_cl n_i170 (by decide +kernel) (n_T4.trans (by decide +kernel)) (by rw [n_T4]; decide) rfl (by omega) n_l4 rfl ?_
  refine n_kas (p' := 174) (vl' := [_, _, _, _, _, _, _, _, _, _]) n_i172 rfl n_mx rfl rfl rfl ?_
  refine n_kil (p' := 176) n_i174 rfl rfl ?_
  refine n_kiln (p' := 177) n_i176 rfl rfl ?_
  refine n_kmulti (ty := .boolean) (p' := 181) (F := F) (R := R) n_K_cl n_i177 (by rw [n_own]; decide +kernel) rfl ⟨by decide +kernel, by decide +kernel⟩ (by omega) (by omega) (n_T5.trans (by decide +kernel)) (by rw [n_T5]; decide) (fun j hj => by rw [show 5 + 1 + j = 6 + j by omega, n_T6 hj]; decide +kernel) (by decide +kernel) rfl n_l5 (fun j hj => by rw [show 5 + 1 + j = 6 + j by omega]; exact n_l6 hj) rfl ?_
  rw [show 5 + 1 + F = 6 + F by omega]
  refine n_kas (p' := 183) (vl' := [_, _, _, _, _, _, _, _, _, _, _]) n_i181 rfl n_mx rfl rfl rfl ?_
  refine n_kil (p' := 185) n_i183 rfl rfl ?_
  refine n_kiln (p' := 186) n_i185 rfl rfl ?_
  refine n_kmulti (ty := .int) (p' := 190) (F := F) (R := R) n_K_cl n_i186 (by rw [n_own]; decide +kernel) rfl ⟨by decide +kernel, by decide +kernel⟩ (by omega) (by omega) (n_T7.trans (by decide +kernel)) (by rw [n_T7]; decide) (fun j hj => by rw [show 6 + F + 1 + j = 7 + F + j by omega, n_T8 hj]; decide +kernel) (by decide +kernel) rfl n_l7 (fun j hj => by rw [show 6 + F + 1 + j = 7 + F + j by omega]; exact n_l8 hj) rfl ?_
  rw [show 6 + F + 1 + F = 7 + 2 * F by omega]
  refine n_kas (p' := 192) (vl' := [_, _, _, _, _, _, _, _, _, _, _, _]) n_i190 rfl n_mx rfl rfl rfl ?_
  refine n_kpush (z := 0) (p' := 193) n_i192 rfl rfl rfl rfl ?_
  refine n_kis (p' := 195) (vl' := [_, _, _, _, _, _, _, _, _, _, _, _, _]) n_i193 rfl n_mx rfl rfl rfl ?_
  exact n_films hR hF hx F 0 _ _ _ (by omega) (n_I2.start hR hF h)
end
