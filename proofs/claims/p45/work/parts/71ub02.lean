/-! The films' own columns: the relation, film and rival -/
def zFs (c m : ZS) : Prop := (∀ f, 0 ≤ f → f < c r_x_filmCount 0 0 0 → m r_m_forms 0 0 f = c r_Film_form f 0 0 ∧ m r_m_minutes 0 0 f = c r_Film_minutes f 0 0 ∧ m r_m_still 0 0 f = c r_Film_stillIs f 0 0 ∧ m r_m_sections 0 0 f = c r_Film_section f 0 0) ∧ (∀ f, c r_x_filmCount 0 0 0 ≤ f → f < 20 → c r_Film_stillIs f 0 0 = 3 ∧ c r_Film_section f 0 0 = -1) ∧ ∀ f, 0 ≤ f → f < 20 → m r_m_promises 0 0 f = c r_Film_promise f 0 0 ∧ -1 ≤ c r_Film_section f 0 0
def zFsC : List Nat := [r_x_filmCount, r_Film_form, r_Film_minutes, r_Film_stillIs, r_Film_section, r_Film_promise]
def zFsM : List Nat := [r_m_forms, r_m_minutes, r_m_still, r_m_sections, r_m_promises]
theorem zFs_rel : zRel zFs zFsC zFsM := fun {c m c' m'} h hc hm => by
  unfold zFs
  rw [hc r_x_filmCount (by decide), hc r_Film_form (by decide), hc r_Film_minutes (by decide), hc r_Film_stillIs (by decide), hc r_Film_section (by decide), hc r_Film_promise (by decide), hm r_m_forms (by decide), hm r_m_minutes (by decide), hm r_m_still (by decide), hm r_m_sections (by decide), hm r_m_promises (by decide)]
  exact h
/-- a write that a relation doesn't see -/
theorem zRel.uc {R : ZS → ZS → Prop} {KC KM : List Nat} (hr : zRel R KC KM) {c m : ZS} (h : R c m) {q : Nat} {i j k z : Int} (hq : KC.contains q = false) : R (e_upd c q i j k z) m := hr h (fun r hr' => by
  funext x y w
  exact e_un (by
    cases e : r == q with
    | false => rfl
    | true =>
      rw [beq_iff_eq] at e
      rw [e, ← List.contains_iff_mem] at hr'
      rw [hr'] at hq
      cases hq)) (fun _ _ => rfl)
theorem zRel.um {R : ZS → ZS → Prop} {KC KM : List Nat} (hr : zRel R KC KM) {c m : ZS} (h : R c m) {q : Nat} {i j k z : Int} (hq : KM.contains q = false) : R c (e_upd m q i j k z) := hr h (fun _ _ => rfl) (fun r hr' => by
  funext x y w
  exact e_un (by
    cases e : r == q with
    | false => rfl
    | true =>
      rw [beq_iff_eq] at e
      rw [e, ← List.contains_iff_mem] at hr'
      rw [hr'] at hq
      cases hq))
theorem zFs.out {c m : ZS} (h : zFs c m) {z : Int} : zFs (e_upd c r_out 0 0 0 z) m := zFs_rel.uc h (by decide)
theorem zFs.thr {c m : ZS} (h : zFs c m) {z : Int} : zFs c (e_upd m r_m_thrown 0 0 0 z) := zFs_rel.um h (by decide)
theorem s_film {x y z : Int} {c m : ZS} (h : zR c m) (hs : zFs c m) : zFs (f_w_film [x, y, z] c).2 (f_m_film [x, y, z] m).2 := by
  obtain ⟨⟨a1, a2, a3⟩, -⟩ := id h
  rw [q_wfilm a1 a2, q_mfilm (by omega) (by omega), a3]
  split
  · split
    · exact hs.thr.thr
    · rename_i hn
      refine zFs.out ?_
      obtain ⟨s1, s2, s3⟩ := hs
      refine ⟨fun f f0 f1 => ?_, fun f f0 f1 => ?_, fun f f0 f1 => ?_⟩
      · simp (decide := true) only [e_us, e_un] at f1
        simp (decide := true) only [e_un, e_ur, zfl_o]
        by_cases q : f = c r_x_filmCount 0 0 0
        · simp (decide := true) only [q, and_self, ↓reduceIte, true_and]
          exact ⟨((s2 _ (Int.le_refl _) (by omega)).1).symm, ((s2 _ (Int.le_refl _) (by omega)).2).symm⟩
        · simp only [q, and_false, false_and, ↓reduceIte]
          exact s1 f f0 (by omega)
      · simp (decide := true) only [e_us, e_un] at f0 ⊢
        exact s2 f (by omega) f1
      · simp (decide := true) only [e_un, zfl_o]
        exact s3 f f0 f1
  · exact hs.thr
theorem oB_film {x y z : Int} {c m : ZS} (h : zAnd zR zFs c m) : zBo (zAnd zR zFs) (f_w_film [x, y, z] c) (f_m_film [x, y, z] m) := (o_film h.1).bo.and (s_film h.1 h.2)
def zlv (w : Int) : Int := if w = 97 then 2 else if w = 108 then 1 else 0
def zmn (a b : Int) : Int := if a < b then a else b
theorem q_letter {x : Int} {S S' : ZS} : v_m_letterOf x S = v_x_premiereOf x S' := rfl
theorem q_wrival {f w : Int} {c : ZS} (a1 : 0 ≤ c r_x_filmCount 0 0 0) (a2 : c r_x_filmCount 0 0 0 ≤ 20) : f_w_rival [f, w] c = if 0 ≤ f ∧ f < c r_x_filmCount 0 0 0 then (if w = 97 ∨ w = 108 ∨ w = 116 then ((0, [0]), e_upd (e_upd c r_Film_stillIs f 0 0 (zmn (zlv w) (c r_Film_stillIs f 0 0))) r_out 0 0 0 (v_x_premiereOf (zmn (zlv w) (c r_Film_stillIs f 0 0)) c)) else ((0, [2]), c)) else ((0, [1]), c) := by
  show e_try (f_x_rival [f, w] c) (fun v1 S1 => ((0, [0]), e_upd S1 r_out 0 0 0 v1)) [(0, 1), (1, 2)] = _
  unfold f_x_rival f_Film_showElsewhere
  dsimp only
  rw [q_film a1 (by omega)]
  by_cases hf : 0 ≤ f ∧ f < c r_x_filmCount 0 0 0
  · rw [if_pos hf, if_pos hf, e_b_ok]
    by_cases w1 : w = 97
    · subst w1
      simp (decide := true) only [zb_n, zb_d, e_b_ok, ↓reduceIte, e_us]
      rfl
    · by_cases w2 : w = 108
      · subst w2
        simp (decide := true) only [zb_n, zb_d, e_b_ok, ↓reduceIte, e_us]
        rfl
      · by_cases w3 : w = 116
        · subst w3
          simp (decide := true) only [zb_n, zb_d, e_b_ok, ↓reduceIte, e_us]
          rfl
        · simp (decide := true) only [zb_n, zb_d, w1, w2, w3, ↓reduceIte]
          rfl
  · rw [if_neg hf, if_neg hf, e_b_x (by decide) (by decide)]
    rfl
theorem q_mrival {f w : Int} {m : ZS} (a1 : 0 ≤ m r_m_films 0 0 0) (a2 : m r_m_films 0 0 0 ≤ 20) : f_m_rival [f, w] m = if 0 ≤ f ∧ f < m r_m_films 0 0 0 then (if w = 97 ∨ w = 108 ∨ w = 116 then ((0, [v_x_premiereOf (zmn (zlv w) (m r_m_still 0 0 f)) m]), e_upd (e_upd (e_upd m r_m_thrown 0 0 0 0) r_m_thrown 0 0 0 0) r_m_still 0 0 f (zmn (zlv w) (m r_m_still 0 0 f))) else ((0, [32]), e_upd (e_upd m r_m_thrown 0 0 0 0) r_m_thrown 0 0 0 2)) else ((0, [32]), e_upd m r_m_thrown 0 0 0 1) := by
  unfold f_m_rival
  dsimp only
  rw [q_noFilm a1 (by omega)]
  by_cases hf : 0 ≤ f ∧ f < m r_m_films 0 0 0
  · rw [if_pos hf, if_pos hf]
    by_cases w1 : w = 97
    · subst w1
      simp (decide := true) only [zb_n, zb_d, ↓reduceIte, e_us, e_un]
      rfl
    · by_cases w2 : w = 108
      · subst w2
        simp (decide := true) only [zb_n, zb_d, ↓reduceIte, e_us, e_un]
        rfl
      · by_cases w3 : w = 116
        · subst w3
          simp (decide := true) only [zb_n, zb_d, ↓reduceIte, e_us, e_un]
          rfl
        · simp (decide := true) only [zb_n, zb_d, w1, w2, w3, ↓reduceIte, or_self]
  · rw [if_neg hf, if_neg hf]
    simp (decide := true) only [zb_n, zb_d, ↓reduceIte]
    repeat' split
    all_goals rfl
