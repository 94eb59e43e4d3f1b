/-! The law's stretches with the contracts that each uses, by program (wip/genlawtabs.py) -/
def c_lawL : List (BSg × List BRw) := [
  (c_lawS0, [c_r256, c_r168]),
  (c_lawS1, [c_r257, c_r169]),
  (c_lawS2, [c_r258, c_r171]),
  (c_lawS3, [c_r259, c_r173]),
  (c_lawS4, [c_r260, c_r175]),
  (c_lawS5, [c_r261, c_r177]),
  (c_lawS6, [c_r262, c_r179]),
  (c_lawS7, [c_r263, c_r181]),
  (c_lawS8, [c_r264, c_r184]),
  (c_lawS9, [c_r265, c_r185]),
  (c_lawS10, [c_r266, c_r190]),
  (c_lawS11, [c_r267, c_r191]),
  (c_lawS12, [c_r268, c_r192]),
  (c_lawS13, [c_r269, c_r193]),
  (c_lawS14, [c_r270, c_r194]),
  (c_lawS15, [c_r271, c_r195]),
  (c_lawS16, [c_r272, c_r198]),
  (c_lawS17, [c_r273, c_r199]),
  (c_lawS18, [c_r274, c_r201]),
  (c_lawS19, [c_r275, c_r209]),
  (c_lawS20, [c_r276, c_r211]),
  (c_lawS21, [c_r277, c_r213]),
  (c_lawS22, [c_r278, c_r214]),
  (c_lawS23, [c_r279, c_r215]),
  (c_lawS24, [c_r280, c_r216]),
  (c_lawS25, [c_r115, c_r217]),
  (c_lawS26, [c_r281, c_r221]),
  (c_lawS27, [c_r282, c_r222]),
  (c_lawS28, [c_r283, c_r223]),
  (c_lawS29, [c_r284, c_r224]),
  (c_lawS30, [c_r285, c_r226]),
  (c_lawS31, [c_r286, c_r228]),
  (c_lawS32, [c_r287, c_r229]),
  (c_lawS33, [c_r288, c_r230]),
  (c_lawS34, [c_r289, c_r231]),
  (c_lawS35, [c_r290, c_r233]),
  (c_lawS36, [c_r291, c_r234]),
  (c_lawS37, [c_r127, c_r235]),
  (c_lawS38, [c_r292, c_r237]),
  (c_lawS39, [c_r293, c_r247]),
  (c_lawS40, [c_r294, c_r248]),
  (c_lawS41, [c_r295, c_r249]),
  (c_lawS42, [c_r296, c_r250]),
  (c_lawS43, [c_r297, c_r251]),
  (c_lawS44, [c_r134, c_r252]),
  (c_lawS45, [c_r298, c_r253]),
  (c_lawS46, [c_r299, c_r254]),
  (c_lawS47, [c_r137, c_r255]),
  (c_lawS48, [])]
theorem c_lawOK : ∀ q ∈ c_lawL, b_sgc c_K (b_orc c_K q.2 3000 12) q.1 [28] 3000 = true := List.forall_mem_cons.mpr ⟨c_lawC0, List.forall_mem_cons.mpr ⟨c_lawC1, List.forall_mem_cons.mpr ⟨c_lawC2, List.forall_mem_cons.mpr ⟨c_lawC3, List.forall_mem_cons.mpr ⟨c_lawC4, List.forall_mem_cons.mpr ⟨c_lawC5, List.forall_mem_cons.mpr ⟨c_lawC6, List.forall_mem_cons.mpr ⟨c_lawC7, List.forall_mem_cons.mpr ⟨c_lawC8, List.forall_mem_cons.mpr ⟨c_lawC9, List.forall_mem_cons.mpr ⟨c_lawC10, List.forall_mem_cons.mpr ⟨c_lawC11, List.forall_mem_cons.mpr ⟨c_lawC12, List.forall_mem_cons.mpr ⟨c_lawC13, List.forall_mem_cons.mpr ⟨c_lawC14, List.forall_mem_cons.mpr ⟨c_lawC15, List.forall_mem_cons.mpr ⟨c_lawC16, List.forall_mem_cons.mpr ⟨c_lawC17, List.forall_mem_cons.mpr ⟨c_lawC18, List.forall_mem_cons.mpr ⟨c_lawC19, List.forall_mem_cons.mpr ⟨c_lawC20, List.forall_mem_cons.mpr ⟨c_lawC21, List.forall_mem_cons.mpr ⟨c_lawC22, List.forall_mem_cons.mpr ⟨c_lawC23, List.forall_mem_cons.mpr ⟨c_lawC24, List.forall_mem_cons.mpr ⟨c_lawC25, List.forall_mem_cons.mpr ⟨c_lawC26, List.forall_mem_cons.mpr ⟨c_lawC27, List.forall_mem_cons.mpr ⟨c_lawC28, List.forall_mem_cons.mpr ⟨c_lawC29, List.forall_mem_cons.mpr ⟨c_lawC30, List.forall_mem_cons.mpr ⟨c_lawC31, List.forall_mem_cons.mpr ⟨c_lawC32, List.forall_mem_cons.mpr ⟨c_lawC33, List.forall_mem_cons.mpr ⟨c_lawC34, List.forall_mem_cons.mpr ⟨c_lawC35, List.forall_mem_cons.mpr ⟨c_lawC36, List.forall_mem_cons.mpr ⟨c_lawC37, List.forall_mem_cons.mpr ⟨c_lawC38, List.forall_mem_cons.mpr ⟨c_lawC39, List.forall_mem_cons.mpr ⟨c_lawC40, List.forall_mem_cons.mpr ⟨c_lawC41, List.forall_mem_cons.mpr ⟨c_lawC42, List.forall_mem_cons.mpr ⟨c_lawC43, List.forall_mem_cons.mpr ⟨c_lawC44, List.forall_mem_cons.mpr ⟨c_lawC45, List.forall_mem_cons.mpr ⟨c_lawC46, List.forall_mem_cons.mpr ⟨c_lawC47, List.forall_mem_cons.mpr ⟨c_lawC48, fun _ h => absurd h List.not_mem_nil⟩⟩⟩⟩⟩⟩⟩⟩⟩⟩⟩⟩⟩⟩⟩⟩⟩⟩⟩⟩⟩⟩⟩⟩⟩⟩⟩⟩⟩⟩⟩⟩⟩⟩⟩⟩⟩⟩⟩⟩⟩⟩⟩⟩⟩⟩⟩⟩⟩
/-- all contracts that the law uses -/
def c_lawR : List BRw := [c_r256, c_r168, c_r257, c_r169, c_r258, c_r171, c_r259, c_r173, c_r260, c_r175, c_r261, c_r177, c_r262, c_r179, c_r263, c_r181, c_r264, c_r184, c_r265, c_r185, c_r266, c_r190, c_r267, c_r191, c_r268, c_r192, c_r269, c_r193, c_r270, c_r194, c_r271, c_r195, c_r272, c_r198, c_r273, c_r199, c_r274, c_r201, c_r275, c_r209, c_r276, c_r211, c_r277, c_r213, c_r278, c_r214, c_r279, c_r215, c_r280, c_r216, c_r115, c_r217, c_r281, c_r221, c_r282, c_r222, c_r283, c_r223, c_r284, c_r224, c_r285, c_r226, c_r286, c_r228, c_r287, c_r229, c_r288, c_r230, c_r289, c_r231, c_r290, c_r233, c_r291, c_r234, c_r127, c_r235, c_r292, c_r237, c_r293, c_r247, c_r294, c_r248, c_r295, c_r249, c_r296, c_r250, c_r297, c_r251, c_r134, c_r252, c_r298, c_r253, c_r299, c_r254, c_r137, c_r255]
def c_bl28 : BL := c_law28.2.1.1
def c_E28 : BQ := c_law28.2.1.2.2.1
def c_E28x : BQ := c_E28.set 0 (0, 0, 3078)
/-- the head's symbols behind a turn -/
def c_σ28 : List BV := [(1, 0, 6), (1, 1, 0)]
def c_F28 : BF := c_law28.2.1.2.2.2.1
/-- each place that the head leads to has its stretch, and each stretch leads back -/
def c_eqF : BF → BF → Bool
  | [], [] => true
  | f :: l, g :: m => (decide (f.1 = g.1) && (decide (f.2.1 = g.2.1) && decide (f.2.2 = g.2.2))) && c_eqF l m
  | _, _ => false
theorem c_eqF_ok : ∀ {a b : BF}, c_eqF a b = true → a = b
  | [], [], _ => rfl
  | f :: l, g :: m, h => by
    rw [c_eqF, Bool.and_eq_true, Bool.and_eq_true, Bool.and_eq_true, decide_eq_true_eq, decide_eq_true_eq, decide_eq_true_eq] at h
    obtain ⟨⟨h1, h2, h3⟩, h4⟩ := h
    rw [c_eqF_ok h4]
    obtain ⟨x, y, z⟩ := f
    obtain ⟨x', y', z'⟩ := g
    have h1 : x = x' := h1
    have h2 : y = y' := h2
    have h3 : z = z' := h3
    rw [h1, h2, h3]
  | [], _ :: _, h => by cases h
  | _ :: _, [], h => by cases h
def c_lawB : Bool := (c_law28.2.2.2.all fun p => (match p.1 with
  | .inl k => decide (k = .inl (some (0, 0, 1))) && decide (p.2.2 = (0, 0))
  | .inr z => decide (p.2.1.1 = []) && (c_eqF p.2.1.2.1 c_F28 && (decide (p.2.1.2.2 = [(0, 1, -6)]) && decide (p.2.2 = (0, 0)))) && ((decide (z.2.1 = c_bl28) && decide (z.2.2 = [])) && c_lawL.any fun q => decide (q.1.1 = (301, z.1)) && (decide (q.1.2.1.1 = c_bl28) && (decide (q.1.2.1.2.1 = []) && (decide (q.1.2.1.2.2.1 = c_E28) && (c_eqF q.1.2.1.2.2.2.1 c_F28 && (decide (q.1.2.1.2.2.2.2 = [(0, 1, -6)]) || decide (q.1.2.1.2.2.2.2 = [(0, 0, 1), (0, 1, -6)]))))))))) && (c_lawL.all fun q => q.1.2.2.2.all fun p => (match p.1 with
  | .inl k => decide (k = .inl (some (0, 0, 0))) && (decide (p.2.2.1 ≤ 2) && decide (p.2.2.2 ≤ 66))
  | .inr z => decide (z.1 = 28) && (decide (p.2.2.1 ≤ 2) && (decide (p.2.2.2 ≤ 66) && (decide (z.2.2 = []) && (decide (p.2.1.2.2 = [(0, 1, -6)]) && (decide (p.2.1.1.length = 0) && (b_locs c_σ28 c_bl28 z.2.1 && b_inst c_K c_σ28 (c_E28x, c_F28, []) (c_E28 ++ p.2.1.1, p.2.1.2.1, p.2.1.2.2, [], [])))))))))
theorem c_lawB_ok : c_lawB = true := by decide +kernel
