/-! ===== the law's wrappers and second halves ===== -/
theorem pJ_18 {I : Nm → Int → Int} {J : Int → Int → Int} : pJ I J [18] = I [18] := pJ_o (by decide) (by decide)
theorem cmp64_self (x : Int) : cmp64 x x = 0 := by
  unfold cmp64
  rw [if_neg (by omega), if_pos rfl]
/-- what a wrapper makes of an answer: it lays it into the row, and answers 0 -/
def kW (K : Kt) : Kt := fun v h => ∃ y, v = some (vI y) ∧ (hT h [18] = 3 ∧ hN h [18] = 1) ∧ K (some (vI 0)) (hT h, hN h, up2 (hI h) [18] 0 y, hR h, hc h, hw h)
def kB (K : Kt) : Kt := fun v h => ∃ y, v = some (vI y) ∧ (y = 0 ∨ y = 1) ∧ (hT h [18] = 3 ∧ hN h [18] = 1) ∧ K (some (vI 0)) (hT h, hN h, up2 (hI h) [18] 0 y, hR h, hc h, hw h)
def kV (K : Kt) : Kt := fun v h => v = none ∧ K (some (vI 0)) h
def xW (K : Kt) : Xt := fun k h => (k = 1 ∧ K (some (vI 1)) h) ∨ (k = 2 ∧ K (some (vI 2)) h)
def xV (K : Kt) : Xt := fun k h => k = 1 ∧ K (some (vI 1)) h
theorem w_contract {d : Nat} {K : Kt} {X : Xt} {ty : Nm → Nat} {ln : Nm → Int} {R : Nm → Int → Option Nm} {c w : Nat} {I : Nm → Int → Int} {x1 x2 x3 : Int} (h1 : ty [1] = 100) (z : Mth (d + 10) M_FB_contract [vR (some [1]), vI x1, vI x2, vI x3] (ty, ln, I, R, c, w) (kB K) (xV K)) : Mth (d + 11) M_La_contract [vR (some [1]), vI x1, vI x2, vI x3, vR (some [18])] (ty, ln, I, R, c, w) K X := by
  rw [in_La_contract, b_La_contract_0, and_t h1]
  refine Mth_mono _ _ _ _ _ _ _ _ ?_ ?_ z
  · rintro v ⟨ty', ln', I', R', c', w'⟩ ⟨y, rfl, yb, ⟨t1, t2⟩, k⟩
    show Rn (d + 10) M_La_contract K X 10 [vR (some [1]), vI x1, vI x2, vI x3, vR (some [18]), vJ] [vI y, vI 0, vR (some [18])] (ty', ln', I', R', c', w')
    have t2' : (0 : Int) < ln' [18] := by rw [show ln' [18] = 1 from t2]; decide
    rcases yb with rfl | rfl
    · rw [b_La_contract_10, if_pos rfl, b_La_contract_18, ex_some, and_t ⟨t1, rfl, Int.le_refl _, t2'⟩]
      exact k
    · rw [b_La_contract_10, if_neg (by decide), b_La_contract_18, ex_some, and_t ⟨t1, rfl, Int.le_refl _, t2'⟩]
      exact k
  · rintro k h ⟨rfl, k⟩
    rw [thr_1 rfl rfl (by decide) (by decide), b_La_contract_22]
    exact k
theorem t_contract {d : Nat} {K : Kt} {X : Xt} {ty : Nm → Nat} {ln : Nm → Int} {R : Nm → Int → Option Nm} {c w : Nat} {J J' : Int → Int → Int} {I : Nm → Int → Int} {i k v x1 x2 x3 : Int} {u5 u6 : Vl} (q5 : isLg u5 = false) (q6 : isLg u6 = false) (hS : ty [-3] = 20 ∧ 0 ≤ i ∧ i + 6 ≤ ln [-3] ∧ ln [-3] ≤ 3072) (hM : MOk ty ln R) (h18 : ty [18] = 3 ∧ ln [18] = 1) (y1 : I [-3] (i + 1) = x1) (y2 : I [-3] (i + 2) = x2) (y3 : I [-3] (i + 3) = x3) (hm : ∀ (K' : Kt) (X' : Xt), Mth (d + 11) M_Mo_contract [vR (some [2]), vI x1, vI x2, vI x3] (ty, ln, pJ I J, R, c, w) K' X' = K' (some (vI v)) (ty, ln, pJ I J', R, c, w)) (hk : J' (-1) 0 = k) (hv : k = 0 → I [18] 0 = v ∧ (v = 0 ∨ v = 1)) : Rn (d + 11) M_La_law K X 267 [vR (some [-3]), vR (some [1]), vR (some [2]), vR (some [18]), vI i, u5, u6] [vI k] (ty, ln, pJ I J, R, c, w) = Rn (d + 11) M_La_law K X 1680 [vR (some [-3]), vR (some [1]), vR (some [2]), vR (some [18]), vI i, vI k, vI v] [] (ty, ln, pJ I J', R, c, w) := by
  have h0 := hM.1
  by_cases q : k = 0
  · obtain ⟨e, eb⟩ := hv q
    rcases eb with rfl | rfl
    · simp (disch := first | omega | assumption | rfl) only [b_La_law_267, b_La_law_291, b_La_law_297, b_La_law_322, b_La_law_328, hm, m_thrown hM, hk, y1, y2, y3, e, cmp64_self, Option.toList_some, Option.toList_none, List.cons_append, List.nil_append, ↓if_pos, ↓if_neg, ↓and_t, ↓ex_some, pJ_s, pJ_18, true_and, and_true, not_true_eq_false, not_false_eq_true, if_true, if_false, or_true, true_or, w32_id, ite_self, Int.add_zero]
    · simp (disch := first | omega | assumption | rfl) only [b_La_law_267, b_La_law_291, b_La_law_297, b_La_law_322, b_La_law_328, hm, m_thrown hM, hk, y1, y2, y3, e, cmp64_self, Option.toList_some, Option.toList_none, List.cons_append, List.nil_append, ↓if_pos, ↓if_neg, ↓and_t, ↓ex_some, pJ_s, pJ_18, true_and, and_true, not_true_eq_false, not_false_eq_true, if_true, if_false, or_true, true_or, w32_id, ite_self, Int.add_zero]
  · simp (disch := first | omega | assumption | rfl) only [b_La_law_267, b_La_law_291, b_La_law_297, b_La_law_322, b_La_law_328, hm, m_thrown hM, hk, y1, y2, y3, Option.toList_some, Option.toList_none, List.cons_append, List.nil_append, ↓if_pos, ↓if_neg, ↓and_t, ↓ex_some, pJ_s, pJ_18, true_and, and_true, not_true_eq_false, not_false_eq_true, if_true, if_false, or_true, true_or, w32_id, ite_self, Int.add_zero]
theorem w_write {d : Nat} {K : Kt} {X : Xt} {ty : Nm → Nat} {ln : Nm → Int} {R : Nm → Int → Option Nm} {c w : Nat} {I : Nm → Int → Int} {x1 x2 x3 : Int} (h1 : ty [1] = 100) (z : Mth (d + 10) M_FB_write [vR (some [1]), vI x1, vI x2, vI x3] (ty, ln, I, R, c, w) (kW K) (xW K)) : Mth (d + 11) M_La_write [vR (some [1]), vI x1, vI x2, vI x3, vR (some [18])] (ty, ln, I, R, c, w) K X := by
  rw [in_La_write, b_La_write_0, and_t h1]
  refine Mth_mono _ _ _ _ _ _ _ _ ?_ ?_ z
  · rintro v ⟨ty', ln', I', R', c', w'⟩ ⟨y, rfl, ⟨t1, t2⟩, k⟩
    show Rn (d + 10) M_La_write K X 10 [vR (some [1]), vI x1, vI x2, vI x3, vR (some [18]), vJ] [vI y, vI 0, vR (some [18])] (ty', ln', I', R', c', w')
    have t2' : (0 : Int) < ln' [18] := by rw [show ln' [18] = 1 from t2]; decide
    rw [b_La_write_10, ex_some, and_t ⟨t1, rfl, Int.le_refl _, t2'⟩]
    exact k
  · rintro k h (⟨rfl, k⟩ | ⟨rfl, k⟩)
    · rw [thr_21 rfl rfl (by decide) (by decide) (by decide) (by decide), b_La_write_15]
      exact k
    · rw [thr_22 rfl rfl (by decide) (by decide) (by decide) (by decide), b_La_write_19]
      exact k
theorem t_write {d : Nat} {K : Kt} {X : Xt} {ty : Nm → Nat} {ln : Nm → Int} {R : Nm → Int → Option Nm} {c w : Nat} {J J' : Int → Int → Int} {I : Nm → Int → Int} {i k v x1 x2 x3 : Int} {u5 u6 : Vl} (q5 : isLg u5 = false) (q6 : isLg u6 = false) (hS : ty [-3] = 20 ∧ 0 ≤ i ∧ i + 6 ≤ ln [-3] ∧ ln [-3] ≤ 3072) (hM : MOk ty ln R) (h18 : ty [18] = 3 ∧ ln [18] = 1) (y1 : I [-3] (i + 1) = x1) (y2 : I [-3] (i + 2) = x2) (y3 : I [-3] (i + 3) = x3) (hm : ∀ (K' : Kt) (X' : Xt), Mth (d + 11) M_Mo_write [vR (some [2]), vI x1, vI x2, vI x3] (ty, ln, pJ I J, R, c, w) K' X' = K' (some (vI v)) (ty, ln, pJ I J', R, c, w)) (hk : J' (-1) 0 = k) (hv : k = 0 → I [18] 0 = v) : Rn (d + 11) M_La_law K X 354 [vR (some [-3]), vR (some [1]), vR (some [2]), vR (some [18]), vI i, u5, u6] [vI k] (ty, ln, pJ I J, R, c, w) = Rn (d + 11) M_La_law K X 1680 [vR (some [-3]), vR (some [1]), vR (some [2]), vR (some [18]), vI i, vI k, vI v] [] (ty, ln, pJ I J', R, c, w) := by
  have h0 := hM.1
  by_cases q : k = 0
  · have e := hv q
    simp (disch := first | omega | assumption | rfl) only [b_La_law_354, b_La_law_378, b_La_law_384, b_La_law_408, hm, m_thrown hM, hk, y1, y2, y3, e, cmp64_self, Option.toList_some, Option.toList_none, List.cons_append, List.nil_append, ↓if_pos, ↓if_neg, ↓and_t, ↓ex_some, pJ_s, pJ_18, true_and, and_true, not_true_eq_false, not_false_eq_true, if_true, if_false, or_true, true_or, w32_id, ite_self, Int.add_zero]
  · simp (disch := first | omega | assumption | rfl) only [b_La_law_354, b_La_law_378, b_La_law_384, b_La_law_408, hm, m_thrown hM, hk, y1, y2, y3, Option.toList_some, Option.toList_none, List.cons_append, List.nil_append, ↓if_pos, ↓if_neg, ↓and_t, ↓ex_some, pJ_s, pJ_18, true_and, and_true, not_true_eq_false, not_false_eq_true, if_true, if_false, or_true, true_or, w32_id, ite_self, Int.add_zero]
theorem w_file {d : Nat} {K : Kt} {X : Xt} {ty : Nm → Nat} {ln : Nm → Int} {R : Nm → Int → Option Nm} {c w : Nat} {I : Nm → Int → Int} {x1 x2 x3 : Int} (h1 : ty [1] = 100) (z : Mth (d + 10) M_FB_file [vR (some [1]), vI x1, vI x2, vI x3] (ty, ln, I, R, c, w) (kB K) (xW K)) : Mth (d + 11) M_La_file [vR (some [1]), vI x1, vI x2, vI x3, vR (some [18])] (ty, ln, I, R, c, w) K X := by
  rw [in_La_file, b_La_file_0, and_t h1]
  refine Mth_mono _ _ _ _ _ _ _ _ ?_ ?_ z
  · rintro v ⟨ty', ln', I', R', c', w'⟩ ⟨y, rfl, yb, ⟨t1, t2⟩, k⟩
    show Rn (d + 10) M_La_file K X 10 [vR (some [1]), vI x1, vI x2, vI x3, vR (some [18]), vJ] [vI y, vI 0, vR (some [18])] (ty', ln', I', R', c', w')
    have t2' : (0 : Int) < ln' [18] := by rw [show ln' [18] = 1 from t2]; decide
    rcases yb with rfl | rfl
    · rw [b_La_file_10, if_pos rfl, b_La_file_18, ex_some, and_t ⟨t1, rfl, Int.le_refl _, t2'⟩]
      exact k
    · rw [b_La_file_10, if_neg (by decide), b_La_file_18, ex_some, and_t ⟨t1, rfl, Int.le_refl _, t2'⟩]
      exact k
  · rintro k h (⟨rfl, k⟩ | ⟨rfl, k⟩)
    · rw [thr_21 rfl rfl (by decide) (by decide) (by decide) (by decide), b_La_file_22]
      exact k
    · rw [thr_22 rfl rfl (by decide) (by decide) (by decide) (by decide), b_La_file_26]
      exact k
theorem t_file {d : Nat} {K : Kt} {X : Xt} {ty : Nm → Nat} {ln : Nm → Int} {R : Nm → Int → Option Nm} {c w : Nat} {J J' : Int → Int → Int} {I : Nm → Int → Int} {i k v x1 x2 x3 : Int} {u5 u6 : Vl} (q5 : isLg u5 = false) (q6 : isLg u6 = false) (hS : ty [-3] = 20 ∧ 0 ≤ i ∧ i + 6 ≤ ln [-3] ∧ ln [-3] ≤ 3072) (hM : MOk ty ln R) (h18 : ty [18] = 3 ∧ ln [18] = 1) (y1 : I [-3] (i + 1) = x1) (y2 : I [-3] (i + 2) = x2) (y3 : I [-3] (i + 3) = x3) (hm : ∀ (K' : Kt) (X' : Xt), Mth (d + 11) M_Mo_file [vR (some [2]), vI x1, vI x2, vI (if x3 = 0 then 0 else 1)] (ty, ln, pJ I J, R, c, w) K' X' = K' (some (vI v)) (ty, ln, pJ I J', R, c, w)) (hk : J' (-1) 0 = k) (hv : k = 0 → I [18] 0 = v ∧ (v = 0 ∨ v = 1)) : Rn (d + 11) M_La_law K X 442 [vR (some [-3]), vR (some [1]), vR (some [2]), vR (some [18]), vI i, u5, u6] [vI k] (ty, ln, pJ I J, R, c, w) = Rn (d + 11) M_La_law K X 1680 [vR (some [-3]), vR (some [1]), vR (some [2]), vR (some [18]), vI i, vI k, vI v] [] (ty, ln, pJ I J', R, c, w) := by
  have h0 := hM.1
  by_cases z : x3 = 0
  · rw [if_pos z] at hm
    by_cases q : k = 0
    · obtain ⟨e, eb⟩ := hv q
      rcases eb with rfl | rfl
      · simp (disch := first | omega | assumption | rfl) only [b_La_law_442, b_La_law_471, b_La_law_474, b_La_law_480, b_La_law_505, b_La_law_511, hm, m_thrown hM, hk, y1, y2, y3, e, cmp64_self, Option.toList_some, Option.toList_none, List.cons_append, List.nil_append, ↓if_pos, ↓if_neg, ↓and_t, ↓ex_some, pJ_s, pJ_18, true_and, and_true, not_true_eq_false, not_false_eq_true, if_true, if_false, or_true, true_or, w32_id, ite_self, Int.add_zero]
      · simp (disch := first | omega | assumption | rfl) only [b_La_law_442, b_La_law_471, b_La_law_474, b_La_law_480, b_La_law_505, b_La_law_511, hm, m_thrown hM, hk, y1, y2, y3, e, cmp64_self, Option.toList_some, Option.toList_none, List.cons_append, List.nil_append, ↓if_pos, ↓if_neg, ↓and_t, ↓ex_some, pJ_s, pJ_18, true_and, and_true, not_true_eq_false, not_false_eq_true, if_true, if_false, or_true, true_or, w32_id, ite_self, Int.add_zero]
    · simp (disch := first | omega | assumption | rfl) only [b_La_law_442, b_La_law_471, b_La_law_474, b_La_law_480, b_La_law_505, b_La_law_511, hm, m_thrown hM, hk, y1, y2, y3, Option.toList_some, Option.toList_none, List.cons_append, List.nil_append, ↓if_pos, ↓if_neg, ↓and_t, ↓ex_some, pJ_s, pJ_18, true_and, and_true, not_true_eq_false, not_false_eq_true, if_true, if_false, or_true, true_or, w32_id, ite_self, Int.add_zero]
  · rw [if_neg z] at hm
    by_cases q : k = 0
    · obtain ⟨e, eb⟩ := hv q
      rcases eb with rfl | rfl
      · simp (disch := first | omega | assumption | rfl) only [b_La_law_442, b_La_law_471, b_La_law_474, b_La_law_480, b_La_law_505, b_La_law_511, hm, m_thrown hM, hk, y1, y2, y3, e, cmp64_self, Option.toList_some, Option.toList_none, List.cons_append, List.nil_append, ↓if_pos, ↓if_neg, ↓and_t, ↓ex_some, pJ_s, pJ_18, true_and, and_true, not_true_eq_false, not_false_eq_true, if_true, if_false, or_true, true_or, w32_id, ite_self, Int.add_zero]
      · simp (disch := first | omega | assumption | rfl) only [b_La_law_442, b_La_law_471, b_La_law_474, b_La_law_480, b_La_law_505, b_La_law_511, hm, m_thrown hM, hk, y1, y2, y3, e, cmp64_self, Option.toList_some, Option.toList_none, List.cons_append, List.nil_append, ↓if_pos, ↓if_neg, ↓and_t, ↓ex_some, pJ_s, pJ_18, true_and, and_true, not_true_eq_false, not_false_eq_true, if_true, if_false, or_true, true_or, w32_id, ite_self, Int.add_zero]
    · simp (disch := first | omega | assumption | rfl) only [b_La_law_442, b_La_law_471, b_La_law_474, b_La_law_480, b_La_law_505, b_La_law_511, hm, m_thrown hM, hk, y1, y2, y3, Option.toList_some, Option.toList_none, List.cons_append, List.nil_append, ↓if_pos, ↓if_neg, ↓and_t, ↓ex_some, pJ_s, pJ_18, true_and, and_true, not_true_eq_false, not_false_eq_true, if_true, if_false, or_true, true_or, w32_id, ite_self, Int.add_zero]
theorem w_seal {d : Nat} {K : Kt} {X : Xt} {ty : Nm → Nat} {ln : Nm → Int} {R : Nm → Int → Option Nm} {c w : Nat} {I : Nm → Int → Int} {x1 : Int} (h1 : ty [1] = 100) (z : Mth (d + 10) M_FB_seal [vR (some [1]), vI x1] (ty, ln, I, R, c, w) (kW K) (xW K)) : Mth (d + 11) M_La_seal [vR (some [1]), vI x1, vR (some [18])] (ty, ln, I, R, c, w) K X := by
  rw [in_La_seal, b_La_seal_0, and_t h1]
  refine Mth_mono _ _ _ _ _ _ _ _ ?_ ?_ z
  · rintro v ⟨ty', ln', I', R', c', w'⟩ ⟨y, rfl, ⟨t1, t2⟩, k⟩
    show Rn (d + 10) M_La_seal K X 7 [vR (some [1]), vI x1, vR (some [18]), vJ] [vI y, vI 0, vR (some [18])] (ty', ln', I', R', c', w')
    have t2' : (0 : Int) < ln' [18] := by rw [show ln' [18] = 1 from t2]; decide
    rw [b_La_seal_7, ex_some, and_t ⟨t1, rfl, Int.le_refl _, t2'⟩]
    exact k
  · rintro k h (⟨rfl, k⟩ | ⟨rfl, k⟩)
    · rw [thr_21 rfl rfl (by decide) (by decide) (by decide) (by decide), b_La_seal_12]
      exact k
    · rw [thr_22 rfl rfl (by decide) (by decide) (by decide) (by decide), b_La_seal_15]
      exact k
theorem t_seal {d : Nat} {K : Kt} {X : Xt} {ty : Nm → Nat} {ln : Nm → Int} {R : Nm → Int → Option Nm} {c w : Nat} {J J' : Int → Int → Int} {I : Nm → Int → Int} {i k v x1 : Int} {u5 u6 : Vl} (q5 : isLg u5 = false) (q6 : isLg u6 = false) (hS : ty [-3] = 20 ∧ 0 ≤ i ∧ i + 6 ≤ ln [-3] ∧ ln [-3] ≤ 3072) (hM : MOk ty ln R) (h18 : ty [18] = 3 ∧ ln [18] = 1) (y1 : I [-3] (i + 1) = x1) (hm : ∀ (K' : Kt) (X' : Xt), Mth (d + 11) M_Mo_seal [vR (some [2]), vI x1] (ty, ln, pJ I J, R, c, w) K' X' = K' (some (vI v)) (ty, ln, pJ I J', R, c, w)) (hk : J' (-1) 0 = k) (hv : k = 0 → I [18] 0 = v) : Rn (d + 11) M_La_law K X 525 [vR (some [-3]), vR (some [1]), vR (some [2]), vR (some [18]), vI i, u5, u6] [vI k] (ty, ln, pJ I J, R, c, w) = Rn (d + 11) M_La_law K X 1680 [vR (some [-3]), vR (some [1]), vR (some [2]), vR (some [18]), vI i, vI k, vI v] [] (ty, ln, pJ I J', R, c, w) := by
  have h0 := hM.1
  by_cases q : k = 0
  · have e := hv q
    simp (disch := first | omega | assumption | rfl) only [b_La_law_525, b_La_law_537, b_La_law_543, b_La_law_567, hm, m_thrown hM, hk, y1, e, cmp64_self, Option.toList_some, Option.toList_none, List.cons_append, List.nil_append, ↓if_pos, ↓if_neg, ↓and_t, ↓ex_some, pJ_s, pJ_18, true_and, and_true, not_true_eq_false, not_false_eq_true, if_true, if_false, or_true, true_or, w32_id, ite_self, Int.add_zero]
  · simp (disch := first | omega | assumption | rfl) only [b_La_law_525, b_La_law_537, b_La_law_543, b_La_law_567, hm, m_thrown hM, hk, y1, Option.toList_some, Option.toList_none, List.cons_append, List.nil_append, ↓if_pos, ↓if_neg, ↓and_t, ↓ex_some, pJ_s, pJ_18, true_and, and_true, not_true_eq_false, not_false_eq_true, if_true, if_false, or_true, true_or, w32_id, ite_self, Int.add_zero]
theorem w_push {d : Nat} {K : Kt} {X : Xt} {ty : Nm → Nat} {ln : Nm → Int} {R : Nm → Int → Option Nm} {c w : Nat} {I : Nm → Int → Int} {x1 : Int} (h1 : ty [1] = 100) (z : Mth (d + 10) M_FB_push [vR (some [1]), vI x1] (ty, ln, I, R, c, w) (kW K) (xW K)) : Mth (d + 11) M_La_push [vR (some [1]), vI x1, vR (some [18])] (ty, ln, I, R, c, w) K X := by
  rw [in_La_push, b_La_push_0, and_t h1]
  refine Mth_mono _ _ _ _ _ _ _ _ ?_ ?_ z
  · rintro v ⟨ty', ln', I', R', c', w'⟩ ⟨y, rfl, ⟨t1, t2⟩, k⟩
    show Rn (d + 10) M_La_push K X 7 [vR (some [1]), vI x1, vR (some [18]), vJ] [vI y, vI 0, vR (some [18])] (ty', ln', I', R', c', w')
    have t2' : (0 : Int) < ln' [18] := by rw [show ln' [18] = 1 from t2]; decide
    rw [b_La_push_7, ex_some, and_t ⟨t1, rfl, Int.le_refl _, t2'⟩]
    exact k
  · rintro k h (⟨rfl, k⟩ | ⟨rfl, k⟩)
    · rw [thr_21 rfl rfl (by decide) (by decide) (by decide) (by decide), b_La_push_12]
      exact k
    · rw [thr_22 rfl rfl (by decide) (by decide) (by decide) (by decide), b_La_push_15]
      exact k
theorem t_push {d : Nat} {K : Kt} {X : Xt} {ty : Nm → Nat} {ln : Nm → Int} {R : Nm → Int → Option Nm} {c w : Nat} {J J' : Int → Int → Int} {I : Nm → Int → Int} {i k v x1 : Int} {u5 u6 : Vl} (q5 : isLg u5 = false) (q6 : isLg u6 = false) (hS : ty [-3] = 20 ∧ 0 ≤ i ∧ i + 6 ≤ ln [-3] ∧ ln [-3] ≤ 3072) (hM : MOk ty ln R) (h18 : ty [18] = 3 ∧ ln [18] = 1) (y1 : I [-3] (i + 1) = x1) (hm : ∀ (K' : Kt) (X' : Xt), Mth (d + 11) M_Mo_push [vR (some [2]), vI x1] (ty, ln, pJ I J, R, c, w) K' X' = K' (some (vI v)) (ty, ln, pJ I J', R, c, w)) (hk : J' (-1) 0 = k) (hv : k = 0 → I [18] 0 = v) : Rn (d + 11) M_La_law K X 581 [vR (some [-3]), vR (some [1]), vR (some [2]), vR (some [18]), vI i, u5, u6] [vI k] (ty, ln, pJ I J, R, c, w) = Rn (d + 11) M_La_law K X 1680 [vR (some [-3]), vR (some [1]), vR (some [2]), vR (some [18]), vI i, vI k, vI v] [] (ty, ln, pJ I J', R, c, w) := by
  have h0 := hM.1
  by_cases q : k = 0
  · have e := hv q
    simp (disch := first | omega | assumption | rfl) only [b_La_law_581, b_La_law_593, b_La_law_599, b_La_law_623, hm, m_thrown hM, hk, y1, e, cmp64_self, Option.toList_some, Option.toList_none, List.cons_append, List.nil_append, ↓if_pos, ↓if_neg, ↓and_t, ↓ex_some, pJ_s, pJ_18, true_and, and_true, not_true_eq_false, not_false_eq_true, if_true, if_false, or_true, true_or, w32_id, ite_self, Int.add_zero]
  · simp (disch := first | omega | assumption | rfl) only [b_La_law_581, b_La_law_593, b_La_law_599, b_La_law_623, hm, m_thrown hM, hk, y1, Option.toList_some, Option.toList_none, List.cons_append, List.nil_append, ↓if_pos, ↓if_neg, ↓and_t, ↓ex_some, pJ_s, pJ_18, true_and, and_true, not_true_eq_false, not_false_eq_true, if_true, if_false, or_true, true_or, w32_id, ite_self, Int.add_zero]
theorem w_up {d : Nat} {K : Kt} {X : Xt} {ty : Nm → Nat} {ln : Nm → Int} {R : Nm → Int → Option Nm} {c w : Nat} {I : Nm → Int → Int} {x1 x2 : Int} (h1 : ty [1] = 100) (z : Mth (d + 10) M_FB_up [vR (some [1]), vI x1, vI x2] (ty, ln, I, R, c, w) (kB K) (xV K)) : Mth (d + 11) M_La_up [vR (some [1]), vI x1, vI x2, vR (some [18])] (ty, ln, I, R, c, w) K X := by
  rw [in_La_up, b_La_up_0, and_t h1]
  refine Mth_mono _ _ _ _ _ _ _ _ ?_ ?_ z
  · rintro v ⟨ty', ln', I', R', c', w'⟩ ⟨y, rfl, yb, ⟨t1, t2⟩, k⟩
    show Rn (d + 10) M_La_up K X 8 [vR (some [1]), vI x1, vI x2, vR (some [18]), vJ] [vI y, vI 0, vR (some [18])] (ty', ln', I', R', c', w')
    have t2' : (0 : Int) < ln' [18] := by rw [show ln' [18] = 1 from t2]; decide
    rcases yb with rfl | rfl
    · rw [b_La_up_8, if_pos rfl, b_La_up_16, ex_some, and_t ⟨t1, rfl, Int.le_refl _, t2'⟩]
      exact k
    · rw [b_La_up_8, if_neg (by decide), b_La_up_16, ex_some, and_t ⟨t1, rfl, Int.le_refl _, t2'⟩]
      exact k
  · rintro k h ⟨rfl, k⟩
    rw [thr_1 rfl rfl (by decide) (by decide), b_La_up_20]
    exact k
theorem t_up {d : Nat} {K : Kt} {X : Xt} {ty : Nm → Nat} {ln : Nm → Int} {R : Nm → Int → Option Nm} {c w : Nat} {J J' : Int → Int → Int} {I : Nm → Int → Int} {i k v x1 x2 : Int} {u5 u6 : Vl} (q5 : isLg u5 = false) (q6 : isLg u6 = false) (hS : ty [-3] = 20 ∧ 0 ≤ i ∧ i + 6 ≤ ln [-3] ∧ ln [-3] ≤ 3072) (hM : MOk ty ln R) (h18 : ty [18] = 3 ∧ ln [18] = 1) (y1 : I [-3] (i + 1) = x1) (y2 : I [-3] (i + 2) = x2) (hm : ∀ (K' : Kt) (X' : Xt), Mth (d + 11) M_Mo_up [vR (some [2]), vI x1, vI (if x2 = 0 then 0 else 1)] (ty, ln, pJ I J, R, c, w) K' X' = K' (some (vI v)) (ty, ln, pJ I J', R, c, w)) (hk : J' (-1) 0 = k) (hv : k = 0 → I [18] 0 = v ∧ (v = 0 ∨ v = 1)) : Rn (d + 11) M_La_law K X 651 [vR (some [-3]), vR (some [1]), vR (some [2]), vR (some [18]), vI i, u5, u6] [vI k] (ty, ln, pJ I J, R, c, w) = Rn (d + 11) M_La_law K X 1680 [vR (some [-3]), vR (some [1]), vR (some [2]), vR (some [18]), vI i, vI k, vI v] [] (ty, ln, pJ I J', R, c, w) := by
  have h0 := hM.1
  by_cases z : x2 = 0
  · rw [if_pos z] at hm
    by_cases q : k = 0
    · obtain ⟨e, eb⟩ := hv q
      rcases eb with rfl | rfl
      · simp (disch := first | omega | assumption | rfl) only [b_La_law_651, b_La_law_674, b_La_law_677, b_La_law_683, b_La_law_708, b_La_law_714, hm, m_thrown hM, hk, y1, y2, e, cmp64_self, Option.toList_some, Option.toList_none, List.cons_append, List.nil_append, ↓if_pos, ↓if_neg, ↓and_t, ↓ex_some, pJ_s, pJ_18, true_and, and_true, not_true_eq_false, not_false_eq_true, if_true, if_false, or_true, true_or, w32_id, ite_self, Int.add_zero]
      · simp (disch := first | omega | assumption | rfl) only [b_La_law_651, b_La_law_674, b_La_law_677, b_La_law_683, b_La_law_708, b_La_law_714, hm, m_thrown hM, hk, y1, y2, e, cmp64_self, Option.toList_some, Option.toList_none, List.cons_append, List.nil_append, ↓if_pos, ↓if_neg, ↓and_t, ↓ex_some, pJ_s, pJ_18, true_and, and_true, not_true_eq_false, not_false_eq_true, if_true, if_false, or_true, true_or, w32_id, ite_self, Int.add_zero]
    · simp (disch := first | omega | assumption | rfl) only [b_La_law_651, b_La_law_674, b_La_law_677, b_La_law_683, b_La_law_708, b_La_law_714, hm, m_thrown hM, hk, y1, y2, Option.toList_some, Option.toList_none, List.cons_append, List.nil_append, ↓if_pos, ↓if_neg, ↓and_t, ↓ex_some, pJ_s, pJ_18, true_and, and_true, not_true_eq_false, not_false_eq_true, if_true, if_false, or_true, true_or, w32_id, ite_self, Int.add_zero]
  · rw [if_neg z] at hm
    by_cases q : k = 0
    · obtain ⟨e, eb⟩ := hv q
      rcases eb with rfl | rfl
      · simp (disch := first | omega | assumption | rfl) only [b_La_law_651, b_La_law_674, b_La_law_677, b_La_law_683, b_La_law_708, b_La_law_714, hm, m_thrown hM, hk, y1, y2, e, cmp64_self, Option.toList_some, Option.toList_none, List.cons_append, List.nil_append, ↓if_pos, ↓if_neg, ↓and_t, ↓ex_some, pJ_s, pJ_18, true_and, and_true, not_true_eq_false, not_false_eq_true, if_true, if_false, or_true, true_or, w32_id, ite_self, Int.add_zero]
      · simp (disch := first | omega | assumption | rfl) only [b_La_law_651, b_La_law_674, b_La_law_677, b_La_law_683, b_La_law_708, b_La_law_714, hm, m_thrown hM, hk, y1, y2, e, cmp64_self, Option.toList_some, Option.toList_none, List.cons_append, List.nil_append, ↓if_pos, ↓if_neg, ↓and_t, ↓ex_some, pJ_s, pJ_18, true_and, and_true, not_true_eq_false, not_false_eq_true, if_true, if_false, or_true, true_or, w32_id, ite_self, Int.add_zero]
    · simp (disch := first | omega | assumption | rfl) only [b_La_law_651, b_La_law_674, b_La_law_677, b_La_law_683, b_La_law_708, b_La_law_714, hm, m_thrown hM, hk, y1, y2, Option.toList_some, Option.toList_none, List.cons_append, List.nil_append, ↓if_pos, ↓if_neg, ↓and_t, ↓ex_some, pJ_s, pJ_18, true_and, and_true, not_true_eq_false, not_false_eq_true, if_true, if_false, or_true, true_or, w32_id, ite_self, Int.add_zero]
theorem w_loseDisk {d : Nat} {K : Kt} {X : Xt} {ty : Nm → Nat} {ln : Nm → Int} {R : Nm → Int → Option Nm} {c w : Nat} {I : Nm → Int → Int} {x1 : Int} (h1 : ty [1] = 100) (z : Mth (d + 10) M_FB_loseDisk [vR (some [1]), vI x1] (ty, ln, I, R, c, w) (kV K) (xV K)) : Mth (d + 11) M_La_loseDisk [vR (some [1]), vI x1] (ty, ln, I, R, c, w) K X := by
  rw [in_La_loseDisk, b_La_loseDisk_0, and_t h1]
  refine Mth_mono _ _ _ _ _ _ _ _ ?_ ?_ z
  · rintro v h ⟨rfl, k⟩
    show Rn (d + 10) M_La_loseDisk K X 5 [vR (some [1]), vI x1, vJ] [] h
    rw [b_La_loseDisk_5]
    exact k
  · rintro k h ⟨rfl, k⟩
    rw [thr_1 rfl rfl (by decide) (by decide), b_La_loseDisk_8]
    exact k
theorem t_loseDisk {d : Nat} {K : Kt} {X : Xt} {ty : Nm → Nat} {ln : Nm → Int} {R : Nm → Int → Option Nm} {c w : Nat} {J J' : Int → Int → Int} {I : Nm → Int → Int} {i k x1 : Int} {u5 u6 : Vl} (q5 : isLg u5 = false) (q6 : isLg u6 = false) (hS : ty [-3] = 20 ∧ 0 ≤ i ∧ i + 6 ≤ ln [-3] ∧ ln [-3] ≤ 3072) (hM : MOk ty ln R) (h18 : ty [18] = 3 ∧ ln [18] = 1) (y1 : I [-3] (i + 1) = x1) (hm : ∀ (K' : Kt) (X' : Xt), Mth (d + 11) M_Mo_loseDisk [vR (some [2]), vI x1] (ty, ln, pJ I J, R, c, w) K' X' = K' none (ty, ln, pJ I J', R, c, w)) (hk : J' (-1) 0 = k) : Rn (d + 11) M_La_law K X 727 [vR (some [-3]), vR (some [1]), vR (some [2]), vR (some [18]), vI i, u5, u6] [vI k] (ty, ln, pJ I J, R, c, w) = Rn (d + 11) M_La_law K X 1680 [vR (some [-3]), vR (some [1]), vR (some [2]), vR (some [18]), vI i, vI k, u6] [] (ty, ln, pJ I J', R, c, w) := by
  have h0 := hM.1
  simp (disch := first | omega | assumption | rfl) only [b_La_law_727, b_La_law_739, b_La_law_743, hm, m_thrown hM, hk, y1, Option.toList_some, Option.toList_none, List.cons_append, List.nil_append, ↓if_pos, ↓if_neg, ↓and_t, ↓ex_some, pJ_s, pJ_18, true_and, and_true, not_true_eq_false, not_false_eq_true, if_true, if_false, or_true, true_or, w32_id, ite_self, Int.add_zero]
theorem w_harm {d : Nat} {K : Kt} {X : Xt} {ty : Nm → Nat} {ln : Nm → Int} {R : Nm → Int → Option Nm} {c w : Nat} {I : Nm → Int → Int} {x1 x2 x3 x4 x5 : Int} (h1 : ty [1] = 100) (z : Mth (d + 10) M_FB_harm [vR (some [1]), vI x1, vI x2, vI x3, vI x4, vI x5] (ty, ln, I, R, c, w) (kB K) (xV K)) : Mth (d + 11) M_La_harm [vR (some [1]), vI x1, vI x2, vI x3, vI x4, vI x5, vR (some [18])] (ty, ln, I, R, c, w) K X := by
  rw [in_La_harm, b_La_harm_0, and_t h1]
  refine Mth_mono _ _ _ _ _ _ _ _ ?_ ?_ z
  · rintro v ⟨ty', ln', I', R', c', w'⟩ ⟨y, rfl, yb, ⟨t1, t2⟩, k⟩
    show Rn (d + 10) M_La_harm K X 14 [vR (some [1]), vI x1, vI x2, vI x3, vI x4, vI x5, vR (some [18]), vJ] [vI y, vI 0, vR (some [18])] (ty', ln', I', R', c', w')
    have t2' : (0 : Int) < ln' [18] := by rw [show ln' [18] = 1 from t2]; decide
    rcases yb with rfl | rfl
    · rw [b_La_harm_14, if_pos rfl, b_La_harm_22, ex_some, and_t ⟨t1, rfl, Int.le_refl _, t2'⟩]
      exact k
    · rw [b_La_harm_14, if_neg (by decide), b_La_harm_22, ex_some, and_t ⟨t1, rfl, Int.le_refl _, t2'⟩]
      exact k
  · rintro k h ⟨rfl, k⟩
    rw [thr_1 rfl rfl (by decide) (by decide), b_La_harm_26]
    exact k
theorem t_harm {d : Nat} {K : Kt} {X : Xt} {ty : Nm → Nat} {ln : Nm → Int} {R : Nm → Int → Option Nm} {c w : Nat} {J J' : Int → Int → Int} {I : Nm → Int → Int} {i k v x1 x2 x3 x4 x5 : Int} {u5 u6 : Vl} (q5 : isLg u5 = false) (q6 : isLg u6 = false) (hS : ty [-3] = 20 ∧ 0 ≤ i ∧ i + 6 ≤ ln [-3] ∧ ln [-3] ≤ 3072) (hM : MOk ty ln R) (h18 : ty [18] = 3 ∧ ln [18] = 1) (y1 : I [-3] (i + 1) = x1) (y2 : I [-3] (i + 2) = x2) (y3 : I [-3] (i + 3) = x3) (y4 : I [-3] (i + 4) = x4) (y5 : I [-3] (i + 5) = x5) (hm : ∀ (K' : Kt) (X' : Xt), Mth (d + 11) M_Mo_harm [vR (some [2]), vI x1, vI x2, vI x3, vI x4, vI x5] (ty, ln, pJ I J, R, c, w) K' X' = K' (some (vI v)) (ty, ln, pJ I J', R, c, w)) (hk : J' (-1) 0 = k) (hv : k = 0 → I [18] 0 = v ∧ (v = 0 ∨ v = 1)) : Rn (d + 11) M_La_law K X 788 [vR (some [-3]), vR (some [1]), vR (some [2]), vR (some [18]), vI i, u5, u6] [vI k] (ty, ln, pJ I J, R, c, w) = Rn (d + 11) M_La_law K X 1680 [vR (some [-3]), vR (some [1]), vR (some [2]), vR (some [18]), vI i, vI k, vI v] [] (ty, ln, pJ I J', R, c, w) := by
  have h0 := hM.1
  by_cases q : k = 0
  · obtain ⟨e, eb⟩ := hv q
    rcases eb with rfl | rfl
    · simp (disch := first | omega | assumption | rfl) only [b_La_law_788, b_La_law_824, b_La_law_830, b_La_law_855, b_La_law_861, hm, m_thrown hM, hk, y1, y2, y3, y4, y5, e, cmp64_self, Option.toList_some, Option.toList_none, List.cons_append, List.nil_append, ↓if_pos, ↓if_neg, ↓and_t, ↓ex_some, pJ_s, pJ_18, true_and, and_true, not_true_eq_false, not_false_eq_true, if_true, if_false, or_true, true_or, w32_id, ite_self, Int.add_zero]
    · simp (disch := first | omega | assumption | rfl) only [b_La_law_788, b_La_law_824, b_La_law_830, b_La_law_855, b_La_law_861, hm, m_thrown hM, hk, y1, y2, y3, y4, y5, e, cmp64_self, Option.toList_some, Option.toList_none, List.cons_append, List.nil_append, ↓if_pos, ↓if_neg, ↓and_t, ↓ex_some, pJ_s, pJ_18, true_and, and_true, not_true_eq_false, not_false_eq_true, if_true, if_false, or_true, true_or, w32_id, ite_self, Int.add_zero]
  · simp (disch := first | omega | assumption | rfl) only [b_La_law_788, b_La_law_824, b_La_law_830, b_La_law_855, b_La_law_861, hm, m_thrown hM, hk, y1, y2, y3, y4, y5, Option.toList_some, Option.toList_none, List.cons_append, List.nil_append, ↓if_pos, ↓if_neg, ↓and_t, ↓ex_some, pJ_s, pJ_18, true_and, and_true, not_true_eq_false, not_false_eq_true, if_true, if_false, or_true, true_or, w32_id, ite_self, Int.add_zero]
theorem w_recover {d : Nat} {K : Kt} {X : Xt} {ty : Nm → Nat} {ln : Nm → Int} {R : Nm → Int → Option Nm} {c w : Nat} {I : Nm → Int → Int} {x1 : Int} (h1 : ty [1] = 100) (z : Mth (d + 10) M_FB_recover [vR (some [1]), vI x1] (ty, ln, I, R, c, w) (kB K) (xV K)) : Mth (d + 11) M_La_recover [vR (some [1]), vI x1, vR (some [18])] (ty, ln, I, R, c, w) K X := by
  rw [in_La_recover, b_La_recover_0, and_t h1]
  refine Mth_mono _ _ _ _ _ _ _ _ ?_ ?_ z
  · rintro v ⟨ty', ln', I', R', c', w'⟩ ⟨y, rfl, yb, ⟨t1, t2⟩, k⟩
    show Rn (d + 10) M_La_recover K X 7 [vR (some [1]), vI x1, vR (some [18]), vJ] [vI y, vI 0, vR (some [18])] (ty', ln', I', R', c', w')
    have t2' : (0 : Int) < ln' [18] := by rw [show ln' [18] = 1 from t2]; decide
    rcases yb with rfl | rfl
    · rw [b_La_recover_7, if_pos rfl, b_La_recover_15, ex_some, and_t ⟨t1, rfl, Int.le_refl _, t2'⟩]
      exact k
    · rw [b_La_recover_7, if_neg (by decide), b_La_recover_15, ex_some, and_t ⟨t1, rfl, Int.le_refl _, t2'⟩]
      exact k
  · rintro k h ⟨rfl, k⟩
    rw [thr_1 rfl rfl (by decide) (by decide), b_La_recover_19]
    exact k
theorem t_recover {d : Nat} {K : Kt} {X : Xt} {ty : Nm → Nat} {ln : Nm → Int} {R : Nm → Int → Option Nm} {c w : Nat} {J J' : Int → Int → Int} {I : Nm → Int → Int} {i k v x1 : Int} {u5 u6 : Vl} (q5 : isLg u5 = false) (q6 : isLg u6 = false) (hS : ty [-3] = 20 ∧ 0 ≤ i ∧ i + 6 ≤ ln [-3] ∧ ln [-3] ≤ 3072) (hM : MOk ty ln R) (h18 : ty [18] = 3 ∧ ln [18] = 1) (y1 : I [-3] (i + 1) = x1) (hm : ∀ (K' : Kt) (X' : Xt), Mth (d + 11) M_Mo_recover [vR (some [2]), vI x1] (ty, ln, pJ I J, R, c, w) K' X' = K' (some (vI v)) (ty, ln, pJ I J', R, c, w)) (hk : J' (-1) 0 = k) (hv : k = 0 → I [18] 0 = v ∧ (v = 0 ∨ v = 1)) : Rn (d + 11) M_La_law K X 875 [vR (some [-3]), vR (some [1]), vR (some [2]), vR (some [18]), vI i, u5, u6] [vI k] (ty, ln, pJ I J, R, c, w) = Rn (d + 11) M_La_law K X 1680 [vR (some [-3]), vR (some [1]), vR (some [2]), vR (some [18]), vI i, vI k, vI v] [] (ty, ln, pJ I J', R, c, w) := by
  have h0 := hM.1
  by_cases q : k = 0
  · obtain ⟨e, eb⟩ := hv q
    rcases eb with rfl | rfl
    · simp (disch := first | omega | assumption | rfl) only [b_La_law_875, b_La_law_887, b_La_law_893, b_La_law_918, b_La_law_924, hm, m_thrown hM, hk, y1, e, cmp64_self, Option.toList_some, Option.toList_none, List.cons_append, List.nil_append, ↓if_pos, ↓if_neg, ↓and_t, ↓ex_some, pJ_s, pJ_18, true_and, and_true, not_true_eq_false, not_false_eq_true, if_true, if_false, or_true, true_or, w32_id, ite_self, Int.add_zero]
    · simp (disch := first | omega | assumption | rfl) only [b_La_law_875, b_La_law_887, b_La_law_893, b_La_law_918, b_La_law_924, hm, m_thrown hM, hk, y1, e, cmp64_self, Option.toList_some, Option.toList_none, List.cons_append, List.nil_append, ↓if_pos, ↓if_neg, ↓and_t, ↓ex_some, pJ_s, pJ_18, true_and, and_true, not_true_eq_false, not_false_eq_true, if_true, if_false, or_true, true_or, w32_id, ite_self, Int.add_zero]
  · simp (disch := first | omega | assumption | rfl) only [b_La_law_875, b_La_law_887, b_La_law_893, b_La_law_918, b_La_law_924, hm, m_thrown hM, hk, y1, Option.toList_some, Option.toList_none, List.cons_append, List.nil_append, ↓if_pos, ↓if_neg, ↓and_t, ↓ex_some, pJ_s, pJ_18, true_and, and_true, not_true_eq_false, not_false_eq_true, if_true, if_false, or_true, true_or, w32_id, ite_self, Int.add_zero]
theorem w_sample {d : Nat} {K : Kt} {X : Xt} {ty : Nm → Nat} {ln : Nm → Int} {R : Nm → Int → Option Nm} {c w : Nat} {I : Nm → Int → Int} {x1 x2 x3 : Int} (h1 : ty [1] = 100) (z : Mth (d + 10) M_FB_sample [vR (some [1]), vI x1, vI x2, vI x3] (ty, ln, I, R, c, w) (kW K) (xW K)) : Mth (d + 11) M_La_sample [vR (some [1]), vI x1, vI x2, vI x3, vR (some [18])] (ty, ln, I, R, c, w) K X := by
  rw [in_La_sample, b_La_sample_0, and_t h1]
  refine Mth_mono _ _ _ _ _ _ _ _ ?_ ?_ z
  · rintro v ⟨ty', ln', I', R', c', w'⟩ ⟨y, rfl, ⟨t1, t2⟩, k⟩
    show Rn (d + 10) M_La_sample K X 10 [vR (some [1]), vI x1, vI x2, vI x3, vR (some [18]), vJ] [vI y, vI 0, vR (some [18])] (ty', ln', I', R', c', w')
    have t2' : (0 : Int) < ln' [18] := by rw [show ln' [18] = 1 from t2]; decide
    rw [b_La_sample_10, ex_some, and_t ⟨t1, rfl, Int.le_refl _, t2'⟩]
    exact k
  · rintro k h (⟨rfl, k⟩ | ⟨rfl, k⟩)
    · rw [thr_21 rfl rfl (by decide) (by decide) (by decide) (by decide), b_La_sample_15]
      exact k
    · rw [thr_22 rfl rfl (by decide) (by decide) (by decide) (by decide), b_La_sample_19]
      exact k
theorem t_sample {d : Nat} {K : Kt} {X : Xt} {ty : Nm → Nat} {ln : Nm → Int} {R : Nm → Int → Option Nm} {c w : Nat} {J J' : Int → Int → Int} {I : Nm → Int → Int} {i k v x1 x2 x3 : Int} {u5 u6 : Vl} (q5 : isLg u5 = false) (q6 : isLg u6 = false) (hS : ty [-3] = 20 ∧ 0 ≤ i ∧ i + 6 ≤ ln [-3] ∧ ln [-3] ≤ 3072) (hM : MOk ty ln R) (h18 : ty [18] = 3 ∧ ln [18] = 1) (y1 : I [-3] (i + 1) = x1) (y2 : I [-3] (i + 2) = x2) (y3 : I [-3] (i + 3) = x3) (hm : ∀ (K' : Kt) (X' : Xt), Mth (d + 11) M_Mo_sample [vR (some [2]), vI x1, vI x2, vI x3] (ty, ln, pJ I J, R, c, w) K' X' = K' (some (vI v)) (ty, ln, pJ I J', R, c, w)) (hk : J' (-1) 0 = k) (hv : k = 0 → I [18] 0 = v) : Rn (d + 11) M_La_law K X 950 [vR (some [-3]), vR (some [1]), vR (some [2]), vR (some [18]), vI i, u5, u6] [vI k] (ty, ln, pJ I J, R, c, w) = Rn (d + 11) M_La_law K X 1680 [vR (some [-3]), vR (some [1]), vR (some [2]), vR (some [18]), vI i, vI k, vI v] [] (ty, ln, pJ I J', R, c, w) := by
  have h0 := hM.1
  by_cases q : k = 0
  · have e := hv q
    simp (disch := first | omega | assumption | rfl) only [b_La_law_950, b_La_law_974, b_La_law_980, b_La_law_1004, hm, m_thrown hM, hk, y1, y2, y3, e, cmp64_self, Option.toList_some, Option.toList_none, List.cons_append, List.nil_append, ↓if_pos, ↓if_neg, ↓and_t, ↓ex_some, pJ_s, pJ_18, true_and, and_true, not_true_eq_false, not_false_eq_true, if_true, if_false, or_true, true_or, w32_id, ite_self, Int.add_zero]
  · simp (disch := first | omega | assumption | rfl) only [b_La_law_950, b_La_law_974, b_La_law_980, b_La_law_1004, hm, m_thrown hM, hk, y1, y2, y3, Option.toList_some, Option.toList_none, List.cons_append, List.nil_append, ↓if_pos, ↓if_neg, ↓and_t, ↓ex_some, pJ_s, pJ_18, true_and, and_true, not_true_eq_false, not_false_eq_true, if_true, if_false, or_true, true_or, w32_id, ite_self, Int.add_zero]
theorem w_audit {d : Nat} {K : Kt} {X : Xt} {ty : Nm → Nat} {ln : Nm → Int} {R : Nm → Int → Option Nm} {c w : Nat} {I : Nm → Int → Int} {x1 : Int} (h1 : ty [1] = 100) (z : Mth (d + 10) M_FB_audit [vR (some [1]), vI x1] (ty, ln, I, R, c, w) (kW K) (xW K)) : Mth (d + 11) M_La_audit [vR (some [1]), vI x1, vR (some [18])] (ty, ln, I, R, c, w) K X := by
  rw [in_La_audit, b_La_audit_0, and_t h1]
  refine Mth_mono _ _ _ _ _ _ _ _ ?_ ?_ z
  · rintro v ⟨ty', ln', I', R', c', w'⟩ ⟨y, rfl, ⟨t1, t2⟩, k⟩
    show Rn (d + 10) M_La_audit K X 7 [vR (some [1]), vI x1, vR (some [18]), vJ] [vI y, vI 0, vR (some [18])] (ty', ln', I', R', c', w')
    have t2' : (0 : Int) < ln' [18] := by rw [show ln' [18] = 1 from t2]; decide
    rw [b_La_audit_7, ex_some, and_t ⟨t1, rfl, Int.le_refl _, t2'⟩]
    exact k
  · rintro k h (⟨rfl, k⟩ | ⟨rfl, k⟩)
    · rw [thr_21 rfl rfl (by decide) (by decide) (by decide) (by decide), b_La_audit_12]
      exact k
    · rw [thr_22 rfl rfl (by decide) (by decide) (by decide) (by decide), b_La_audit_15]
      exact k
theorem t_audit {d : Nat} {K : Kt} {X : Xt} {ty : Nm → Nat} {ln : Nm → Int} {R : Nm → Int → Option Nm} {c w : Nat} {J J' : Int → Int → Int} {I : Nm → Int → Int} {i k v x1 : Int} {u5 u6 : Vl} (q5 : isLg u5 = false) (q6 : isLg u6 = false) (hS : ty [-3] = 20 ∧ 0 ≤ i ∧ i + 6 ≤ ln [-3] ∧ ln [-3] ≤ 3072) (hM : MOk ty ln R) (h18 : ty [18] = 3 ∧ ln [18] = 1) (y1 : I [-3] (i + 1) = x1) (hm : ∀ (K' : Kt) (X' : Xt), Mth (d + 11) M_Mo_audit [vR (some [2]), vI x1] (ty, ln, pJ I J, R, c, w) K' X' = K' (some (vI v)) (ty, ln, pJ I J', R, c, w)) (hk : J' (-1) 0 = k) (hv : k = 0 → I [18] 0 = v) : Rn (d + 11) M_La_law K X 1018 [vR (some [-3]), vR (some [1]), vR (some [2]), vR (some [18]), vI i, u5, u6] [vI k] (ty, ln, pJ I J, R, c, w) = Rn (d + 11) M_La_law K X 1680 [vR (some [-3]), vR (some [1]), vR (some [2]), vR (some [18]), vI i, vI k, vI v] [] (ty, ln, pJ I J', R, c, w) := by
  have h0 := hM.1
  by_cases q : k = 0
  · have e := hv q
    simp (disch := first | omega | assumption | rfl) only [b_La_law_1018, b_La_law_1030, b_La_law_1036, b_La_law_1060, hm, m_thrown hM, hk, y1, e, cmp64_self, Option.toList_some, Option.toList_none, List.cons_append, List.nil_append, ↓if_pos, ↓if_neg, ↓and_t, ↓ex_some, pJ_s, pJ_18, true_and, and_true, not_true_eq_false, not_false_eq_true, if_true, if_false, or_true, true_or, w32_id, ite_self, Int.add_zero]
  · simp (disch := first | omega | assumption | rfl) only [b_La_law_1018, b_La_law_1030, b_La_law_1036, b_La_law_1060, hm, m_thrown hM, hk, y1, Option.toList_some, Option.toList_none, List.cons_append, List.nil_append, ↓if_pos, ↓if_neg, ↓and_t, ↓ex_some, pJ_s, pJ_18, true_and, and_true, not_true_eq_false, not_false_eq_true, if_true, if_false, or_true, true_or, w32_id, ite_self, Int.add_zero]
theorem w_repair {d : Nat} {K : Kt} {X : Xt} {ty : Nm → Nat} {ln : Nm → Int} {R : Nm → Int → Option Nm} {c w : Nat} {I : Nm → Int → Int} {x1 : Int} (h1 : ty [1] = 100) (z : Mth (d + 10) M_FB_repair [vR (some [1]), vI x1] (ty, ln, I, R, c, w) (kW K) (xW K)) : Mth (d + 11) M_La_repair [vR (some [1]), vI x1, vR (some [18])] (ty, ln, I, R, c, w) K X := by
  rw [in_La_repair, b_La_repair_0, and_t h1]
  refine Mth_mono _ _ _ _ _ _ _ _ ?_ ?_ z
  · rintro v ⟨ty', ln', I', R', c', w'⟩ ⟨y, rfl, ⟨t1, t2⟩, k⟩
    show Rn (d + 10) M_La_repair K X 7 [vR (some [1]), vI x1, vR (some [18]), vJ] [vI y, vI 0, vR (some [18])] (ty', ln', I', R', c', w')
    have t2' : (0 : Int) < ln' [18] := by rw [show ln' [18] = 1 from t2]; decide
    rw [b_La_repair_7, ex_some, and_t ⟨t1, rfl, Int.le_refl _, t2'⟩]
    exact k
  · rintro k h (⟨rfl, k⟩ | ⟨rfl, k⟩)
    · rw [thr_21 rfl rfl (by decide) (by decide) (by decide) (by decide), b_La_repair_12]
      exact k
    · rw [thr_22 rfl rfl (by decide) (by decide) (by decide) (by decide), b_La_repair_15]
      exact k
theorem t_repair {d : Nat} {K : Kt} {X : Xt} {ty : Nm → Nat} {ln : Nm → Int} {R : Nm → Int → Option Nm} {c w : Nat} {J J' : Int → Int → Int} {I : Nm → Int → Int} {i k v x1 : Int} {u5 u6 : Vl} (q5 : isLg u5 = false) (q6 : isLg u6 = false) (hS : ty [-3] = 20 ∧ 0 ≤ i ∧ i + 6 ≤ ln [-3] ∧ ln [-3] ≤ 3072) (hM : MOk ty ln R) (h18 : ty [18] = 3 ∧ ln [18] = 1) (y1 : I [-3] (i + 1) = x1) (hm : ∀ (K' : Kt) (X' : Xt), Mth (d + 11) M_Mo_repair [vR (some [2]), vI x1] (ty, ln, pJ I J, R, c, w) K' X' = K' (some (vI v)) (ty, ln, pJ I J', R, c, w)) (hk : J' (-1) 0 = k) (hv : k = 0 → I [18] 0 = v) : Rn (d + 11) M_La_law K X 1074 [vR (some [-3]), vR (some [1]), vR (some [2]), vR (some [18]), vI i, u5, u6] [vI k] (ty, ln, pJ I J, R, c, w) = Rn (d + 11) M_La_law K X 1680 [vR (some [-3]), vR (some [1]), vR (some [2]), vR (some [18]), vI i, vI k, vI v] [] (ty, ln, pJ I J', R, c, w) := by
  have h0 := hM.1
  by_cases q : k = 0
  · have e := hv q
    simp (disch := first | omega | assumption | rfl) only [b_La_law_1074, b_La_law_1086, b_La_law_1092, b_La_law_1116, hm, m_thrown hM, hk, y1, e, cmp64_self, Option.toList_some, Option.toList_none, List.cons_append, List.nil_append, ↓if_pos, ↓if_neg, ↓and_t, ↓ex_some, pJ_s, pJ_18, true_and, and_true, not_true_eq_false, not_false_eq_true, if_true, if_false, or_true, true_or, w32_id, ite_self, Int.add_zero]
  · simp (disch := first | omega | assumption | rfl) only [b_La_law_1074, b_La_law_1086, b_La_law_1092, b_La_law_1116, hm, m_thrown hM, hk, y1, Option.toList_some, Option.toList_none, List.cons_append, List.nil_append, ↓if_pos, ↓if_neg, ↓and_t, ↓ex_some, pJ_s, pJ_18, true_and, and_true, not_true_eq_false, not_false_eq_true, if_true, if_false, or_true, true_or, w32_id, ite_self, Int.add_zero]
theorem w_restore {d : Nat} {K : Kt} {X : Xt} {ty : Nm → Nat} {ln : Nm → Int} {R : Nm → Int → Option Nm} {c w : Nat} {I : Nm → Int → Int} {x1 x2 x3 : Int} (h1 : ty [1] = 100) (z : Mth (d + 10) M_FB_restore [vR (some [1]), vI x1, vI x2, vI x3] (ty, ln, I, R, c, w) (kW K) (xW K)) : Mth (d + 11) M_La_restore [vR (some [1]), vI x1, vI x2, vI x3, vR (some [18])] (ty, ln, I, R, c, w) K X := by
  rw [in_La_restore, b_La_restore_0, and_t h1]
  refine Mth_mono _ _ _ _ _ _ _ _ ?_ ?_ z
  · rintro v ⟨ty', ln', I', R', c', w'⟩ ⟨y, rfl, ⟨t1, t2⟩, k⟩
    show Rn (d + 10) M_La_restore K X 10 [vR (some [1]), vI x1, vI x2, vI x3, vR (some [18]), vJ] [vI y, vI 0, vR (some [18])] (ty', ln', I', R', c', w')
    have t2' : (0 : Int) < ln' [18] := by rw [show ln' [18] = 1 from t2]; decide
    rw [b_La_restore_10, ex_some, and_t ⟨t1, rfl, Int.le_refl _, t2'⟩]
    exact k
  · rintro k h (⟨rfl, k⟩ | ⟨rfl, k⟩)
    · rw [thr_21 rfl rfl (by decide) (by decide) (by decide) (by decide), b_La_restore_15]
      exact k
    · rw [thr_22 rfl rfl (by decide) (by decide) (by decide) (by decide), b_La_restore_19]
      exact k
theorem t_restore {d : Nat} {K : Kt} {X : Xt} {ty : Nm → Nat} {ln : Nm → Int} {R : Nm → Int → Option Nm} {c w : Nat} {J J' : Int → Int → Int} {I : Nm → Int → Int} {i k v x1 x2 x3 : Int} {u5 u6 : Vl} (q5 : isLg u5 = false) (q6 : isLg u6 = false) (hS : ty [-3] = 20 ∧ 0 ≤ i ∧ i + 6 ≤ ln [-3] ∧ ln [-3] ≤ 3072) (hM : MOk ty ln R) (h18 : ty [18] = 3 ∧ ln [18] = 1) (y1 : I [-3] (i + 1) = x1) (y2 : I [-3] (i + 2) = x2) (y3 : I [-3] (i + 3) = x3) (hm : ∀ (K' : Kt) (X' : Xt), Mth (d + 11) M_Mo_restore [vR (some [2]), vI x1, vI x2, vI x3] (ty, ln, pJ I J, R, c, w) K' X' = K' (some (vI v)) (ty, ln, pJ I J', R, c, w)) (hk : J' (-1) 0 = k) (hv : k = 0 → I [18] 0 = v) : Rn (d + 11) M_La_law K X 1142 [vR (some [-3]), vR (some [1]), vR (some [2]), vR (some [18]), vI i, u5, u6] [vI k] (ty, ln, pJ I J, R, c, w) = Rn (d + 11) M_La_law K X 1680 [vR (some [-3]), vR (some [1]), vR (some [2]), vR (some [18]), vI i, vI k, vI v] [] (ty, ln, pJ I J', R, c, w) := by
  have h0 := hM.1
  by_cases q : k = 0
  · have e := hv q
    simp (disch := first | omega | assumption | rfl) only [b_La_law_1142, b_La_law_1166, b_La_law_1172, b_La_law_1196, hm, m_thrown hM, hk, y1, y2, y3, e, cmp64_self, Option.toList_some, Option.toList_none, List.cons_append, List.nil_append, ↓if_pos, ↓if_neg, ↓and_t, ↓ex_some, pJ_s, pJ_18, true_and, and_true, not_true_eq_false, not_false_eq_true, if_true, if_false, or_true, true_or, w32_id, ite_self, Int.add_zero]
  · simp (disch := first | omega | assumption | rfl) only [b_La_law_1142, b_La_law_1166, b_La_law_1172, b_La_law_1196, hm, m_thrown hM, hk, y1, y2, y3, Option.toList_some, Option.toList_none, List.cons_append, List.nil_append, ↓if_pos, ↓if_neg, ↓and_t, ↓ex_some, pJ_s, pJ_18, true_and, and_true, not_true_eq_false, not_false_eq_true, if_true, if_false, or_true, true_or, w32_id, ite_self, Int.add_zero]
theorem w_forget {d : Nat} {K : Kt} {X : Xt} {ty : Nm → Nat} {ln : Nm → Int} {R : Nm → Int → Option Nm} {c w : Nat} {I : Nm → Int → Int} {x1 x2 : Int} (h1 : ty [1] = 100) (z : Mth (d + 10) M_FB_forget [vR (some [1]), vI x1, vI x2] (ty, ln, I, R, c, w) (kW K) (xW K)) : Mth (d + 11) M_La_forget [vR (some [1]), vI x1, vI x2, vR (some [18])] (ty, ln, I, R, c, w) K X := by
  rw [in_La_forget, b_La_forget_0, and_t h1]
  refine Mth_mono _ _ _ _ _ _ _ _ ?_ ?_ z
  · rintro v ⟨ty', ln', I', R', c', w'⟩ ⟨y, rfl, ⟨t1, t2⟩, k⟩
    show Rn (d + 10) M_La_forget K X 8 [vR (some [1]), vI x1, vI x2, vR (some [18]), vJ] [vI y, vI 0, vR (some [18])] (ty', ln', I', R', c', w')
    have t2' : (0 : Int) < ln' [18] := by rw [show ln' [18] = 1 from t2]; decide
    rw [b_La_forget_8, ex_some, and_t ⟨t1, rfl, Int.le_refl _, t2'⟩]
    exact k
  · rintro k h (⟨rfl, k⟩ | ⟨rfl, k⟩)
    · rw [thr_21 rfl rfl (by decide) (by decide) (by decide) (by decide), b_La_forget_13]
      exact k
    · rw [thr_22 rfl rfl (by decide) (by decide) (by decide) (by decide), b_La_forget_17]
      exact k
theorem t_forget {d : Nat} {K : Kt} {X : Xt} {ty : Nm → Nat} {ln : Nm → Int} {R : Nm → Int → Option Nm} {c w : Nat} {J J' : Int → Int → Int} {I : Nm → Int → Int} {i k v x1 x2 : Int} {u5 u6 : Vl} (q5 : isLg u5 = false) (q6 : isLg u6 = false) (hS : ty [-3] = 20 ∧ 0 ≤ i ∧ i + 6 ≤ ln [-3] ∧ ln [-3] ≤ 3072) (hM : MOk ty ln R) (h18 : ty [18] = 3 ∧ ln [18] = 1) (y1 : I [-3] (i + 1) = x1) (y2 : I [-3] (i + 2) = x2) (hm : ∀ (K' : Kt) (X' : Xt), Mth (d + 11) M_Mo_forget [vR (some [2]), vI x1, vI x2] (ty, ln, pJ I J, R, c, w) K' X' = K' (some (vI v)) (ty, ln, pJ I J', R, c, w)) (hk : J' (-1) 0 = k) (hv : k = 0 → I [18] 0 = v) : Rn (d + 11) M_La_law K X 1241 [vR (some [-3]), vR (some [1]), vR (some [2]), vR (some [18]), vI i, u5, u6] [vI k] (ty, ln, pJ I J, R, c, w) = Rn (d + 11) M_La_law K X 1680 [vR (some [-3]), vR (some [1]), vR (some [2]), vR (some [18]), vI i, vI k, vI v] [] (ty, ln, pJ I J', R, c, w) := by
  have h0 := hM.1
  by_cases q : k = 0
  · have e := hv q
    simp (disch := first | omega | assumption | rfl) only [b_La_law_1241, b_La_law_1259, b_La_law_1265, b_La_law_1289, hm, m_thrown hM, hk, y1, y2, e, cmp64_self, Option.toList_some, Option.toList_none, List.cons_append, List.nil_append, ↓if_pos, ↓if_neg, ↓and_t, ↓ex_some, pJ_s, pJ_18, true_and, and_true, not_true_eq_false, not_false_eq_true, if_true, if_false, or_true, true_or, w32_id, ite_self, Int.add_zero]
  · simp (disch := first | omega | assumption | rfl) only [b_La_law_1241, b_La_law_1259, b_La_law_1265, b_La_law_1289, hm, m_thrown hM, hk, y1, y2, Option.toList_some, Option.toList_none, List.cons_append, List.nil_append, ↓if_pos, ↓if_neg, ↓and_t, ↓ex_some, pJ_s, pJ_18, true_and, and_true, not_true_eq_false, not_false_eq_true, if_true, if_false, or_true, true_or, w32_id, ite_self, Int.add_zero]
theorem w_health {d : Nat} {K : Kt} {X : Xt} {ty : Nm → Nat} {ln : Nm → Int} {R : Nm → Int → Option Nm} {c w : Nat} {I : Nm → Int → Int} {x1 x2 : Int} (h1 : ty [1] = 100) (z : Mth (d + 10) M_FB_health [vR (some [1]), vI x1, vI x2] (ty, ln, I, R, c, w) (kW K) (xV K)) : Mth (d + 11) M_La_health [vR (some [1]), vI x1, vI x2, vR (some [18])] (ty, ln, I, R, c, w) K X := by
  rw [in_La_health, b_La_health_0, and_t h1]
  refine Mth_mono _ _ _ _ _ _ _ _ ?_ ?_ z
  · rintro v ⟨ty', ln', I', R', c', w'⟩ ⟨y, rfl, ⟨t1, t2⟩, k⟩
    show Rn (d + 10) M_La_health K X 8 [vR (some [1]), vI x1, vI x2, vR (some [18]), vJ] [vI y, vI 0, vR (some [18])] (ty', ln', I', R', c', w')
    have t2' : (0 : Int) < ln' [18] := by rw [show ln' [18] = 1 from t2]; decide
    rw [b_La_health_8, ex_some, and_t ⟨t1, rfl, Int.le_refl _, t2'⟩]
    exact k
  · rintro k h ⟨rfl, k⟩
    rw [thr_1 rfl rfl (by decide) (by decide), b_La_health_13]
    exact k
theorem t_health {d : Nat} {K : Kt} {X : Xt} {ty : Nm → Nat} {ln : Nm → Int} {R : Nm → Int → Option Nm} {c w : Nat} {J J' : Int → Int → Int} {I : Nm → Int → Int} {i k v x1 x2 : Int} {u5 u6 : Vl} (q5 : isLg u5 = false) (q6 : isLg u6 = false) (hS : ty [-3] = 20 ∧ 0 ≤ i ∧ i + 6 ≤ ln [-3] ∧ ln [-3] ≤ 3072) (hM : MOk ty ln R) (h18 : ty [18] = 3 ∧ ln [18] = 1) (y1 : I [-3] (i + 1) = x1) (y2 : I [-3] (i + 2) = x2) (hm : ∀ (K' : Kt) (X' : Xt), Mth (d + 11) M_Mo_health [vR (some [2]), vI x1, vI x2] (ty, ln, pJ I J, R, c, w) K' X' = K' (some (vI v)) (ty, ln, pJ I J', R, c, w)) (hk : J' (-1) 0 = k) (hv : k = 0 → I [18] 0 = v) : Rn (d + 11) M_La_law K X 1309 [vR (some [-3]), vR (some [1]), vR (some [2]), vR (some [18]), vI i, u5, u6] [vI k] (ty, ln, pJ I J, R, c, w) = Rn (d + 11) M_La_law K X 1680 [vR (some [-3]), vR (some [1]), vR (some [2]), vR (some [18]), vI i, vI k, vI v] [] (ty, ln, pJ I J', R, c, w) := by
  have h0 := hM.1
  by_cases q : k = 0
  · have e := hv q
    simp (disch := first | omega | assumption | rfl) only [b_La_law_1309, b_La_law_1327, b_La_law_1333, b_La_law_1357, hm, m_thrown hM, hk, y1, y2, e, cmp64_self, Option.toList_some, Option.toList_none, List.cons_append, List.nil_append, ↓if_pos, ↓if_neg, ↓and_t, ↓ex_some, pJ_s, pJ_18, true_and, and_true, not_true_eq_false, not_false_eq_true, if_true, if_false, or_true, true_or, w32_id, ite_self, Int.add_zero]
  · simp (disch := first | omega | assumption | rfl) only [b_La_law_1309, b_La_law_1327, b_La_law_1333, b_La_law_1357, hm, m_thrown hM, hk, y1, y2, Option.toList_some, Option.toList_none, List.cons_append, List.nil_append, ↓if_pos, ↓if_neg, ↓and_t, ↓ex_some, pJ_s, pJ_18, true_and, and_true, not_true_eq_false, not_false_eq_true, if_true, if_false, or_true, true_or, w32_id, ite_self, Int.add_zero]
theorem w_keeper {d : Nat} {K : Kt} {X : Xt} {ty : Nm → Nat} {ln : Nm → Int} {R : Nm → Int → Option Nm} {c w : Nat} {I : Nm → Int → Int} {x1 x2 x3 : Int} (h1 : ty [1] = 100) (z : Mth (d + 10) M_FB_keeper [vR (some [1]), vI x1, vI x2, vI x3] (ty, ln, I, R, c, w) (kW K) (xV K)) : Mth (d + 11) M_La_keeper [vR (some [1]), vI x1, vI x2, vI x3, vR (some [18])] (ty, ln, I, R, c, w) K X := by
  rw [in_La_keeper, b_La_keeper_0, and_t h1]
  refine Mth_mono _ _ _ _ _ _ _ _ ?_ ?_ z
  · rintro v ⟨ty', ln', I', R', c', w'⟩ ⟨y, rfl, ⟨t1, t2⟩, k⟩
    show Rn (d + 10) M_La_keeper K X 10 [vR (some [1]), vI x1, vI x2, vI x3, vR (some [18]), vJ] [vI y, vI 0, vR (some [18])] (ty', ln', I', R', c', w')
    have t2' : (0 : Int) < ln' [18] := by rw [show ln' [18] = 1 from t2]; decide
    rw [b_La_keeper_10, ex_some, and_t ⟨t1, rfl, Int.le_refl _, t2'⟩]
    exact k
  · rintro k h ⟨rfl, k⟩
    rw [thr_1 rfl rfl (by decide) (by decide), b_La_keeper_15]
    exact k
theorem t_keeper {d : Nat} {K : Kt} {X : Xt} {ty : Nm → Nat} {ln : Nm → Int} {R : Nm → Int → Option Nm} {c w : Nat} {J J' : Int → Int → Int} {I : Nm → Int → Int} {i k v x1 x2 x3 : Int} {u5 u6 : Vl} (q5 : isLg u5 = false) (q6 : isLg u6 = false) (hS : ty [-3] = 20 ∧ 0 ≤ i ∧ i + 6 ≤ ln [-3] ∧ ln [-3] ≤ 3072) (hM : MOk ty ln R) (h18 : ty [18] = 3 ∧ ln [18] = 1) (y1 : I [-3] (i + 1) = x1) (y2 : I [-3] (i + 2) = x2) (y3 : I [-3] (i + 3) = x3) (hm : ∀ (K' : Kt) (X' : Xt), Mth (d + 11) M_Mo_keeper [vR (some [2]), vI x1, vI x2, vI x3] (ty, ln, pJ I J, R, c, w) K' X' = K' (some (vI v)) (ty, ln, pJ I J', R, c, w)) (hk : J' (-1) 0 = k) (hv : k = 0 → I [18] 0 = v) : Rn (d + 11) M_La_law K X 1383 [vR (some [-3]), vR (some [1]), vR (some [2]), vR (some [18]), vI i, u5, u6] [vI k] (ty, ln, pJ I J, R, c, w) = Rn (d + 11) M_La_law K X 1680 [vR (some [-3]), vR (some [1]), vR (some [2]), vR (some [18]), vI i, vI k, vI v] [] (ty, ln, pJ I J', R, c, w) := by
  have h0 := hM.1
  by_cases q : k = 0
  · have e := hv q
    simp (disch := first | omega | assumption | rfl) only [b_La_law_1383, b_La_law_1407, b_La_law_1413, b_La_law_1437, hm, m_thrown hM, hk, y1, y2, y3, e, cmp64_self, Option.toList_some, Option.toList_none, List.cons_append, List.nil_append, ↓if_pos, ↓if_neg, ↓and_t, ↓ex_some, pJ_s, pJ_18, true_and, and_true, not_true_eq_false, not_false_eq_true, if_true, if_false, or_true, true_or, w32_id, ite_self, Int.add_zero]
  · simp (disch := first | omega | assumption | rfl) only [b_La_law_1383, b_La_law_1407, b_La_law_1413, b_La_law_1437, hm, m_thrown hM, hk, y1, y2, y3, Option.toList_some, Option.toList_none, List.cons_append, List.nil_append, ↓if_pos, ↓if_neg, ↓and_t, ↓ex_some, pJ_s, pJ_18, true_and, and_true, not_true_eq_false, not_false_eq_true, if_true, if_false, or_true, true_or, w32_id, ite_self, Int.add_zero]
theorem w_count {d : Nat} {K : Kt} {X : Xt} {ty : Nm → Nat} {ln : Nm → Int} {R : Nm → Int → Option Nm} {c w : Nat} {I : Nm → Int → Int} {x1 x2 : Int} (h1 : ty [1] = 100) (z : Mth (d + 10) M_FB_count [vR (some [1]), vI x1, vI x2] (ty, ln, I, R, c, w) (kW K) (xV K)) : Mth (d + 11) M_La_count [vR (some [1]), vI x1, vI x2, vR (some [18])] (ty, ln, I, R, c, w) K X := by
  rw [in_La_count, b_La_count_0, and_t h1]
  refine Mth_mono _ _ _ _ _ _ _ _ ?_ ?_ z
  · rintro v ⟨ty', ln', I', R', c', w'⟩ ⟨y, rfl, ⟨t1, t2⟩, k⟩
    show Rn (d + 10) M_La_count K X 8 [vR (some [1]), vI x1, vI x2, vR (some [18]), vJ] [vI y, vI 0, vR (some [18])] (ty', ln', I', R', c', w')
    have t2' : (0 : Int) < ln' [18] := by rw [show ln' [18] = 1 from t2]; decide
    rw [b_La_count_8, ex_some, and_t ⟨t1, rfl, Int.le_refl _, t2'⟩]
    exact k
  · rintro k h ⟨rfl, k⟩
    rw [thr_1 rfl rfl (by decide) (by decide), b_La_count_13]
    exact k
theorem t_count {d : Nat} {K : Kt} {X : Xt} {ty : Nm → Nat} {ln : Nm → Int} {R : Nm → Int → Option Nm} {c w : Nat} {J J' : Int → Int → Int} {I : Nm → Int → Int} {i k v x1 x2 : Int} {u5 u6 : Vl} (q5 : isLg u5 = false) (q6 : isLg u6 = false) (hS : ty [-3] = 20 ∧ 0 ≤ i ∧ i + 6 ≤ ln [-3] ∧ ln [-3] ≤ 3072) (hM : MOk ty ln R) (h18 : ty [18] = 3 ∧ ln [18] = 1) (y1 : I [-3] (i + 1) = x1) (y2 : I [-3] (i + 2) = x2) (hm : ∀ (K' : Kt) (X' : Xt), Mth (d + 11) M_Mo_count [vR (some [2]), vI x1, vI x2] (ty, ln, pJ I J, R, c, w) K' X' = K' (some (vI v)) (ty, ln, pJ I J', R, c, w)) (hk : J' (-1) 0 = k) (hv : k = 0 → I [18] 0 = v) : Rn (d + 11) M_La_law K X 1457 [vR (some [-3]), vR (some [1]), vR (some [2]), vR (some [18]), vI i, u5, u6] [vI k] (ty, ln, pJ I J, R, c, w) = Rn (d + 11) M_La_law K X 1680 [vR (some [-3]), vR (some [1]), vR (some [2]), vR (some [18]), vI i, vI k, vI v] [] (ty, ln, pJ I J', R, c, w) := by
  have h0 := hM.1
  by_cases q : k = 0
  · have e := hv q
    simp (disch := first | omega | assumption | rfl) only [b_La_law_1457, b_La_law_1475, b_La_law_1481, b_La_law_1505, hm, m_thrown hM, hk, y1, y2, e, cmp64_self, Option.toList_some, Option.toList_none, List.cons_append, List.nil_append, ↓if_pos, ↓if_neg, ↓and_t, ↓ex_some, pJ_s, pJ_18, true_and, and_true, not_true_eq_false, not_false_eq_true, if_true, if_false, or_true, true_or, w32_id, ite_self, Int.add_zero]
  · simp (disch := first | omega | assumption | rfl) only [b_La_law_1457, b_La_law_1475, b_La_law_1481, b_La_law_1505, hm, m_thrown hM, hk, y1, y2, Option.toList_some, Option.toList_none, List.cons_append, List.nil_append, ↓if_pos, ↓if_neg, ↓and_t, ↓ex_some, pJ_s, pJ_18, true_and, and_true, not_true_eq_false, not_false_eq_true, if_true, if_false, or_true, true_or, w32_id, ite_self, Int.add_zero]
theorem w_stored {d : Nat} {K : Kt} {X : Xt} {ty : Nm → Nat} {ln : Nm → Int} {R : Nm → Int → Option Nm} {c w : Nat} {I : Nm → Int → Int} {x1 x2 : Int} (h1 : ty [1] = 100) (z : Mth (d + 10) M_FB_stored [vR (some [1]), vI x1, vI x2] (ty, ln, I, R, c, w) (kW K) (xV K)) : Mth (d + 11) M_La_stored [vR (some [1]), vI x1, vI x2, vR (some [18])] (ty, ln, I, R, c, w) K X := by
  rw [in_La_stored, b_La_stored_0, and_t h1]
  refine Mth_mono _ _ _ _ _ _ _ _ ?_ ?_ z
  · rintro v ⟨ty', ln', I', R', c', w'⟩ ⟨y, rfl, ⟨t1, t2⟩, k⟩
    show Rn (d + 10) M_La_stored K X 8 [vR (some [1]), vI x1, vI x2, vR (some [18]), vJ] [vI y, vI 0, vR (some [18])] (ty', ln', I', R', c', w')
    have t2' : (0 : Int) < ln' [18] := by rw [show ln' [18] = 1 from t2]; decide
    rw [b_La_stored_8, ex_some, and_t ⟨t1, rfl, Int.le_refl _, t2'⟩]
    exact k
  · rintro k h ⟨rfl, k⟩
    rw [thr_1 rfl rfl (by decide) (by decide), b_La_stored_13]
    exact k
theorem t_stored {d : Nat} {K : Kt} {X : Xt} {ty : Nm → Nat} {ln : Nm → Int} {R : Nm → Int → Option Nm} {c w : Nat} {J J' : Int → Int → Int} {I : Nm → Int → Int} {i k v x1 x2 : Int} {u5 u6 : Vl} (q5 : isLg u5 = false) (q6 : isLg u6 = false) (hS : ty [-3] = 20 ∧ 0 ≤ i ∧ i + 6 ≤ ln [-3] ∧ ln [-3] ≤ 3072) (hM : MOk ty ln R) (h18 : ty [18] = 3 ∧ ln [18] = 1) (y1 : I [-3] (i + 1) = x1) (y2 : I [-3] (i + 2) = x2) (hm : ∀ (K' : Kt) (X' : Xt), Mth (d + 11) M_Mo_stored [vR (some [2]), vI x1, vI x2] (ty, ln, pJ I J, R, c, w) K' X' = K' (some (vI v)) (ty, ln, pJ I J', R, c, w)) (hk : J' (-1) 0 = k) (hv : k = 0 → I [18] 0 = v) : Rn (d + 11) M_La_law K X 1525 [vR (some [-3]), vR (some [1]), vR (some [2]), vR (some [18]), vI i, u5, u6] [vI k] (ty, ln, pJ I J, R, c, w) = Rn (d + 11) M_La_law K X 1680 [vR (some [-3]), vR (some [1]), vR (some [2]), vR (some [18]), vI i, vI k, vI v] [] (ty, ln, pJ I J', R, c, w) := by
  have h0 := hM.1
  by_cases q : k = 0
  · have e := hv q
    simp (disch := first | omega | assumption | rfl) only [b_La_law_1525, b_La_law_1543, b_La_law_1549, b_La_law_1573, hm, m_thrown hM, hk, y1, y2, e, cmp64_self, Option.toList_some, Option.toList_none, List.cons_append, List.nil_append, ↓if_pos, ↓if_neg, ↓and_t, ↓ex_some, pJ_s, pJ_18, true_and, and_true, not_true_eq_false, not_false_eq_true, if_true, if_false, or_true, true_or, w32_id, ite_self, Int.add_zero]
  · simp (disch := first | omega | assumption | rfl) only [b_La_law_1525, b_La_law_1543, b_La_law_1549, b_La_law_1573, hm, m_thrown hM, hk, y1, y2, Option.toList_some, Option.toList_none, List.cons_append, List.nil_append, ↓if_pos, ↓if_neg, ↓and_t, ↓ex_some, pJ_s, pJ_18, true_and, and_true, not_true_eq_false, not_false_eq_true, if_true, if_false, or_true, true_or, w32_id, ite_self, Int.add_zero]
theorem w_balance {d : Nat} {K : Kt} {X : Xt} {ty : Nm → Nat} {ln : Nm → Int} {R : Nm → Int → Option Nm} {c w : Nat} {I : Nm → Int → Int} {x1 x2 : Int} (h1 : ty [1] = 100) (z : Mth (d + 10) M_FB_balance [vR (some [1]), vI x1, vI x2] (ty, ln, I, R, c, w) (kW K) (xV K)) : Mth (d + 11) M_La_balance [vR (some [1]), vI x1, vI x2, vR (some [18])] (ty, ln, I, R, c, w) K X := by
  rw [in_La_balance, b_La_balance_0, and_t h1]
  refine Mth_mono _ _ _ _ _ _ _ _ ?_ ?_ z
  · rintro v ⟨ty', ln', I', R', c', w'⟩ ⟨y, rfl, ⟨t1, t2⟩, k⟩
    show Rn (d + 10) M_La_balance K X 8 [vR (some [1]), vI x1, vI x2, vR (some [18]), vJ] [vI y, vI 0, vR (some [18])] (ty', ln', I', R', c', w')
    have t2' : (0 : Int) < ln' [18] := by rw [show ln' [18] = 1 from t2]; decide
    rw [b_La_balance_8, ex_some, and_t ⟨t1, rfl, Int.le_refl _, t2'⟩]
    exact k
  · rintro k h ⟨rfl, k⟩
    rw [thr_1 rfl rfl (by decide) (by decide), b_La_balance_13]
    exact k
theorem t_balance {d : Nat} {K : Kt} {X : Xt} {ty : Nm → Nat} {ln : Nm → Int} {R : Nm → Int → Option Nm} {c w : Nat} {J J' : Int → Int → Int} {I : Nm → Int → Int} {i k v x1 x2 : Int} {u5 u6 : Vl} (q5 : isLg u5 = false) (q6 : isLg u6 = false) (hS : ty [-3] = 20 ∧ 0 ≤ i ∧ i + 6 ≤ ln [-3] ∧ ln [-3] ≤ 3072) (hM : MOk ty ln R) (h18 : ty [18] = 3 ∧ ln [18] = 1) (y1 : I [-3] (i + 1) = x1) (y2 : I [-3] (i + 2) = x2) (hm : ∀ (K' : Kt) (X' : Xt), Mth (d + 11) M_Mo_balance [vR (some [2]), vI x1, vI x2] (ty, ln, pJ I J, R, c, w) K' X' = K' (some (vI v)) (ty, ln, pJ I J', R, c, w)) (hk : J' (-1) 0 = k) (hv : k = 0 → I [18] 0 = v) : Rn (d + 11) M_La_law K X 1629 [vR (some [-3]), vR (some [1]), vR (some [2]), vR (some [18]), vI i, u5, u6] [vI k] (ty, ln, pJ I J, R, c, w) = Rn (d + 11) M_La_law K X 1680 [vR (some [-3]), vR (some [1]), vR (some [2]), vR (some [18]), vI i, vI k, vI v] [] (ty, ln, pJ I J', R, c, w) := by
  have h0 := hM.1
  by_cases q : k = 0
  · have e := hv q
    simp (disch := first | omega | assumption | rfl) only [b_La_law_1629, b_La_law_1647, b_La_law_1653, b_La_law_1677, hm, m_thrown hM, hk, y1, y2, e, cmp64_self, Option.toList_some, Option.toList_none, List.cons_append, List.nil_append, ↓if_pos, ↓if_neg, ↓and_t, ↓ex_some, pJ_s, pJ_18, true_and, and_true, not_true_eq_false, not_false_eq_true, if_true, if_false, or_true, true_or, w32_id, ite_self, Int.add_zero]
  · simp (disch := first | omega | assumption | rfl) only [b_La_law_1629, b_La_law_1647, b_La_law_1653, b_La_law_1677, hm, m_thrown hM, hk, y1, y2, Option.toList_some, Option.toList_none, List.cons_append, List.nil_append, ↓if_pos, ↓if_neg, ↓and_t, ↓ex_some, pJ_s, pJ_18, true_and, and_true, not_true_eq_false, not_false_eq_true, if_true, if_false, or_true, true_or, w32_id, ite_self, Int.add_zero]
