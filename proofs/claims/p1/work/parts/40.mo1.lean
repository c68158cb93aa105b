/-! ===== the reference, the short methods ===== -/
theorem m_isHouse {d : Nat} {K : Kt} {X : Xt} {J : Int → Int → Int} {ty : Nm → Nat} {ln : Nm → Int} {I : Nm → Int → Int} {R : Nm → Int → Option Nm} {c w : Nat} {a : Int} (h : MOk ty ln R) : Mth (d + 2) M_Mo_isHouse [vR (some [2]), vI a] (ty, ln, pJ I J, R, c, w) K X = K (some (vI (if (0 ≤ a ∧ a ≤ 9) ∧ 0 < J 5 a then 1 else 0))) (ty, ln, pJ I J, R, c, w) := by
  rw [s_Mo_isHouse h.1 h.a5.1 h.a5.2.1 h.a5.2.2, pJ_a (by decide)]
theorem m_refused {d : Nat} {K : Kt} {X : Xt} {J : Int → Int → Int} {ty : Nm → Nat} {ln : Nm → Int} {I : Nm → Int → Int} {R : Nm → Int → Option Nm} {c w : Nat} {x : Int} (h : MOk ty ln R) : Mth (d + 1) M_Mo_refused [vR (some [2]), vI x] (ty, ln, pJ I J, R, c, w) K X = K (some (vI (if x ≤ 0 then 0 else 1))) (ty, ln, pJ I (uJ J (-1) 0 x), R, c, w) := by
  rw [s_Mo_refused h.1 rfl, up_m]
theorem m_thrown {d : Nat} {K : Kt} {X : Xt} {J : Int → Int → Int} {ty : Nm → Nat} {ln : Nm → Int} {I : Nm → Int → Int} {R : Nm → Int → Option Nm} {c w : Nat} (h : MOk ty ln R) : Mth (d + 1) M_Mo_thrown [vR (some [2])] (ty, ln, pJ I J, R, c, w) K X = K (some (vI (J (-1) 0))) (ty, ln, pJ I J, R, c, w) := by
  rw [s_Mo_thrown h.1, pJ_m]

theorem m_house {d : Nat} {K : Kt} {X : Xt} {J : Int → Int → Int} {ty : Nm → Nat} {ln : Nm → Int} {I : Nm → Int → Int} {R : Nm → Int → Option Nm} {c w : Nat} {a b : Int} (h : MOk ty ln R) :
    Mth (d + 2) M_Mo_house [vR (some [2]), vI a, vI b] (ty, ln, pJ I J, R, c, w) K X = K none (ty, ln, pJ I (if (0 ≤ a ∧ a ≤ 9) ∧ 1 ≤ b ∧ b ≤ 400 then (if 0 < J 5 a then uJ J (-1) 0 2 else uJ (uJ (uJ J (-1) 0 0) 5 a b) 6 a 1) else uJ J (-1) 0 1), R, c, w) := by
  have a5 := h.a5
  have a6 := h.a6
  have h0 := h.1
  by_cases q1 : 0 ≤ a ∧ a ≤ 9 <;> by_cases q2 : 1 ≤ b ∧ b ≤ 400 <;> by_cases q3 : 0 < J 5 a <;>
    simp (disch := omega) only [in_Mo_house, b_Mo_house_0, b_Mo_house_8, b_Mo_house_19, b_Mo_house_22, b_Mo_house_40, b_Mo_house_43, b_Mo_house_60, s_Mo_isIn, m_refused h, ↓h.e5, ↓h.e6, Option.toList_some, Option.toList_none, List.cons_append, List.nil_append, ↓if_pos, ↓if_neg, ↓and_t, pJ_a, pJ_m, up_a, up_m, Option.some.injEq, exists_eq_left', wr_a, wr_m, true_and, and_true, not_true_eq_false, not_false_eq_true, if_true, if_false, or_true, true_or, uJ_self, uJ_ne, upI_self, upI_ne, w32_id, reduceCtorEq, ne_eq]
theorem m_code {d : Nat} {K : Kt} {X : Xt} {J : Int → Int → Int} {ty : Nm → Nat} {ln : Nm → Int} {I : Nm → Int → Int} {R : Nm → Int → Option Nm} {c w : Nat} {a b : Int} (h : MOk ty ln R) :
    Mth (d + 2) M_Mo_code [vR (some [2]), vI a, vI b] (ty, ln, pJ I J, R, c, w) K X = K none (ty, ln, pJ I (if (2 ≤ a ∧ a ≤ 6) ∧ a ≤ b ∧ b ≤ 12 then (if J (-1) 4 = 0 then uJ (uJ (uJ J (-1) 0 0) (-1) 2 a) (-1) 3 b else uJ J (-1) 0 2) else uJ J (-1) 0 1), R, c, w) := by
  have h0 := h.1
  by_cases q1 : 2 ≤ a ∧ a ≤ 6 <;> by_cases q2 : a ≤ b ∧ b ≤ 12 <;> by_cases q3 : J (-1) 4 = 0 <;>
    simp (disch := omega) only [in_Mo_code, b_Mo_code_0, b_Mo_code_8, b_Mo_code_18, b_Mo_code_21, b_Mo_code_37, b_Mo_code_40, b_Mo_code_53, s_Mo_isIn, m_refused h, Option.toList_some, Option.toList_none, List.cons_append, List.nil_append, ↓if_pos, ↓if_neg, ↓and_t, pJ_a, pJ_m, up_a, up_m, Option.some.injEq, exists_eq_left', wr_a, wr_m, true_and, and_true, not_true_eq_false, not_false_eq_true, if_true, if_false, or_true, true_or, uJ_self, uJ_ne, upI_self, upI_ne, w32_id, reduceCtorEq, ne_eq]
