/-! ===== the reference: contract, settle ===== -/
theorem m_limitsOf {d : Nat} {K : Kt} {X : Xt} {J : Int → Int → Int} {ty : Nm → Nat} {ln : Nm → Int} {I : Nm → Int → Int} {R : Nm → Int → Option Nm} {c w : Nat} {a : Int} (h : MOk ty ln R) (a0 : 0 ≤ a ∧ a ≤ 9) :
    Mth (d + 1) M_Mo_limitsOf [vR (some [2]), vI a] (ty, ln, pJ I J, R, c, w) K X = K (some (vI (sumR (fun i => J 9 (10 * a + i)) 10))) (ty, ln, pJ I (J), R, c, w) := by
  rw [s_Mo_limitsOf h.1 h.a9.1 h.a9.2.1 h.a9.2.2 a0.1 a0.2, pJ_a (by decide)]
theorem m_keeps {d : Nat} {K : Kt} {X : Xt} {J : Int → Int → Int} {ty : Nm → Nat} {ln : Nm → Int} {I : Nm → Int → Int} {R : Nm → Int → Option Nm} {c w : Nat} {a : Int} (h : MOk ty ln R) (a0 : 0 ≤ a ∧ a ≤ 9) :
    Mth (d + 1) M_Mo_keeps [vR (some [2]), vI a] (ty, ln, pJ I J, R, c, w) K X = K (some (vI (sumR (fun i => J 10 (10 * a + i)) 10))) (ty, ln, pJ I (J), R, c, w) := by
  rw [s_Mo_keeps h.1 h.a10.1 h.a10.2.1 h.a10.2.2 a0.1 a0.2, pJ_a (by decide)]
set_option maxHeartbeats 2000000 in
theorem m_contract {d : Nat} {K : Kt} {X : Xt} {J : Int → Int → Int} {ty : Nm → Nat} {ln : Nm → Int} {I : Nm → Int → Int} {R : Nm → Int → Option Nm} {c w : Nat} {a b l : Int} (h : MOk ty ln R) (hl : ∀ j, 0 ≤ J 9 j ∧ J 9 j ≤ 100) :
    Mth (d + 3) M_Mo_contract [vR (some [2]), vI a, vI b, vI l] (ty, ln, pJ I J, R, c, w) K X = (if ((0 ≤ a ∧ a ≤ 9) ∧ 0 < J 5 a) ∧ ((0 ≤ b ∧ b ≤ 9) ∧ 0 < J 5 b) ∧ a ≠ b ∧ 0 ≤ l ∧ l ≤ 100 then (if (sumR (fun i => J 9 (10 * a + i)) 10 - J 9 (10 * a + b) + l ≤ J 5 a ∧ sumR (fun i => J 9 (10 * b + i)) 10 - J 9 (10 * a + b) + l ≤ J 5 b) ∧ J 10 (10 * a + b) ≤ l ∧ J 10 (10 * b + a) ≤ l then K (some (vI (1))) (ty, ln, pJ I (uJ (uJ (uJ J (-1) 0 0) 9 (10 * a + b) l) 9 (10 * b + a) l), R, c, w) else K (some (vI (0))) (ty, ln, pJ I (uJ J (-1) 0 0), R, c, w)) else K (some (vI (0))) (ty, ln, pJ I (uJ J (-1) 0 1), R, c, w)) := by
  have a5 := h.a5
  have a9 := h.a9
  have a10 := h.a10
  have h0 := h.1
  have d1 := hl (10 * a + b)
  have d2 := sumR_le (m := 100) (by decide) (fun i => hl (10 * a + i)) 10 (by decide)
  have d3 := sumR_le (m := 100) (by decide) (fun i => hl (10 * b + i)) 10 (by decide)
  by_cases q1 : ((0 ≤ a ∧ a ≤ 9) ∧ 0 < J 5 a)
  · by_cases q2 : ((0 ≤ b ∧ b ≤ 9) ∧ 0 < J 5 b)
    · by_cases q3 : a = b
      · simp (disch := omega) only [in_Mo_contract, b_Mo_contract_0, b_Mo_contract_6, b_Mo_contract_14, b_Mo_contract_29, b_Mo_contract_32, b_Mo_contract_37, b_Mo_contract_40, b_Mo_contract_63, b_Mo_contract_82, b_Mo_contract_100, b_Mo_contract_101, b_Mo_contract_142, b_Mo_contract_143, b_Mo_contract_174, m_isHouse h, m_refused h, s_Mo_isIn, m_limitsOf h, ↓h.e5, ↓h.e9, ↓h.e10, Option.toList_some, Option.toList_none, List.cons_append, List.nil_append, ↓if_pos, ↓if_neg, ↓and_t, pJ_a, pJ_m, up_a, up_m, Option.some.injEq, exists_eq_left', wr_a, wr_m, true_and, and_true, not_true_eq_false, not_false_eq_true, if_true, if_false, or_true, true_or, uJ_self, uJ_ne, upI_self, upI_ne, w32_id, reduceCtorEq, ne_eq, wJ_ne, wJ_out]
      · by_cases q4 : 0 ≤ l ∧ l ≤ 100
        · by_cases q5 : sumR (fun i => J 9 (10 * a + i)) 10 - J 9 (10 * a + b) + l ≤ J 5 a
          · by_cases q6 : sumR (fun i => J 9 (10 * b + i)) 10 - J 9 (10 * a + b) + l ≤ J 5 b
            · by_cases q7 : J 10 (10 * a + b) ≤ l
              · by_cases q8 : J 10 (10 * b + a) ≤ l
                · simp (disch := omega) only [in_Mo_contract, b_Mo_contract_0, b_Mo_contract_6, b_Mo_contract_14, b_Mo_contract_29, b_Mo_contract_32, b_Mo_contract_37, b_Mo_contract_40, b_Mo_contract_63, b_Mo_contract_82, b_Mo_contract_100, b_Mo_contract_101, b_Mo_contract_142, b_Mo_contract_143, b_Mo_contract_174, m_isHouse h, m_refused h, s_Mo_isIn, m_limitsOf h, ↓h.e5, ↓h.e9, ↓h.e10, Option.toList_some, Option.toList_none, List.cons_append, List.nil_append, ↓if_pos, ↓if_neg, ↓and_t, pJ_a, pJ_m, up_a, up_m, Option.some.injEq, exists_eq_left', wr_a, wr_m, true_and, and_true, not_true_eq_false, not_false_eq_true, if_true, if_false, or_true, true_or, uJ_self, uJ_ne, upI_self, upI_ne, w32_id, reduceCtorEq, ne_eq, wJ_ne, wJ_out]
                · simp (disch := omega) only [in_Mo_contract, b_Mo_contract_0, b_Mo_contract_6, b_Mo_contract_14, b_Mo_contract_29, b_Mo_contract_32, b_Mo_contract_37, b_Mo_contract_40, b_Mo_contract_63, b_Mo_contract_82, b_Mo_contract_100, b_Mo_contract_101, b_Mo_contract_142, b_Mo_contract_143, b_Mo_contract_174, m_isHouse h, m_refused h, s_Mo_isIn, m_limitsOf h, ↓h.e5, ↓h.e9, ↓h.e10, Option.toList_some, Option.toList_none, List.cons_append, List.nil_append, ↓if_pos, ↓if_neg, ↓and_t, pJ_a, pJ_m, up_a, up_m, Option.some.injEq, exists_eq_left', wr_a, wr_m, true_and, and_true, not_true_eq_false, not_false_eq_true, if_true, if_false, or_true, true_or, uJ_self, uJ_ne, upI_self, upI_ne, w32_id, reduceCtorEq, ne_eq, wJ_ne, wJ_out]
              · simp (disch := omega) only [in_Mo_contract, b_Mo_contract_0, b_Mo_contract_6, b_Mo_contract_14, b_Mo_contract_29, b_Mo_contract_32, b_Mo_contract_37, b_Mo_contract_40, b_Mo_contract_63, b_Mo_contract_82, b_Mo_contract_100, b_Mo_contract_101, b_Mo_contract_142, b_Mo_contract_143, b_Mo_contract_174, m_isHouse h, m_refused h, s_Mo_isIn, m_limitsOf h, ↓h.e5, ↓h.e9, ↓h.e10, Option.toList_some, Option.toList_none, List.cons_append, List.nil_append, ↓if_pos, ↓if_neg, ↓and_t, pJ_a, pJ_m, up_a, up_m, Option.some.injEq, exists_eq_left', wr_a, wr_m, true_and, and_true, not_true_eq_false, not_false_eq_true, if_true, if_false, or_true, true_or, uJ_self, uJ_ne, upI_self, upI_ne, w32_id, reduceCtorEq, ne_eq, wJ_ne, wJ_out]
            · simp (disch := omega) only [in_Mo_contract, b_Mo_contract_0, b_Mo_contract_6, b_Mo_contract_14, b_Mo_contract_29, b_Mo_contract_32, b_Mo_contract_37, b_Mo_contract_40, b_Mo_contract_63, b_Mo_contract_82, b_Mo_contract_100, b_Mo_contract_101, b_Mo_contract_142, b_Mo_contract_143, b_Mo_contract_174, m_isHouse h, m_refused h, s_Mo_isIn, m_limitsOf h, ↓h.e5, ↓h.e9, ↓h.e10, Option.toList_some, Option.toList_none, List.cons_append, List.nil_append, ↓if_pos, ↓if_neg, ↓and_t, pJ_a, pJ_m, up_a, up_m, Option.some.injEq, exists_eq_left', wr_a, wr_m, true_and, and_true, not_true_eq_false, not_false_eq_true, if_true, if_false, or_true, true_or, uJ_self, uJ_ne, upI_self, upI_ne, w32_id, reduceCtorEq, ne_eq, wJ_ne, wJ_out]
          · simp (disch := omega) only [in_Mo_contract, b_Mo_contract_0, b_Mo_contract_6, b_Mo_contract_14, b_Mo_contract_29, b_Mo_contract_32, b_Mo_contract_37, b_Mo_contract_40, b_Mo_contract_63, b_Mo_contract_82, b_Mo_contract_100, b_Mo_contract_101, b_Mo_contract_142, b_Mo_contract_143, b_Mo_contract_174, m_isHouse h, m_refused h, s_Mo_isIn, m_limitsOf h, ↓h.e5, ↓h.e9, ↓h.e10, Option.toList_some, Option.toList_none, List.cons_append, List.nil_append, ↓if_pos, ↓if_neg, ↓and_t, pJ_a, pJ_m, up_a, up_m, Option.some.injEq, exists_eq_left', wr_a, wr_m, true_and, and_true, not_true_eq_false, not_false_eq_true, if_true, if_false, or_true, true_or, uJ_self, uJ_ne, upI_self, upI_ne, w32_id, reduceCtorEq, ne_eq, wJ_ne, wJ_out]
        · simp (disch := omega) only [in_Mo_contract, b_Mo_contract_0, b_Mo_contract_6, b_Mo_contract_14, b_Mo_contract_29, b_Mo_contract_32, b_Mo_contract_37, b_Mo_contract_40, b_Mo_contract_63, b_Mo_contract_82, b_Mo_contract_100, b_Mo_contract_101, b_Mo_contract_142, b_Mo_contract_143, b_Mo_contract_174, m_isHouse h, m_refused h, s_Mo_isIn, m_limitsOf h, ↓h.e5, ↓h.e9, ↓h.e10, Option.toList_some, Option.toList_none, List.cons_append, List.nil_append, ↓if_pos, ↓if_neg, ↓and_t, pJ_a, pJ_m, up_a, up_m, Option.some.injEq, exists_eq_left', wr_a, wr_m, true_and, and_true, not_true_eq_false, not_false_eq_true, if_true, if_false, or_true, true_or, uJ_self, uJ_ne, upI_self, upI_ne, w32_id, reduceCtorEq, ne_eq, wJ_ne, wJ_out]
    · simp (disch := omega) only [in_Mo_contract, b_Mo_contract_0, b_Mo_contract_6, b_Mo_contract_14, b_Mo_contract_29, b_Mo_contract_32, b_Mo_contract_37, b_Mo_contract_40, b_Mo_contract_63, b_Mo_contract_82, b_Mo_contract_100, b_Mo_contract_101, b_Mo_contract_142, b_Mo_contract_143, b_Mo_contract_174, m_isHouse h, m_refused h, s_Mo_isIn, m_limitsOf h, ↓h.e5, ↓h.e9, ↓h.e10, Option.toList_some, Option.toList_none, List.cons_append, List.nil_append, ↓if_pos, ↓if_neg, ↓and_t, pJ_a, pJ_m, up_a, up_m, Option.some.injEq, exists_eq_left', wr_a, wr_m, true_and, and_true, not_true_eq_false, not_false_eq_true, if_true, if_false, or_true, true_or, uJ_self, uJ_ne, upI_self, upI_ne, w32_id, reduceCtorEq, ne_eq, wJ_ne, wJ_out]
  · simp (disch := omega) only [in_Mo_contract, b_Mo_contract_0, b_Mo_contract_6, b_Mo_contract_14, b_Mo_contract_29, b_Mo_contract_32, b_Mo_contract_37, b_Mo_contract_40, b_Mo_contract_63, b_Mo_contract_82, b_Mo_contract_100, b_Mo_contract_101, b_Mo_contract_142, b_Mo_contract_143, b_Mo_contract_174, m_isHouse h, m_refused h, s_Mo_isIn, m_limitsOf h, ↓h.e5, ↓h.e9, ↓h.e10, Option.toList_some, Option.toList_none, List.cons_append, List.nil_append, ↓if_pos, ↓if_neg, ↓and_t, pJ_a, pJ_m, up_a, up_m, Option.some.injEq, exists_eq_left', wr_a, wr_m, true_and, and_true, not_true_eq_false, not_false_eq_true, if_true, if_false, or_true, true_or, uJ_self, uJ_ne, upI_self, upI_ne, w32_id, reduceCtorEq, ne_eq, wJ_ne, wJ_out]
theorem m_settle {d : Nat} {K : Kt} {X : Xt} {J : Int → Int → Int} {ty : Nm → Nat} {ln : Nm → Int} {I : Nm → Int → Int} {R : Nm → Int → Option Nm} {c w : Nat} {x : Int} (h : MOk ty ln R) (hd : ∀ j, 0 ≤ J 11 j ∧ J 11 j ≤ 1000000) (hk : ∀ j, 0 ≤ J 10 j ∧ J 10 j ≤ 100) (h1 : 0 ≤ J (-1) 1) :
    Mth (d + 2) M_Mo_settle [vR (some [2]), vI x] (ty, ln, pJ I J, R, c, w) K X = (if J (-1) 1 ≤ x ∧ x ≤ 10000 then K (none) (ty, ln, pJ I (uJ (wJ (uJ J (-1) 0 0) 11 0 100 (fun j => J 11 j + (x - J (-1) 1) * J 10 j)) (-1) 1 x), R, c, w) else K (none) (ty, ln, pJ I (uJ J (-1) 0 1), R, c, w)) := by
  have a10 := h.a10
  have a11 := h.a11
  have h0 := h.1
  by_cases q1 : J (-1) 1 ≤ x ∧ x ≤ 10000
  · have key : ∀ k i : Nat, i + k = 100 → Rn (d + 1) M_Mo_settle K X 29 [vR (some [2]), vI x, vI (i : Int)] [] (ty, ln, pJ I (wJ (uJ J (-1) 0 0) 11 0 i (fun j => J 11 j + (x - J (-1) 1) * J 10 j)), R, c, w) = K none (ty, ln, pJ I (uJ (wJ (uJ J (-1) 0 0) 11 0 100 (fun j => J 11 j + (x - J (-1) 1) * J 10 j)) (-1) 1 x), R, c, w) := by
      intro k
      induction k with
      | zero =>
        intro i hi
        rw [show i = 100 by omega]
        rw [b_Mo_settle_29]
        simp (disch := omega) only [Option.toList_some, Option.toList_none, List.cons_append, List.nil_append, ↓if_pos, ↓if_neg, ↓and_t, pJ_a, pJ_m, up_a, up_m, Option.some.injEq, exists_eq_left', wr_a, wr_m, true_and, and_true, not_true_eq_false, not_false_eq_true, if_true, if_false, or_true, true_or, uJ_self, uJ_ne, upI_self, upI_ne, w32_id, reduceCtorEq, ne_eq, wJ_ne, wJ_out]
        rfl
      | succ k ih =>
        intro i hi
        have d1 := hd i
        have d2 := hk i
        have d3 : 0 ≤ (x - J (-1) 1) * J 10 i := Int.mul_nonneg (by omega) (by omega)
        have d4 : (x - J (-1) 1) * J 10 i ≤ 10000 * 100 := Int.mul_le_mul (by omega) (by omega) (by omega) (by omega)
        have ih' := ih (i + 1) (by omega)
        rw [b_Mo_settle_29]
        simp (disch := omega) only [↓h.e10, ↓h.e11, Option.toList_some, Option.toList_none, List.cons_append, List.nil_append, ↓if_pos, ↓if_neg, ↓and_t, pJ_a, pJ_m, up_a, up_m, Option.some.injEq, exists_eq_left', wr_a, wr_m, true_and, and_true, not_true_eq_false, not_false_eq_true, if_true, if_false, or_true, true_or, uJ_self, uJ_ne, upI_self, upI_ne, w32_id, reduceCtorEq, ne_eq, wJ_ne, wJ_out]
        rw [wJ_up (by omega) (by simp (disch := omega) only [uJ_ne])]
        exact ih'
    have k0 := key 100 0 rfl
    rw [show ((0 : Nat) : Int) = 0 from rfl, wJ_nil (by omega)] at k0
    simp (disch := omega) only [in_Mo_settle, b_Mo_settle_0, b_Mo_settle_12, b_Mo_settle_20, b_Mo_settle_23, m_refused h, s_Mo_isIn, Option.toList_some, Option.toList_none, List.cons_append, List.nil_append, ↓if_pos, ↓if_neg, ↓and_t, pJ_a, pJ_m, up_a, up_m, Option.some.injEq, exists_eq_left', wr_a, wr_m, true_and, and_true, not_true_eq_false, not_false_eq_true, if_true, if_false, or_true, true_or, uJ_self, uJ_ne, upI_self, upI_ne, w32_id, reduceCtorEq, ne_eq, wJ_ne, wJ_out]
    exact k0
  · simp (disch := omega) only [in_Mo_settle, b_Mo_settle_0, b_Mo_settle_12, b_Mo_settle_20, b_Mo_settle_23, m_refused h, s_Mo_isIn, Option.toList_some, Option.toList_none, List.cons_append, List.nil_append, ↓if_pos, ↓if_neg, ↓and_t, pJ_a, pJ_m, up_a, up_m, Option.some.injEq, exists_eq_left', wr_a, wr_m, true_and, and_true, not_true_eq_false, not_false_eq_true, if_true, if_false, or_true, true_or, uJ_self, uJ_ne, upI_self, upI_ne, w32_id, reduceCtorEq, ne_eq, wJ_ne, wJ_out]
