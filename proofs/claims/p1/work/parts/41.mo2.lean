/-! ===== the reference, methods without a loop ===== -/
theorem sumR_le {f : Int → Int} {m : Int} (hm : 0 ≤ m ∧ m ≤ 1000000) (h : ∀ i, 0 ≤ f i ∧ f i ≤ m) : ∀ k : Nat, k ≤ 1000 → 0 ≤ sumR f k ∧ sumR f k ≤ k * m
  | 0, _ => ⟨Int.le_refl _, by show (0 : Int) ≤ ((0 : Nat) : Int) * m; simp⟩
  | k + 1, hk => by
    obtain ⟨a, b⟩ := sumR_le hm h k (by omega)
    obtain ⟨p, q⟩ := h k
    have e2 : ((k + 1 : Nat) : Int) * m = k * m + m := by rw [Int.natCast_add, Int.add_mul]; simp
    have e3 : (k : Int) * m ≤ 1000 * m := Int.mul_le_mul_of_nonneg_right (by omega) hm.1
    have e : sumR f (k + 1) = sumR f k + f k := w32_id (by omega) (by omega)
    omega
theorem sumR_s {f : Int → Int} {m : Int} (hm : 0 ≤ m ∧ m ≤ 1000000) (h : ∀ i, 0 ≤ f i ∧ f i ≤ m) {k : Nat} (hk : k < 1000) : sumR f (k + 1) = sumR f k + f k := by
  obtain ⟨a, b⟩ := sumR_le hm h k (by omega)
  obtain ⟨p, q⟩ := h k
  have e3 : (k : Int) * m ≤ 1000 * m := Int.mul_le_mul_of_nonneg_right (by omega) hm.1
  exact w32_id (by omega) (by omega)
theorem m_up {d : Nat} {K : Kt} {X : Xt} {J : Int → Int → Int} {ty : Nm → Nat} {ln : Nm → Int} {I : Nm → Int → Int} {R : Nm → Int → Option Nm} {c w : Nat} {a x : Int} (h : MOk ty ln R) (hb : ∀ j, J 6 j = 0 ∨ J 6 j = 1) (hx : x = 0 ∨ x = 1) :
    Mth (d + 3) M_Mo_up [vR (some [2]), vI a, vI x] (ty, ln, pJ I J, R, c, w) K X = (if ((0 ≤ a ∧ a ≤ 9) ∧ 0 < J 5 a) then K (some (vI (J 6 a))) (ty, ln, pJ I (uJ (uJ J (-1) 0 0) 6 a x), R, c, w) else K (some (vI (0))) (ty, ln, pJ I (uJ J (-1) 0 1), R, c, w)) := by
  have a6 := h.a6
  have h0 := h.1
  have hb := hb a
  by_cases q1 : ((0 ≤ a ∧ a ≤ 9) ∧ 0 < J 5 a) <;>
    simp (disch := omega) only [in_Mo_up, b_Mo_up_0, b_Mo_up_6, b_Mo_up_14, b_Mo_up_17, m_isHouse h, m_refused h, ↓h.e6, Option.toList_some, Option.toList_none, List.cons_append, List.nil_append, ↓if_pos, ↓if_neg, ↓and_t, pJ_a, pJ_m, up_a, up_m, Option.some.injEq, exists_eq_left', wr_a, wr_m, true_and, and_true, not_true_eq_false, not_false_eq_true, if_true, if_false, or_true, true_or, uJ_self, uJ_ne, upI_self, upI_ne, w32_id, reduceCtorEq, ne_eq]
theorem m_file {d : Nat} {K : Kt} {X : Xt} {J : Int → Int → Int} {ty : Nm → Nat} {ln : Nm → Int} {I : Nm → Int → Int} {R : Nm → Int → Option Nm} {c w : Nat} {a t x : Int} (h : MOk ty ln R) (hb : ∀ j, J 12 j = 0 ∨ J 12 j = 1) (hx : x = 0 ∨ x = 1) :
    Mth (d + 3) M_Mo_file [vR (some [2]), vI a, vI t, vI x] (ty, ln, pJ I J, R, c, w) K X = (if ((0 ≤ a ∧ a ≤ 9) ∧ 0 < J 5 a) ∧ (0 ≤ t ∧ t ≤ 9) then (if J 7 a = 0 then K (some (vI (J 12 (10 * a + t)))) (ty, ln, pJ I (uJ (uJ (uJ J (-1) 0 0) 12 (10 * a + t) x) 13 (10 * a + t) 0), R, c, w) else K (some (vI (0))) (ty, ln, pJ I (uJ J (-1) 0 2), R, c, w)) else K (some (vI (0))) (ty, ln, pJ I (uJ J (-1) 0 1), R, c, w)) := by
  have a7 := h.a7
  have a12 := h.a12
  have a13 := h.a13
  have h0 := h.1
  have hb := hb (10 * a + t)
  by_cases q1 : ((0 ≤ a ∧ a ≤ 9) ∧ 0 < J 5 a) <;> by_cases q2 : 0 ≤ t ∧ t ≤ 9 <;> by_cases q3 : J 7 a = 0 <;>
    simp (disch := omega) only [in_Mo_file, b_Mo_file_0, b_Mo_file_6, b_Mo_file_16, b_Mo_file_19, b_Mo_file_37, b_Mo_file_40, m_isHouse h, m_refused h, s_Mo_isIn, ↓h.e7, ↓h.e12, ↓h.e13, Option.toList_some, Option.toList_none, List.cons_append, List.nil_append, ↓if_pos, ↓if_neg, ↓and_t, pJ_a, pJ_m, up_a, up_m, Option.some.injEq, exists_eq_left', wr_a, wr_m, true_and, and_true, not_true_eq_false, not_false_eq_true, if_true, if_false, or_true, true_or, uJ_self, uJ_ne, upI_self, upI_ne, w32_id, reduceCtorEq, ne_eq]
theorem m_stored {d : Nat} {K : Kt} {X : Xt} {J : Int → Int → Int} {ty : Nm → Nat} {ln : Nm → Int} {I : Nm → Int → Int} {R : Nm → Int → Option Nm} {c w : Nat} {a b : Int} (h : MOk ty ln R) :
    Mth (d + 3) M_Mo_stored [vR (some [2]), vI a, vI b] (ty, ln, pJ I J, R, c, w) K X = (if ((0 ≤ a ∧ a ≤ 9) ∧ 0 < J 5 a) ∧ ((0 ≤ b ∧ b ≤ 9) ∧ 0 < J 5 b) then K (some (vI (J 10 (10 * a + b)))) (ty, ln, pJ I (uJ J (-1) 0 0), R, c, w) else K (some (vI (0))) (ty, ln, pJ I (uJ J (-1) 0 1), R, c, w)) := by
  have a10 := h.a10
  have h0 := h.1
  by_cases q1 : ((0 ≤ a ∧ a ≤ 9) ∧ 0 < J 5 a) <;> by_cases q2 : ((0 ≤ b ∧ b ≤ 9) ∧ 0 < J 5 b) <;>
    simp (disch := omega) only [in_Mo_stored, b_Mo_stored_0, b_Mo_stored_6, b_Mo_stored_14, b_Mo_stored_21, b_Mo_stored_22, b_Mo_stored_25, b_Mo_stored_43, m_isHouse h, m_refused h, ↓h.e10, Option.toList_some, Option.toList_none, List.cons_append, List.nil_append, ↓if_pos, ↓if_neg, ↓and_t, pJ_a, pJ_m, up_a, up_m, Option.some.injEq, exists_eq_left', wr_a, wr_m, true_and, and_true, not_true_eq_false, not_false_eq_true, if_true, if_false, or_true, true_or, uJ_self, uJ_ne, upI_self, upI_ne, w32_id, reduceCtorEq, ne_eq]
theorem m_balance {d : Nat} {K : Kt} {X : Xt} {J : Int → Int → Int} {ty : Nm → Nat} {ln : Nm → Int} {I : Nm → Int → Int} {R : Nm → Int → Option Nm} {c w : Nat} {a b : Int} (h : MOk ty ln R) (hd : ∀ j, 0 ≤ J 11 j ∧ J 11 j ≤ 1000000) :
    Mth (d + 3) M_Mo_balance [vR (some [2]), vI a, vI b] (ty, ln, pJ I J, R, c, w) K X = (if ((0 ≤ a ∧ a ≤ 9) ∧ 0 < J 5 a) ∧ ((0 ≤ b ∧ b ≤ 9) ∧ 0 < J 5 b) then K (some (vI (J 11 (10 * a + b) - J 11 (10 * b + a)))) (ty, ln, pJ I (uJ J (-1) 0 0), R, c, w) else K (some (vI (0))) (ty, ln, pJ I (uJ J (-1) 0 1), R, c, w)) := by
  have a11 := h.a11
  have h0 := h.1
  have d1 := hd (10 * a + b)
  have d2 := hd (10 * b + a)
  by_cases q1 : ((0 ≤ a ∧ a ≤ 9) ∧ 0 < J 5 a) <;> by_cases q2 : ((0 ≤ b ∧ b ≤ 9) ∧ 0 < J 5 b) <;>
    simp (disch := omega) only [in_Mo_balance, b_Mo_balance_0, b_Mo_balance_6, b_Mo_balance_14, b_Mo_balance_21, b_Mo_balance_22, b_Mo_balance_25, b_Mo_balance_55, m_isHouse h, m_refused h, ↓h.e11, Option.toList_some, Option.toList_none, List.cons_append, List.nil_append, ↓if_pos, ↓if_neg, ↓and_t, pJ_a, pJ_m, up_a, up_m, Option.some.injEq, exists_eq_left', wr_a, wr_m, true_and, and_true, not_true_eq_false, not_false_eq_true, if_true, if_false, or_true, true_or, uJ_self, uJ_ne, upI_self, upI_ne, w32_id, reduceCtorEq, ne_eq]
theorem m_isSegment {d : Nat} {K : Kt} {X : Xt} {J : Int → Int → Int} {ty : Nm → Nat} {ln : Nm → Int} {I : Nm → Int → Int} {R : Nm → Int → Option Nm} {c w : Nat} {a s : Int} (h : MOk ty ln R) (hs : ∀ j, 0 ≤ J 20 j ∧ J 20 j ≤ 40) :
    Mth (d + 3) M_Mo_isSegment [vR (some [2]), vI a, vI s] (ty, ln, pJ I J, R, c, w) K X = K (some (vI (if ((0 ≤ a ∧ a ≤ 9) ∧ 0 < J 5 a) ∧ (0 ≤ s ∧ s < J 20 a) ∧ J 21 (40 * a + s) = 0 then 1 else 0))) (ty, ln, pJ I (J), R, c, w) := by
  have a20 := h.a20
  have a21 := h.a21
  have h0 := h.1
  have d1 := hs a
  by_cases q1 : ((0 ≤ a ∧ a ≤ 9) ∧ 0 < J 5 a) <;> by_cases q2 : 0 ≤ s ∧ s < J 20 a <;> by_cases q3 : J 21 (40 * a + s) = 0 <;>
    simp (disch := omega) only [in_Mo_isSegment, b_Mo_isSegment_0, b_Mo_isSegment_5, b_Mo_isSegment_21, b_Mo_isSegment_42, b_Mo_isSegment_43, m_isHouse h, s_Mo_isIn, ↓h.e20, ↓h.e21, Option.toList_some, Option.toList_none, List.cons_append, List.nil_append, ↓if_pos, ↓if_neg, ↓and_t, pJ_a, pJ_m, up_a, up_m, Option.some.injEq, exists_eq_left', wr_a, wr_m, true_and, and_true, not_true_eq_false, not_false_eq_true, if_true, if_false, or_true, true_or, uJ_self, uJ_ne, upI_self, upI_ne, w32_id, reduceCtorEq, ne_eq]
theorem m_isPiece {d : Nat} {K : Kt} {X : Xt} {J : Int → Int → Int} {ty : Nm → Nat} {ln : Nm → Int} {I : Nm → Int → Int} {R : Nm → Int → Option Nm} {c w : Nat} {a s j : Int} (h : MOk ty ln R) (hs : ∀ j, 0 ≤ J 20 j ∧ J 20 j ≤ 40) (hn : 0 ≤ J (-1) 3 ∧ J (-1) 3 ≤ 12) :
    Mth (d + 4) M_Mo_isPiece [vR (some [2]), vI a, vI s, vI j] (ty, ln, pJ I J, R, c, w) K X = K (some (vI (if (((0 ≤ a ∧ a ≤ 9) ∧ 0 < J 5 a) ∧ (0 ≤ s ∧ s < J 20 a) ∧ J 21 (40 * a + s) = 0) ∧ 0 ≤ j ∧ j < J (-1) 3 then 1 else 0))) (ty, ln, pJ I (J), R, c, w) := by
  have h0 := h.1
  by_cases q1 : ((0 ≤ a ∧ a ≤ 9) ∧ 0 < J 5 a) ∧ (0 ≤ s ∧ s < J 20 a) ∧ J 21 (40 * a + s) = 0 <;> by_cases q2 : 0 ≤ j ∧ j < J (-1) 3 <;>
    simp (disch := omega) only [in_Mo_isPiece, b_Mo_isPiece_0, b_Mo_isPiece_6, b_Mo_isPiece_20, b_Mo_isPiece_27, b_Mo_isPiece_28, m_isSegment h hs, s_Mo_isIn, Option.toList_some, Option.toList_none, List.cons_append, List.nil_append, ↓if_pos, ↓if_neg, ↓and_t, pJ_a, pJ_m, up_a, up_m, Option.some.injEq, exists_eq_left', wr_a, wr_m, true_and, and_true, not_true_eq_false, not_false_eq_true, if_true, if_false, or_true, true_or, uJ_self, uJ_ne, upI_self, upI_ne, w32_id, reduceCtorEq, ne_eq]
theorem m_keeper {d : Nat} {K : Kt} {X : Xt} {J : Int → Int → Int} {ty : Nm → Nat} {ln : Nm → Int} {I : Nm → Int → Int} {R : Nm → Int → Option Nm} {c w : Nat} {a s j : Int} (h : MOk ty ln R) (hs : ∀ j, 0 ≤ J 20 j ∧ J 20 j ≤ 40) (hn : 0 ≤ J (-1) 3 ∧ J (-1) 3 ≤ 12) :
    Mth (d + 5) M_Mo_keeper [vR (some [2]), vI a, vI s, vI j] (ty, ln, pJ I J, R, c, w) K X = (if (((0 ≤ a ∧ a ≤ 9) ∧ 0 < J 5 a) ∧ (0 ≤ s ∧ s < J 20 a) ∧ J 21 (40 * a + s) = 0) ∧ 0 ≤ j ∧ j < J (-1) 3 then K (some (vI (J 25 (12 * (40 * a + s) + j)))) (ty, ln, pJ I (uJ J (-1) 0 0), R, c, w) else K (some (vI (0))) (ty, ln, pJ I (uJ J (-1) 0 1), R, c, w)) := by
  have a25 := h.a25
  have h0 := h.1
  have d1 := hs a
  by_cases q1 : (((0 ≤ a ∧ a ≤ 9) ∧ 0 < J 5 a) ∧ (0 ≤ s ∧ s < J 20 a) ∧ J 21 (40 * a + s) = 0) ∧ 0 ≤ j ∧ j < J (-1) 3 <;>
    simp (disch := omega) only [in_Mo_keeper, b_Mo_keeper_0, b_Mo_keeper_8, b_Mo_keeper_16, b_Mo_keeper_19, b_Mo_keeper_42, m_isPiece h hs hn, m_refused h, ↓h.e25, Option.toList_some, Option.toList_none, List.cons_append, List.nil_append, ↓if_pos, ↓if_neg, ↓and_t, pJ_a, pJ_m, up_a, up_m, Option.some.injEq, exists_eq_left', wr_a, wr_m, true_and, and_true, not_true_eq_false, not_false_eq_true, if_true, if_false, or_true, true_or, uJ_self, uJ_ne, upI_self, upI_ne, w32_id, reduceCtorEq, ne_eq]
theorem m_restored {d : Nat} {K : Kt} {X : Xt} {J : Int → Int → Int} {ty : Nm → Nat} {ln : Nm → Int} {I : Nm → Int → Int} {R : Nm → Int → Option Nm} {c w : Nat} {i : Int} (h : MOk ty ln R) (hn : 0 ≤ J (-1) 35 ∧ J (-1) 35 ≤ 200) :
    Mth (d + 2) M_Mo_restored [vR (some [2]), vI i] (ty, ln, pJ I J, R, c, w) K X = K (some (vI (if 0 ≤ i ∧ i < J (-1) 35 then J 36 i else -1))) (ty, ln, pJ I (uJ J (-1) 0 0), R, c, w) := by
  have a36 := h.a36
  have h0 := h.1
  by_cases q1 : 0 ≤ i ∧ i < J (-1) 35 <;>
    simp (disch := omega) only [in_Mo_restored, b_Mo_restored_0, b_Mo_restored_16, b_Mo_restored_29, s_Mo_isIn, ↓h.e36, Option.toList_some, Option.toList_none, List.cons_append, List.nil_append, ↓if_pos, ↓if_neg, ↓and_t, pJ_a, pJ_m, up_a, up_m, Option.some.injEq, exists_eq_left', wr_a, wr_m, true_and, and_true, not_true_eq_false, not_false_eq_true, if_true, if_false, or_true, true_or, uJ_self, uJ_ne, upI_self, upI_ne, w32_id, reduceCtorEq, ne_eq]
set_option maxHeartbeats 2000000 in
theorem m_write {d : Nat} {K : Kt} {X : Xt} {J : Int → Int → Int} {ty : Nm → Nat} {ln : Nm → Int} {I : Nm → Int → Int} {R : Nm → Int → Option Nm} {c w : Nat} {a t b : Int} (h : MOk ty ln R) (hz : ∀ j, 0 ≤ J 13 j ∧ J 13 j ≤ 200) :
    Mth (d + 3) M_Mo_write [vR (some [2]), vI a, vI t, vI b] (ty, ln, pJ I J, R, c, w) K X = (if ((0 ≤ a ∧ a ≤ 9) ∧ 0 < J 5 a) ∧ (0 ≤ t ∧ t ≤ 9) ∧ 0 ≤ b ∧ b ≤ 255 then (if J 7 a = 0 then (if J 12 (10 * a + t) = 0 then K (some (vI (1))) (ty, ln, pJ I (uJ (uJ (uJ (uJ (uJ J (-1) 0 0) 12 (10 * a + t) 1) 13 (10 * a + t) 0) 14 (200 * (10 * a + t)) b) 13 (10 * a + t) 1), R, c, w) else if J 13 (10 * a + t) = 200 then K (some (vI (0))) (ty, ln, pJ I (uJ J (-1) 0 2), R, c, w) else K (some (vI (J 13 (10 * a + t) + 1))) (ty, ln, pJ I (uJ (uJ (uJ J (-1) 0 0) 14 (200 * (10 * a + t) + J 13 (10 * a + t)) b) 13 (10 * a + t) (J 13 (10 * a + t) + 1)), R, c, w)) else K (some (vI (0))) (ty, ln, pJ I (uJ J (-1) 0 2), R, c, w)) else K (some (vI (0))) (ty, ln, pJ I (uJ J (-1) 0 1), R, c, w)) := by
  have a7 := h.a7
  have a12 := h.a12
  have a13 := h.a13
  have a14 := h.a14
  have h0 := h.1
  have d1 := hz (10 * a + t)
  by_cases q1 : ((0 ≤ a ∧ a ≤ 9) ∧ 0 < J 5 a)
  · by_cases q2 : 0 ≤ t ∧ t ≤ 9
    · by_cases q3 : 0 ≤ b ∧ b ≤ 255
      · by_cases q4 : J 7 a = 0
        · by_cases q5 : J 12 (10 * a + t) = 0
          · simp (disch := omega) only [in_Mo_write, b_Mo_write_0, b_Mo_write_5, b_Mo_write_15, b_Mo_write_26, b_Mo_write_33, b_Mo_write_34, b_Mo_write_86, b_Mo_write_90, b_Mo_write_91, b_Mo_write_94, b_Mo_write_133, m_isHouse h, m_refused h, s_Mo_isIn, ↓h.e7, ↓h.e12, ↓h.e13, ↓h.e14, Int.zero_add, Int.add_zero, Option.toList_some, Option.toList_none, List.cons_append, List.nil_append, ↓if_pos, ↓if_neg, ↓and_t, pJ_a, pJ_m, up_a, up_m, Option.some.injEq, exists_eq_left', wr_a, wr_m, true_and, and_true, not_true_eq_false, not_false_eq_true, if_true, if_false, or_true, true_or, uJ_self, uJ_ne, upI_self, upI_ne, w32_id, reduceCtorEq, ne_eq]
          · by_cases q6 : J 13 (10 * a + t) = 200
            · simp (disch := omega) only [in_Mo_write, b_Mo_write_0, b_Mo_write_5, b_Mo_write_15, b_Mo_write_26, b_Mo_write_33, b_Mo_write_34, b_Mo_write_86, b_Mo_write_90, b_Mo_write_91, b_Mo_write_94, b_Mo_write_133, m_isHouse h, m_refused h, s_Mo_isIn, ↓h.e7, ↓h.e12, ↓h.e13, ↓h.e14, Int.zero_add, Int.add_zero, Option.toList_some, Option.toList_none, List.cons_append, List.nil_append, ↓if_pos, ↓if_neg, ↓and_t, pJ_a, pJ_m, up_a, up_m, Option.some.injEq, exists_eq_left', wr_a, wr_m, true_and, and_true, not_true_eq_false, not_false_eq_true, if_true, if_false, or_true, true_or, uJ_self, uJ_ne, upI_self, upI_ne, w32_id, reduceCtorEq, ne_eq]
            · simp (disch := omega) only [in_Mo_write, b_Mo_write_0, b_Mo_write_5, b_Mo_write_15, b_Mo_write_26, b_Mo_write_33, b_Mo_write_34, b_Mo_write_86, b_Mo_write_90, b_Mo_write_91, b_Mo_write_94, b_Mo_write_133, m_isHouse h, m_refused h, s_Mo_isIn, ↓h.e7, ↓h.e12, ↓h.e13, ↓h.e14, Int.zero_add, Int.add_zero, Option.toList_some, Option.toList_none, List.cons_append, List.nil_append, ↓if_pos, ↓if_neg, ↓and_t, pJ_a, pJ_m, up_a, up_m, Option.some.injEq, exists_eq_left', wr_a, wr_m, true_and, and_true, not_true_eq_false, not_false_eq_true, if_true, if_false, or_true, true_or, uJ_self, uJ_ne, upI_self, upI_ne, w32_id, reduceCtorEq, ne_eq]
        · simp (disch := omega) only [in_Mo_write, b_Mo_write_0, b_Mo_write_5, b_Mo_write_15, b_Mo_write_26, b_Mo_write_33, b_Mo_write_34, b_Mo_write_86, b_Mo_write_90, b_Mo_write_91, b_Mo_write_94, b_Mo_write_133, m_isHouse h, m_refused h, s_Mo_isIn, ↓h.e7, ↓h.e12, ↓h.e13, ↓h.e14, Int.zero_add, Int.add_zero, Option.toList_some, Option.toList_none, List.cons_append, List.nil_append, ↓if_pos, ↓if_neg, ↓and_t, pJ_a, pJ_m, up_a, up_m, Option.some.injEq, exists_eq_left', wr_a, wr_m, true_and, and_true, not_true_eq_false, not_false_eq_true, if_true, if_false, or_true, true_or, uJ_self, uJ_ne, upI_self, upI_ne, w32_id, reduceCtorEq, ne_eq]
      · simp (disch := omega) only [in_Mo_write, b_Mo_write_0, b_Mo_write_5, b_Mo_write_15, b_Mo_write_26, b_Mo_write_33, b_Mo_write_34, b_Mo_write_86, b_Mo_write_90, b_Mo_write_91, b_Mo_write_94, b_Mo_write_133, m_isHouse h, m_refused h, s_Mo_isIn, ↓h.e7, ↓h.e12, ↓h.e13, ↓h.e14, Int.zero_add, Int.add_zero, Option.toList_some, Option.toList_none, List.cons_append, List.nil_append, ↓if_pos, ↓if_neg, ↓and_t, pJ_a, pJ_m, up_a, up_m, Option.some.injEq, exists_eq_left', wr_a, wr_m, true_and, and_true, not_true_eq_false, not_false_eq_true, if_true, if_false, or_true, true_or, uJ_self, uJ_ne, upI_self, upI_ne, w32_id, reduceCtorEq, ne_eq]
    · simp (disch := omega) only [in_Mo_write, b_Mo_write_0, b_Mo_write_5, b_Mo_write_15, b_Mo_write_26, b_Mo_write_33, b_Mo_write_34, b_Mo_write_86, b_Mo_write_90, b_Mo_write_91, b_Mo_write_94, b_Mo_write_133, m_isHouse h, m_refused h, s_Mo_isIn, ↓h.e7, ↓h.e12, ↓h.e13, ↓h.e14, Int.zero_add, Int.add_zero, Option.toList_some, Option.toList_none, List.cons_append, List.nil_append, ↓if_pos, ↓if_neg, ↓and_t, pJ_a, pJ_m, up_a, up_m, Option.some.injEq, exists_eq_left', wr_a, wr_m, true_and, and_true, not_true_eq_false, not_false_eq_true, if_true, if_false, or_true, true_or, uJ_self, uJ_ne, upI_self, upI_ne, w32_id, reduceCtorEq, ne_eq]
  · simp (disch := omega) only [in_Mo_write, b_Mo_write_0, b_Mo_write_5, b_Mo_write_15, b_Mo_write_26, b_Mo_write_33, b_Mo_write_34, b_Mo_write_86, b_Mo_write_90, b_Mo_write_91, b_Mo_write_94, b_Mo_write_133, m_isHouse h, m_refused h, s_Mo_isIn, ↓h.e7, ↓h.e12, ↓h.e13, ↓h.e14, Int.zero_add, Int.add_zero, Option.toList_some, Option.toList_none, List.cons_append, List.nil_append, ↓if_pos, ↓if_neg, ↓and_t, pJ_a, pJ_m, up_a, up_m, Option.some.injEq, exists_eq_left', wr_a, wr_m, true_and, and_true, not_true_eq_false, not_false_eq_true, if_true, if_false, or_true, true_or, uJ_self, uJ_ne, upI_self, upI_ne, w32_id, reduceCtorEq, ne_eq]

