/-! ===== the law's road: code, settle, restored, house ===== -/
theorem pJ_cong {I I' : Nm → Int → Int} {J : Int → Int → Int} {n : Nm} (h : I n = I' n) : pJ I J n = pJ I' J n := by
  match n, h with
  | [], h => exact h
  | [a], h => show (if a = 2 then _ else _) = (if a = 2 then _ else _); rw [h]
  | [a, b], h => show (if a = 3 ∧ b ≠ -1 then _ else _) = (if a = 3 ∧ b ≠ -1 then _ else _); rw [h]
  | _ :: _ :: _ :: _, h => exact h
theorem pJ_up {I : Nm → Int → Int} {J : Int → Int → Int} {n : Nm} {j v : Int} (h2 : hd n ≠ 2) (h3 : hd n ≠ 3) : up2 (pJ I J) n j v = pJ (up2 I n j v) J := by
  funext m
  by_cases q : m = n
  · subst q
    rw [up2_self, pJ_o h2 h3, pJ_o h2 h3, up2_self]
  · rw [up2_ne q]
    exact pJ_cong (up2_ne q).symm
theorem pJ_pJ {I : Nm → Int → Int} {J J' : Int → Int → Int} : pJ (pJ I J) J' = pJ I J' := by
  funext n
  match n with
  | [] => rfl
  | [a] =>
    show (if a = 2 then J' (-1) else (if a = 2 then J (-1) else I [a])) = (if a = 2 then J' (-1) else I [a])
    by_cases q : a = 2
    · rw [if_pos q, if_pos q]
    · rw [if_neg q, if_neg q, if_neg q]
  | [a, b] =>
    show (if a = 3 ∧ b ≠ -1 then J' b else (if a = 3 ∧ b ≠ -1 then J b else I [a, b])) = (if a = 3 ∧ b ≠ -1 then J' b else I [a, b])
    by_cases q : a = 3 ∧ b ≠ -1
    · rw [if_pos q, if_pos q]
    · rw [if_neg q, if_neg q, if_neg q]
  | _ :: _ :: _ :: _ => rfl
theorem l_code {d : Nat} {K : Kt} {X : Xt} {J : Int → Int → Int} {ty : Nm → Nat} {ln : Nm → Int} {I : Nm → Int → Int} {R : Nm → Int → Option Nm} {c w : Nat} {i : Int} {u5 u6 : Vl} (q5 : isLg u5 = false) (q6 : isLg u6 = false) (hS : ty [-3] = 20 ∧ 0 ≤ i ∧ i + 6 ≤ ln [-3] ∧ ln [-3] ≤ 3072) (hM : MOk ty ln R) (h : RG J ty ln (pJ I J) R) : Rn (d + 8) M_La_law K X 148 [vR (some [-3]), vR (some [1]), vR (some [2]), vR (some [18]), vI i, u5, u6] [] (ty, ln, pJ I J, R, c, w) = (if (2 ≤ (I [-3] (i + 1)) ∧ (I [-3] (i + 1)) ≤ 6) ∧ (I [-3] (i + 1)) ≤ (I [-3] (i + 2)) ∧ (I [-3] (i + 2)) ≤ 12 then (if J (-1) 4 = 0 then Rn (d + 8) M_La_law K X 1680 [vR (some [-3]), vR (some [1]), vR (some [2]), vR (some [18]), vI i, vI 0, u6] [] (ty, ln, pJ (up2 (up2 (up2 I [17] 3 (I [-3] (i + 1))) [17] 4 (I [-3] (i + 2))) [17] 5 (60 / (I [-3] (i + 1)))) (uJ (uJ (uJ J (-1) 0 0) (-1) 2 (I [-3] (i + 1))) (-1) 3 (I [-3] (i + 2))), R, c, w) else ((1 ≤ c ∧ 6 ≤ w) ∧ Rn (d + 8) M_La_law K X 1680 [vR (some [-3]), vR (some [1]), vR (some [2]), vR (some [18]), vI i, vI 2, u6] [] (ty, ln, pJ I (uJ J (-1) 0 2), R, c - 1, w - 6))) else ((1 ≤ c ∧ 6 ≤ w) ∧ Rn (d + 8) M_La_law K X 1680 [vR (some [-3]), vR (some [1]), vR (some [2]), vR (some [18]), vI i, vI 1, u6] [] (ty, ln, pJ I (uJ J (-1) 0 1), R, c - 1, w - 6))) := by
  have h0 := hM.1
  have p17 : ∀ {I J j v}, up2 (pJ I J) [17] j v = pJ (up2 I [17] j v) J := pJ_up (by decide) (by decide)
  have s0 : ∀ {I : Nm → Int → Int} {j v}, up2 I [17] j v [-3] = I [-3] := up2_ne (by decide)
  by_cases q1 : (2 ≤ (I [-3] (i + 1)) ∧ (I [-3] (i + 1)) ≤ 6) ∧ (I [-3] (i + 1)) ≤ (I [-3] (i + 2)) ∧ (I [-3] (i + 2)) ≤ 12
  · by_cases q2 : J (-1) 4 = 0
    · simp (disch := first | omega | assumption | rfl) only [b_La_law_148, b_La_law_164, b_La_law_182, b_La_law_186, w_code h, m_code hM, p17, s0, m_thrown hM, Option.toList_some, Option.toList_none, List.cons_append, List.nil_append, ↓if_pos, ↓if_neg, ↓and_t, ↓ex_some, pJ_s, true_and, and_true, not_true_eq_false, not_false_eq_true, if_true, if_false, or_true, true_or, uJ_self, uJ_ne, upI_self, upI_ne, w32_id, ite_self, Int.add_zero]
    · simp (disch := first | omega | assumption | rfl) only [b_La_law_148, b_La_law_164, b_La_law_182, b_La_law_186, w_code h, m_code hM, m_thrown hM, Option.toList_some, Option.toList_none, List.cons_append, List.nil_append, ↓if_pos, ↓if_neg, ↓and_t, ↓ex_some, pJ_s, true_and, and_true, not_true_eq_false, not_false_eq_true, if_true, if_false, or_true, true_or, uJ_self, uJ_ne, upI_self, upI_ne, w32_id, ite_self, Int.add_zero]
  · simp (disch := first | omega | assumption | rfl) only [b_La_law_148, b_La_law_164, b_La_law_182, b_La_law_186, w_code h, m_code hM, m_thrown hM, Option.toList_some, Option.toList_none, List.cons_append, List.nil_append, ↓if_pos, ↓if_neg, ↓and_t, ↓ex_some, pJ_s, true_and, and_true, not_true_eq_false, not_false_eq_true, if_true, if_false, or_true, true_or, uJ_self, uJ_ne, upI_self, upI_ne, w32_id, ite_self, Int.add_zero]
theorem l_restored {d : Nat} {K : Kt} {X : Xt} {J : Int → Int → Int} {ty : Nm → Nat} {ln : Nm → Int} {I : Nm → Int → Int} {R : Nm → Int → Option Nm} {c w : Nat} {i : Int} {u5 u6 : Vl} (q5 : isLg u5 = false) (q6 : isLg u6 = false) (hS : ty [-3] = 20 ∧ 0 ≤ i ∧ i + 6 ≤ ln [-3] ∧ ln [-3] ≤ 3072) (hM : MOk ty ln R) (h : RG J ty ln (pJ I J) R) : Rn (d + 8) M_La_law K X 1199 [vR (some [-3]), vR (some [1]), vR (some [2]), vR (some [18]), vI i, u5, u6] [] (ty, ln, pJ I J, R, c, w) = Rn (d + 8) M_La_law K X 1680 [vR (some [-3]), vR (some [1]), vR (some [2]), vR (some [18]), vI i, u5, u6] [] (ty, ln, pJ I (uJ J (-1) 0 0), R, c, w) := by
  have h0 := hM.1
  have h1 := h.1.1
  have hn : 0 ≤ J (-1) 35 ∧ J (-1) 35 ≤ 200 := h.2.2.2.2.2.2.2.2.2.1
  simp (disch := first | omega | assumption | rfl) only [b_La_law_1199, b_La_law_1209, b_La_law_1219, x_restored h, m_restored hM hn, Option.toList_some, Option.toList_none, List.cons_append, List.nil_append, ↓if_pos, ↓if_neg, ↓and_t, ↓ex_some, pJ_s, true_and, and_true, not_true_eq_false, not_false_eq_true, if_true, if_false, or_true, true_or, uJ_self, uJ_ne, upI_self, upI_ne, w32_id, ite_self, Int.add_zero]
theorem l_settle {d : Nat} {K : Kt} {X : Xt} {J : Int → Int → Int} {ty : Nm → Nat} {ln : Nm → Int} {I : Nm → Int → Int} {R : Nm → Int → Option Nm} {c w : Nat} {i : Int} {u5 u6 : Vl} (q5 : isLg u5 = false) (q6 : isLg u6 = false) (hS : ty [-3] = 20 ∧ 0 ≤ i ∧ i + 6 ≤ ln [-3] ∧ ln [-3] ≤ 3072) (hM : MOk ty ln R) (h : RG J ty ln (pJ I J) R) (hH : ∀ a : Int, 0 ≤ a → a ≤ 9 → 0 < J 5 a → HS ty ln R a) (hd : ∀ j, 0 ≤ J 11 j ∧ J 11 j ≤ 1000000) (hk : ∀ j, 0 ≤ J 10 j ∧ J 10 j ≤ 100) : Rn (d + 8) M_La_law K X 1576 [vR (some [-3]), vR (some [1]), vR (some [2]), vR (some [18]), vI i, u5, u6] [] (ty, ln, pJ I J, R, c, w) = (if J (-1) 1 ≤ (I [-3] (i + 1)) ∧ (I [-3] (i + 1)) ≤ 10000 then Rn (d + 8) M_La_law K X 1680 [vR (some [-3]), vR (some [1]), vR (some [2]), vR (some [18]), vI i, vI 0, u6] [] (ty, ln, pJ (up2 (stD (pJ I J) J ((I [-3] (i + 1)) - J (-1) 1) 10) [1] 8 (I [-3] (i + 1))) (uJ (wJ (uJ J (-1) 0 0) 11 0 100 (fun j => J 11 j + ((I [-3] (i + 1)) - J (-1) 1) * J 10 j)) (-1) 1 (I [-3] (i + 1))), R, c, w) else ((1 ≤ c ∧ 6 ≤ w) ∧ Rn (d + 8) M_La_law K X 1680 [vR (some [-3]), vR (some [1]), vR (some [2]), vR (some [18]), vI i, vI 1, u6] [] (ty, ln, pJ I (uJ J (-1) 0 1), R, c - 1, w - 6))) := by
  have h0 := hM.1
  have h1 : 0 ≤ J (-1) 1 := h.2.2.2.2.2.2.2.2.2.2.2.1
  have e1 : ∀ x v, up2 (stD (pJ I J) J x 10) [1] 8 v = pJ (up2 (stD (pJ I J) J x 10) [1] 8 v) J := fun x v => by
    have e2 : gJ (up2 (stD (pJ I J) J x 10) [1] 8 v) = J := by
      funext k
      unfold gJ
      by_cases q : k = -1
      · rw [if_pos q, up2_ne (by decide), stD_o (by simp), pJ_m, q]
      · rw [if_neg q, up2_ne (by simp), stD_o (by simp), pJ_a q]
    conv => lhs; rw [← pJ_g (I := up2 (stD (pJ I J) J x 10) [1] 8 v), e2]
  have s0 : ∀ x v, up2 (stD (pJ I J) J x 10) [1] 8 v [-3] = I [-3] := fun x v => by rw [up2_ne (by decide), stD_o (by simp), pJ_s]
  by_cases q1 : J (-1) 1 ≤ (I [-3] (i + 1)) ∧ (I [-3] (i + 1)) ≤ 10000
  · obtain ⟨I', hI'⟩ : ∃ x, x = up2 (stD (pJ I J) J ((I [-3] (i + 1)) - J (-1) 1) 10) [1] 8 (I [-3] (i + 1)) := ⟨_, rfl⟩
    have e1' := e1 ((I [-3] (i + 1)) - J (-1) 1) (I [-3] (i + 1))
    have s0' := s0 ((I [-3] (i + 1)) - J (-1) 1) (I [-3] (i + 1))
    rw [← hI'] at e1' s0'
    simp (disch := first | omega | assumption | rfl) only [b_La_law_1576, w_settle h hH, ← hI', Option.toList_some, Option.toList_none, List.cons_append, List.nil_append, ↓if_pos, ↓if_neg, ↓and_t, ↓ex_some, pJ_s, true_and, and_true, not_true_eq_false, not_false_eq_true, if_true, if_false, or_true, true_or, uJ_self, uJ_ne, upI_self, upI_ne, w32_id, ite_self, Int.add_zero]
    rw [e1']
    simp (disch := first | omega | assumption | rfl) only [b_La_law_1586, b_La_law_1598, b_La_law_1602, m_settle hM hd hk h1, s0', pJ_pJ, wJ_ne, m_thrown hM, Option.toList_some, Option.toList_none, List.cons_append, List.nil_append, ↓if_pos, ↓if_neg, ↓and_t, ↓ex_some, pJ_s, true_and, and_true, not_true_eq_false, not_false_eq_true, if_true, if_false, or_true, true_or, uJ_self, uJ_ne, upI_self, upI_ne, w32_id, ite_self, Int.add_zero]
  · simp (disch := first | omega | assumption | rfl) only [b_La_law_1576, b_La_law_1586, b_La_law_1598, b_La_law_1602, w_settle h hH, m_settle hM hd hk h1, m_thrown hM, Option.toList_some, Option.toList_none, List.cons_append, List.nil_append, ↓if_pos, ↓if_neg, ↓and_t, ↓ex_some, pJ_s, true_and, and_true, not_true_eq_false, not_false_eq_true, if_true, if_false, or_true, true_or, uJ_self, uJ_ne, upI_self, upI_ne, w32_id, ite_self, Int.add_zero]
theorem l_house_1 {d : Nat} {K : Kt} {X : Xt} {J : Int → Int → Int} {ty : Nm → Nat} {ln : Nm → Int} {I : Nm → Int → Int} {R : Nm → Int → Option Nm} {c w : Nat} {i : Int} {u5 u6 : Vl} (q5 : isLg u5 = false) (q6 : isLg u6 = false) (hS : ty [-3] = 20 ∧ 0 ≤ i ∧ i + 6 ≤ ln [-3] ∧ ln [-3] ≤ 3072) (hM : MOk ty ln R) (h : RG J ty ln (pJ I J) R) (q : ¬ ((0 ≤ (I [-3] (i + 1)) ∧ (I [-3] (i + 1)) ≤ 9) ∧ 1 ≤ (I [-3] (i + 2)) ∧ (I [-3] (i + 2)) ≤ 400)) : Rn (d + 8) M_La_law K X 196 [vR (some [-3]), vR (some [1]), vR (some [2]), vR (some [18]), vI i, u5, u6] [] (ty, ln, pJ I J, R, c, w) = ((1 ≤ c ∧ 6 ≤ w) ∧ Rn (d + 8) M_La_law K X 1680 [vR (some [-3]), vR (some [1]), vR (some [2]), vR (some [18]), vI i, vI 1, u6] [] (ty, ln, pJ I (uJ J (-1) 0 1), R, c - 1, w - 6)) := by
  have h0 := hM.1
  simp (disch := first | omega | assumption | rfl) only [b_La_law_196, b_La_law_212, b_La_law_230, b_La_law_234, w_house_1 h q, m_house hM, m_thrown hM, Option.toList_some, Option.toList_none, List.cons_append, List.nil_append, ↓if_pos, ↓if_neg, ↓and_t, ↓ex_some, pJ_s, true_and, and_true, not_true_eq_false, not_false_eq_true, if_true, if_false, or_true, true_or, uJ_self, uJ_ne, upI_self, upI_ne, w32_id, ite_self, Int.add_zero]
theorem l_house_2 {d : Nat} {K : Kt} {X : Xt} {J : Int → Int → Int} {ty : Nm → Nat} {ln : Nm → Int} {I : Nm → Int → Int} {R : Nm → Int → Option Nm} {c w : Nat} {i : Int} {u5 u6 : Vl} (q5 : isLg u5 = false) (q6 : isLg u6 = false) (hS : ty [-3] = 20 ∧ 0 ≤ i ∧ i + 6 ≤ ln [-3] ∧ ln [-3] ≤ 3072) (hM : MOk ty ln R) (h : RG J ty ln (pJ I J) R) (q : (0 ≤ (I [-3] (i + 1)) ∧ (I [-3] (i + 1)) ≤ 9) ∧ 1 ≤ (I [-3] (i + 2)) ∧ (I [-3] (i + 2)) ≤ 400) (q2 : 0 < J 5 (I [-3] (i + 1))) : Rn (d + 8) M_La_law K X 196 [vR (some [-3]), vR (some [1]), vR (some [2]), vR (some [18]), vI i, u5, u6] [] (ty, ln, pJ I J, R, c, w) = ((1 ≤ c ∧ 6 ≤ w) ∧ Rn (d + 8) M_La_law K X 1680 [vR (some [-3]), vR (some [1]), vR (some [2]), vR (some [18]), vI i, vI 2, u6] [] (ty, ln, pJ I (uJ J (-1) 0 2), R, c - 1, w - 6)) := by
  have h0 := hM.1
  simp (disch := first | omega | assumption | rfl) only [b_La_law_196, b_La_law_212, b_La_law_230, b_La_law_234, w_house_2 h q q2, m_house hM, m_thrown hM, Option.toList_some, Option.toList_none, List.cons_append, List.nil_append, ↓if_pos, ↓if_neg, ↓and_t, ↓ex_some, pJ_s, true_and, and_true, not_true_eq_false, not_false_eq_true, if_true, if_false, or_true, true_or, uJ_self, uJ_ne, upI_self, upI_ne, w32_id, ite_self, Int.add_zero]
