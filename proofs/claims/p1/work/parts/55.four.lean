/-! ===== code, settle, restored, house: class, wrapper, law ===== -/
theorem x_code {d : Nat} {K : Kt} {X : Xt} {J : Int → Int → Int} {ty : Nm → Nat} {ln : Nm → Int} {I : Nm → Int → Int} {R : Nm → Int → Option Nm} {c w : Nat} {a b : Int} (h : RG J ty ln I R) : Mth (d + 7) M_FB_code [vR (some [1]), vI a, vI b] (ty, ln, I, R, c, w) K X = (if (2 ≤ a ∧ a ≤ 6) ∧ a ≤ b ∧ b ≤ 12 then (if J (-1) 4 = 0 then K none (ty, ln, up2 (up2 (up2 I [17] 3 a) [17] 4 b) [17] 5 (60 / a), R, c, w) else ((1 ≤ c ∧ 6 ≤ w) ∧ X 2 (ty, ln, I, R, c - 1, w - 6))) else ((1 ≤ c ∧ 6 ≤ w) ∧ X 1 (ty, ln, I, R, c - 1, w - 6))) := by
  obtain ⟨s1, -, s3, -⟩ := id h.1
  have t1 := h.2.1.1
  have z := h.2.2.2.2.1.2.1
  by_cases q1 : 2 ≤ a ∧ a ≤ 6
  · by_cases q2 : a ≤ b ∧ b ≤ 12
    · by_cases q3 : J (-1) 4 = 0
      · simp (disch := omega) only [in_FB_code, b_FB_code_0, b_FB_code_7, b_FB_code_17, b_FB_code_24, b_FB_code_25, b_FB_code_28, b_FB_code_40, b_FB_code_43, b_FB_code_52, s_FB_isWithin, x_rA, x_rA1, x_rS, x_rS1, s_Coder_use t1, s3, z, Option.toList_some, Option.toList_none, List.cons_append, List.nil_append, ↓if_pos, ↓if_neg, ↓and_t, ↓ex_some, true_and, and_true, not_true_eq_false, not_false_eq_true, if_true, if_false, or_true, true_or, w32_id]
      · simp (disch := omega) only [in_FB_code, b_FB_code_0, b_FB_code_7, b_FB_code_17, b_FB_code_24, b_FB_code_25, b_FB_code_28, b_FB_code_40, b_FB_code_43, b_FB_code_52, s_FB_isWithin, x_rA, x_rA1, x_rS, x_rS1, s_Coder_use t1, s3, z, Option.toList_some, Option.toList_none, List.cons_append, List.nil_append, ↓if_pos, ↓if_neg, ↓and_t, ↓ex_some, true_and, and_true, not_true_eq_false, not_false_eq_true, if_true, if_false, or_true, true_or, w32_id]
    · simp (disch := omega) only [in_FB_code, b_FB_code_0, b_FB_code_7, b_FB_code_17, b_FB_code_24, b_FB_code_25, b_FB_code_28, b_FB_code_40, b_FB_code_43, b_FB_code_52, s_FB_isWithin, x_rA, x_rA1, x_rS, x_rS1, s_Coder_use t1, s3, z, Option.toList_some, Option.toList_none, List.cons_append, List.nil_append, ↓if_pos, ↓if_neg, ↓and_t, ↓ex_some, true_and, and_true, not_true_eq_false, not_false_eq_true, if_true, if_false, or_true, true_or, w32_id]
  · simp (disch := omega) only [in_FB_code, b_FB_code_0, b_FB_code_7, b_FB_code_17, b_FB_code_24, b_FB_code_25, b_FB_code_28, b_FB_code_40, b_FB_code_43, b_FB_code_52, s_FB_isWithin, x_rA, x_rA1, x_rS, x_rS1, s_Coder_use t1, s3, z, Option.toList_some, Option.toList_none, List.cons_append, List.nil_append, ↓if_pos, ↓if_neg, ↓and_t, ↓ex_some, true_and, and_true, not_true_eq_false, not_false_eq_true, if_true, if_false, or_true, true_or, w32_id]
theorem w_code {d : Nat} {K : Kt} {X : Xt} {J : Int → Int → Int} {ty : Nm → Nat} {ln : Nm → Int} {I : Nm → Int → Int} {R : Nm → Int → Option Nm} {c w : Nat} {a b : Int} (h : RG J ty ln I R) : Mth (d + 8) M_La_code [vR (some [1]), vI a, vI b] (ty, ln, I, R, c, w) K X = (if (2 ≤ a ∧ a ≤ 6) ∧ a ≤ b ∧ b ≤ 12 then (if J (-1) 4 = 0 then K (some (vI 0)) (ty, ln, up2 (up2 (up2 I [17] 3 a) [17] 4 b) [17] 5 (60 / a), R, c, w) else ((1 ≤ c ∧ 6 ≤ w) ∧ K (some (vI 2)) (ty, ln, I, R, c - 1, w - 6))) else ((1 ≤ c ∧ 6 ≤ w) ∧ K (some (vI 1)) (ty, ln, I, R, c - 1, w - 6))) := by
  rw [in_La_code, b_La_code_0, and_t h.1.1, x_code h, thr_21 rfl rfl (by decide) (by decide) (by decide) (by decide), thr_22 rfl rfl (by decide) (by decide) (by decide) (by decide), b_La_code_9, b_La_code_12]
  exact ite_c (ite_c b_La_code_6 rfl) rfl
/-- the days of the first houses added -/
def stD (I : Nm → Int → Int) (J : Int → Int → Int) (x : Int) : Nat → Nm → Int → Int
  | 0 => I
  | a + 1 => if 0 < J 5 (a : Int) then dyI (stD I J x a) [4, (a : Int), 4] [4, (a : Int), 3] x 10 else stD I J x a
theorem dyI_ne {I : Nm → Int → Int} {a b n : Nm} {x i : Int} (h : n ≠ a) : dyI I a b x i n = I n := by
  funext j
  exact if_neg fun z => h z.1
theorem stD_o {I : Nm → Int → Int} {J : Int → Int → Int} {x : Int} {n : Nm} (h : ∀ a, n ≠ [4, a, 4]) : ∀ k, stD I J x k n = I n
  | 0 => rfl
  | k + 1 => by
    show (if 0 < J 5 (k : Int) then _ else _ : Nm → Int → Int) n = _
    by_cases q : 0 < J 5 (k : Int)
    · rw [if_pos q, dyI_ne (h _), stD_o h k]
    · rw [if_neg q, stD_o h k]
theorem x_settle {d : Nat} {K : Kt} {X : Xt} {J : Int → Int → Int} {ty : Nm → Nat} {ln : Nm → Int} {I : Nm → Int → Int} {R : Nm → Int → Option Nm} {c w : Nat} {x : Int} (h : RG J ty ln I R) (hH : ∀ a : Int, 0 ≤ a → a ≤ 9 → 0 < J 5 a → HS ty ln R a) : Mth (d + 7) M_FB_settle [vR (some [1]), vI x] (ty, ln, I, R, c, w) K X = (if J (-1) 1 ≤ x ∧ x ≤ 10000 then K none (ty, ln, up2 (stD I J (x - J (-1) 1) 10) [1] 8 x, R, c, w) else ((1 ≤ c ∧ 6 ≤ w) ∧ X 1 (ty, ln, I, R, c - 1, w - 6))) := by
  obtain ⟨s1, s2, -, -, -, -, -, s8, -⟩ := id h.1
  have z := h.2.2.2.2.1.2.2
  have zz := h.2.2.2.2.2.2.2.2.2.2.2
  have hR := h.2.2.2.2.2.2.1
  by_cases q1 : J (-1) 1 ≤ x ∧ x ≤ 10000
  · have key : ∀ k i : Nat, i + k = 10 → Rn (d + 6) M_FB_settle K X 16 [vR (some [1]), vI x, vI (i : Int)] [] (ty, ln, stD I J (x - J (-1) 1) i, R, c, w) = K none (ty, ln, up2 (stD I J (x - J (-1) 1) 10) [1] 8 x, R, c, w) := by
      intro k
      induction k with
      | zero =>
        intro i hi
        rw [b_FB_settle_16, if_pos (by omega), and_t ⟨s1, rfl⟩, show i = 10 by omega]
      | succ k ih =>
        intro i hi
        have ih' := ih (i + 1) (by omega)
        have e : stD I J (x - J (-1) 1) (i + 1) = if 0 < J 5 (i : Int) then dyI (stD I J (x - J (-1) 1) i) [4, (i : Int), 4] [4, (i : Int), 3] (x - J (-1) 1) 10 else stD I J (x - J (-1) 1) i := rfl
        rw [e] at ih'
        have hr := hR i (by omega) (by omega)
        have e8 : stD I J (x - J (-1) 1) i [1] 8 = J (-1) 1 := by rw [stD_o (by simp), z]
        rw [b_FB_settle_16, if_neg (by omega), and_t s1, s2, ex_some, and_t ⟨⟨by omega, by omega⟩, by omega, by omega⟩]
        by_cases q : 0 < J 5 (i : Int)
        · rw [if_pos q] at hr ih'
          obtain ⟨h0, -, h3, h4, -⟩ := hH i (by omega) (by omega) q
          rw [if_neg (by rw [hr]; simp), and_t s1, ex_some, and_t ⟨⟨by omega, by omega⟩, by omega, by omega⟩, and_t s1, hr, ex_some, and_t h0, e8, w32_id (by omega) (by omega), s_House_addDays h0 h4.1 h4.2.1 h4.2.2 h3.1 h3.2.1 h3.2.2 rfl (by simp)]
          refine b_FB_settle_46.trans ?_
          rw [w32_id (by omega) (by omega)]
          exact ih'
        · rw [if_neg q] at hr ih'
          rw [if_pos hr, b_FB_settle_46, w32_id (by omega) (by omega)]
          exact ih'
    have k0 := key 10 0 rfl
    simp (disch := omega) only [in_FB_settle, b_FB_settle_0, b_FB_settle_11, b_FB_settle_14, s_FB_isWithin, x_rA1, z, Option.toList_some, Option.toList_none, List.cons_append, List.nil_append, ↓if_pos, ↓if_neg, ↓and_t, ↓ex_some, true_and, and_true, not_true_eq_false, not_false_eq_true, if_true, if_false, or_true, true_or, w32_id]
    exact k0
  · simp (disch := omega) only [in_FB_settle, b_FB_settle_0, b_FB_settle_11, s_FB_isWithin, x_rA, z, Option.toList_some, Option.toList_none, List.cons_append, List.nil_append, ↓if_pos, ↓if_neg, ↓and_t, ↓ex_some, true_and, and_true, not_true_eq_false, not_false_eq_true, if_true, if_false, or_true, true_or, w32_id]
theorem w_settle {d : Nat} {K : Kt} {X : Xt} {J : Int → Int → Int} {ty : Nm → Nat} {ln : Nm → Int} {I : Nm → Int → Int} {R : Nm → Int → Option Nm} {c w : Nat} {x : Int} (h : RG J ty ln I R) (hH : ∀ a : Int, 0 ≤ a → a ≤ 9 → 0 < J 5 a → HS ty ln R a) : Mth (d + 8) M_La_settle [vR (some [1]), vI x] (ty, ln, I, R, c, w) K X = (if J (-1) 1 ≤ x ∧ x ≤ 10000 then K (some (vI 0)) (ty, ln, up2 (stD I J (x - J (-1) 1) 10) [1] 8 x, R, c, w) else ((1 ≤ c ∧ 6 ≤ w) ∧ K (some (vI 1)) (ty, ln, I, R, c - 1, w - 6))) := by
  rw [in_La_settle, b_La_settle_0, and_t h.1.1, x_settle h hH, thr_1 rfl rfl (by decide) (by decide), b_La_settle_8]
  exact ite_c b_La_settle_5 rfl
theorem x_restored {d : Nat} {K : Kt} {X : Xt} {J : Int → Int → Int} {ty : Nm → Nat} {ln : Nm → Int} {I : Nm → Int → Int} {R : Nm → Int → Option Nm} {c w : Nat} {x : Int} (h : RG J ty ln I R) : Mth (d + 2) M_FB_restored [vR (some [1]), vI x] (ty, ln, I, R, c, w) K X = K (some (vI (if 0 ≤ x ∧ x < J (-1) 35 then J 36 x else -1))) (ty, ln, I, R, c, w) := by
  obtain ⟨s1, -, -, -, s5, -, -, -, s9, -⟩ := id h.1
  have z := h.2.2.2.2.1.1
  have zz := h.2.2.2.2.2.2.2.2.2.1
  have zr := h.2.2.2.2.2.1
  rw [s_FB_restored s1 s5 s9.1 (by omega) (by omega) (by omega), z]
  by_cases q : 0 ≤ x ∧ x < J (-1) 35
  · rw [if_pos q, if_pos q, zr x q.1 q.2]
  · rw [if_neg q, if_neg q]
