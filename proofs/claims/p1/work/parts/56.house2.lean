/-! ===== house: class and wrapper ===== -/
theorem x_house_1 {d : Nat} {K : Kt} {X : Xt} {J : Int → Int → Int} {ty : Nm → Nat} {ln : Nm → Int} {I : Nm → Int → Int} {R : Nm → Int → Option Nm} {c w : Nat} {a b : Int} (h : RG J ty ln I R) (q : ¬ ((0 ≤ a ∧ a ≤ 9) ∧ 1 ≤ b ∧ b ≤ 400)) : Mth (d + 7) M_FB_house [vR (some [1]), vI a, vI b] (ty, ln, I, R, c, w) K X = ((1 ≤ c ∧ 6 ≤ w) ∧ X 1 (ty, ln, I, R, c - 1, w - 6)) := by
  by_cases q1 : 0 ≤ a ∧ a ≤ 9
  · simp (disch := omega) only [in_FB_house, b_FB_house_0, b_FB_house_7, b_FB_house_18, b_FB_house_25, b_FB_house_26, b_FB_house_29, b_FB_house_43, b_FB_house_46, b_FB_house_60, s_FB_isWithin, x_rA, Option.toList_some, Option.toList_none, List.cons_append, List.nil_append, ↓if_pos, ↓if_neg, ↓and_t, ↓ex_some, true_and, and_true, not_true_eq_false, not_false_eq_true, if_true, if_false, or_true, true_or, w32_id, reduceCtorEq]
  · simp (disch := omega) only [in_FB_house, b_FB_house_0, b_FB_house_7, b_FB_house_18, b_FB_house_25, b_FB_house_26, b_FB_house_29, b_FB_house_43, b_FB_house_46, b_FB_house_60, s_FB_isWithin, x_rA, Option.toList_some, Option.toList_none, List.cons_append, List.nil_append, ↓if_pos, ↓if_neg, ↓and_t, ↓ex_some, true_and, and_true, not_true_eq_false, not_false_eq_true, if_true, if_false, or_true, true_or, w32_id, reduceCtorEq]
theorem x_house_2 {d : Nat} {K : Kt} {X : Xt} {J : Int → Int → Int} {ty : Nm → Nat} {ln : Nm → Int} {I : Nm → Int → Int} {R : Nm → Int → Option Nm} {c w : Nat} {a b : Int} (h : RG J ty ln I R) (q : (0 ≤ a ∧ a ≤ 9) ∧ 1 ≤ b ∧ b ≤ 400) (q2 : 0 < J 5 a) : Mth (d + 7) M_FB_house [vR (some [1]), vI a, vI b] (ty, ln, I, R, c, w) K X = ((1 ≤ c ∧ 6 ≤ w) ∧ X 2 (ty, ln, I, R, c - 1, w - 6)) := by
  obtain ⟨s1, s2, -, -, -, -, -, s8, -⟩ := id h.1
  have hR := h.2.2.2.2.2.2.1 a q.1.1 q.1.2
  rw [if_pos q2] at hR
  simp (disch := omega) only [in_FB_house, b_FB_house_0, b_FB_house_7, b_FB_house_18, b_FB_house_25, b_FB_house_26, b_FB_house_29, b_FB_house_43, b_FB_house_46, b_FB_house_60, s_FB_isWithin, x_rA1, x_rS, s2, hR, Option.toList_some, Option.toList_none, List.cons_append, List.nil_append, ↓if_pos, ↓if_neg, ↓and_t, ↓ex_some, true_and, and_true, not_true_eq_false, not_false_eq_true, if_true, if_false, or_true, true_or, w32_id, reduceCtorEq]
theorem x_house_0 {d : Nat} {K : Kt} {X : Xt} {J : Int → Int → Int} {ty : Nm → Nat} {ln : Nm → Int} {I : Nm → Int → Int} {R : Nm → Int → Option Nm} {c w : Nat} {a b : Int} (h : RG J ty ln I R) (q : (0 ≤ a ∧ a ≤ 9) ∧ 1 ≤ b ∧ b ≤ 400) (q2 : ¬ 0 < J 5 a) (hf : ∀ l, ty (4 :: a :: l) = 0) (hc9 : 19 ≤ c) (hw9 : 2073 ≤ w)
    (k : (∀ (ty' : Nm → Nat) (ln' : Nm → Int) (I' : Nm → Int → Int) (R' : Nm → Int → Option Nm), HS ty' ln' R' a → (I' [4, a] = hI0 a b ∧ (∀ k : Int, k = 2 ∨ k = 3 ∨ k = 4 ∨ k = 7 ∨ k = 8 ∨ k = 9 → I' [4, a, k] = fun _ => 0) ∧ (∀ t : Int, 0 ≤ t → t < 10 → I' [4, a, 6] t = -1)) → (∀ k : Int, k = 7 ∨ k = 8 ∨ k = 9 → R' [4, a, k] 0 = some nE) → (∀ l : List Int, 2 ≤ l.length → (∀ t, l ≠ [5, t]) → ty' (4 :: a :: l) = 0) → (∀ n, (∀ l, n ≠ 4 :: a :: l) → ty' n = ty n ∧ ln' n = ln n ∧ I' n = I n) → (∀ n, (∀ l, n ≠ 4 :: a :: l) → n ≠ [1, 0] → R' n = R n) → R' [1, 0] = upI (R [1, 0]) a (some [4, a]) → K none (ty', ln', I', R', c - 19, w - 2073))) : Mth (d + 7) M_FB_house [vR (some [1]), vI a, vI b] (ty, ln, I, R, c, w) K X := by
  obtain ⟨s1, s2, -, -, -, -, -, s8, -⟩ := id h.1
  have hR := h.2.2.2.2.2.2.1 a q.1.1 q.1.2
  rw [if_neg q2] at hR
  simp (disch := omega) only [in_FB_house, b_FB_house_0, b_FB_house_7, b_FB_house_18, b_FB_house_25, b_FB_house_26, b_FB_house_29, b_FB_house_43, b_FB_house_46, s_FB_isWithin, x_rA1, x_rS1, s2, hR, Option.toList_some, Option.toList_none, List.cons_append, List.nil_append, ↓if_pos, ↓if_neg, ↓and_t, ↓ex_some, true_and, and_true, not_true_eq_false, not_false_eq_true, if_true, if_false, or_true, true_or, w32_id, reduceCtorEq]
  refine ⟨[4, a], hf [], ?_⟩
  refine c_House_init (upN_self _ _ _) (upN_self _ _ _) (fun l hl => by rw [upN_ne _ _ (nm4 (l' := []) hl)]; exact hf l) (by omega) (by omega) ?_
  intro ty' ln' I' R' k1 k2 k3 k4 k5
  have e : ∀ n, (∀ l, n ≠ 4 :: a :: l) → ty' n = ty n ∧ ln' n = ln n ∧ I' n = I n ∧ R' n = R n := fun n hn => by
    obtain ⟨y1, y2, y3, y4⟩ := k5 n hn
    rw [y1, y2, y3, y4, upN_ne _ _ (hn _), upN_ne _ _ (hn _), upN_ne _ _ (hn _), upN_ne _ _ (hn _)]
    exact ⟨rfl, rfl, rfl, rfl⟩
  obtain ⟨e1, e2, e3, e4⟩ := e [1, 0] (by simp)
  refine b_FB_house_60.mpr ⟨[1, 0], rfl, ⟨⟨by omega, by omega⟩, rfl, by omega, by omega, ?_⟩, ?_⟩
  · show 100 ≤ ty' [4, a] ∧ avB (ty' [1, 0]) (ty' [4, a] - 100) = true
    rw [k1.1, e1, s8.1]
    exact ⟨by decide, rfl⟩
  · have ec : c - 1 - 18 = c - 19 := by omega
    have ew : w - 14 - 2059 = w - 2073 := by omega
    rw [ec, ew]
    refine k ty' ln' I' (up2 R' [1, 0] a (some [4, a])) ?_ k2 (fun k hk => by rw [up2_ne (by simp)]; exact k3 k hk) k4 (fun n hn => ⟨(e n hn).1, (e n hn).2.1, (e n hn).2.2.1⟩) (fun n hn h1 => by rw [up2_ne h1]; exact (e n hn).2.2.2) (by rw [up2_self, e4])
    obtain ⟨z1, z2, z3, z4, z5, z6, z7, z8, z9, z10⟩ := k1
    refine ⟨z1, ?_, ?_, ?_, ?_, fun t x y => ?_, ?_, ?_, ?_, ?_⟩ <;> rw [up2_ne (by simp)]
    · exact z2
    · exact z3
    · exact z4
    · exact z5
    · exact z6 t x y
    · exact z7
    · exact z8
    · exact z9
    · exact z10
theorem w_house_1 {d : Nat} {K : Kt} {X : Xt} {J : Int → Int → Int} {ty : Nm → Nat} {ln : Nm → Int} {I : Nm → Int → Int} {R : Nm → Int → Option Nm} {c w : Nat} {a b : Int} (h : RG J ty ln I R) (q : ¬ ((0 ≤ a ∧ a ≤ 9) ∧ 1 ≤ b ∧ b ≤ 400)) : Mth (d + 8) M_La_house [vR (some [1]), vI a, vI b] (ty, ln, I, R, c, w) K X = ((1 ≤ c ∧ 6 ≤ w) ∧ K (some (vI 1)) (ty, ln, I, R, c - 1, w - 6)) := by
  rw [in_La_house, b_La_house_0, and_t h.1.1, x_house_1 h q, thr_21 rfl rfl (by decide) (by decide) (by decide) (by decide), b_La_house_9]
theorem w_house_2 {d : Nat} {K : Kt} {X : Xt} {J : Int → Int → Int} {ty : Nm → Nat} {ln : Nm → Int} {I : Nm → Int → Int} {R : Nm → Int → Option Nm} {c w : Nat} {a b : Int} (h : RG J ty ln I R) (q : (0 ≤ a ∧ a ≤ 9) ∧ 1 ≤ b ∧ b ≤ 400) (q2 : 0 < J 5 a) : Mth (d + 8) M_La_house [vR (some [1]), vI a, vI b] (ty, ln, I, R, c, w) K X = ((1 ≤ c ∧ 6 ≤ w) ∧ K (some (vI 2)) (ty, ln, I, R, c - 1, w - 6)) := by
  rw [in_La_house, b_La_house_0, and_t h.1.1, x_house_2 h q q2, thr_22 rfl rfl (by decide) (by decide) (by decide) (by decide), b_La_house_12]
theorem w_house_0 {d : Nat} {K : Kt} {X : Xt} {J : Int → Int → Int} {ty : Nm → Nat} {ln : Nm → Int} {I : Nm → Int → Int} {R : Nm → Int → Option Nm} {c w : Nat} {a b : Int} (h : RG J ty ln I R) (q : (0 ≤ a ∧ a ≤ 9) ∧ 1 ≤ b ∧ b ≤ 400) (q2 : ¬ 0 < J 5 a) (hf : ∀ l, ty (4 :: a :: l) = 0) (hc9 : 19 ≤ c) (hw9 : 2073 ≤ w)
    (k : (∀ (ty' : Nm → Nat) (ln' : Nm → Int) (I' : Nm → Int → Int) (R' : Nm → Int → Option Nm), HS ty' ln' R' a → (I' [4, a] = hI0 a b ∧ (∀ k : Int, k = 2 ∨ k = 3 ∨ k = 4 ∨ k = 7 ∨ k = 8 ∨ k = 9 → I' [4, a, k] = fun _ => 0) ∧ (∀ t : Int, 0 ≤ t → t < 10 → I' [4, a, 6] t = -1)) → (∀ k : Int, k = 7 ∨ k = 8 ∨ k = 9 → R' [4, a, k] 0 = some nE) → (∀ l : List Int, 2 ≤ l.length → (∀ t, l ≠ [5, t]) → ty' (4 :: a :: l) = 0) → (∀ n, (∀ l, n ≠ 4 :: a :: l) → ty' n = ty n ∧ ln' n = ln n ∧ I' n = I n) → (∀ n, (∀ l, n ≠ 4 :: a :: l) → n ≠ [1, 0] → R' n = R n) → R' [1, 0] = upI (R [1, 0]) a (some [4, a]) → K (some (vI 0)) (ty', ln', I', R', c - 19, w - 2073))) : Mth (d + 8) M_La_house [vR (some [1]), vI a, vI b] (ty, ln, I, R, c, w) K X := by
  rw [in_La_house, b_La_house_0, and_t h.1.1]
  refine x_house_0 h q q2 hf hc9 hw9 ?_
  intro ty' ln' I' R' k1 k2 k3 k4 k5 k6 k7
  exact b_La_house_6.mpr (k ty' ln' I' R' k1 k2 k3 k4 k5 k6 k7)
