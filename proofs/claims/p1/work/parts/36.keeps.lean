/-! ===== a row of a flat table added up ===== -/
theorem s_Mo_keeps {d : Nat} {K : Kt} {X : Xt} {t m : Nm} {a : Int} {ty : Nm → Nat} {ln : Nm → Int} {I : Nm → Int → Int} {R : Nm → Int → Option Nm} {c w : Nat} (h1 : ty t = 109) (h2 : R t 10 = some m) (h3 : ty m = 1) (h4 : ln m = 100) (a0 : 0 ≤ a) (a1 : a ≤ 9) : Mth (d + 1) M_Mo_keeps [vR (some t), vI a] (ty, ln, I, R, c, w) K X = K (some (vI (sumR (fun i => I m (10 * a + i)) 10))) (ty, ln, I, R, c, w) := by
  rw [in_Mo_keeps, b_Mo_keeps_0]
  have key : ∀ k i : Nat, i + k = 10 → Rn d M_Mo_keeps K X 4 [vR (some t), vI a, vI (sumR (fun i => I m (10 * a + i)) i), vI (i : Int)] [] (ty, ln, I, R, c, w) = K (some (vI (sumR (fun i => I m (10 * a + i)) 10))) (ty, ln, I, R, c, w) := by
    intro k
    induction k with
    | zero =>
      intro i hi
      rw [b_Mo_keeps_4, if_pos (by omega), show i = 10 by omega]
    | succ k ih =>
      intro i hi
      rw [b_Mo_keeps_4, if_neg (by omega), ← ih (i + 1) (by omega), and_t h1]
      simp only [h2, Option.some.injEq, exists_eq_left']
      rw [w32_id (x := 10 * a) (by omega) (by omega), w32_id (x := 10 * a + (i : Int)) (by omega) (by omega), w32_id (x := (i : Int) + 1) (by omega) (by omega), and_t ⟨Or.inl h3, by omega, by omega⟩]
      rfl
  exact key 10 0 rfl
theorem s_Mo_limitsOf {d : Nat} {K : Kt} {X : Xt} {t m : Nm} {a : Int} {ty : Nm → Nat} {ln : Nm → Int} {I : Nm → Int → Int} {R : Nm → Int → Option Nm} {c w : Nat} (h1 : ty t = 109) (h2 : R t 9 = some m) (h3 : ty m = 1) (h4 : ln m = 100) (a0 : 0 ≤ a) (a1 : a ≤ 9) : Mth (d + 1) M_Mo_limitsOf [vR (some t), vI a] (ty, ln, I, R, c, w) K X = K (some (vI (sumR (fun i => I m (10 * a + i)) 10))) (ty, ln, I, R, c, w) := by
  rw [in_Mo_limitsOf, b_Mo_limitsOf_0]
  have key : ∀ k i : Nat, i + k = 10 → Rn d M_Mo_limitsOf K X 4 [vR (some t), vI a, vI (sumR (fun i => I m (10 * a + i)) i), vI (i : Int)] [] (ty, ln, I, R, c, w) = K (some (vI (sumR (fun i => I m (10 * a + i)) 10))) (ty, ln, I, R, c, w) := by
    intro k
    induction k with
    | zero =>
      intro i hi
      rw [b_Mo_limitsOf_4, if_pos (by omega), show i = 10 by omega]
    | succ k ih =>
      intro i hi
      rw [b_Mo_limitsOf_4, if_neg (by omega), ← ih (i + 1) (by omega), and_t h1]
      simp only [h2, Option.some.injEq, exists_eq_left']
      rw [w32_id (x := 10 * a) (by omega) (by omega), w32_id (x := 10 * a + (i : Int)) (by omega) (by omega), w32_id (x := (i : Int) + 1) (by omega) (by omega), and_t ⟨Or.inl h3, by omega, by omega⟩]
      rfl
  exact key 10 0 rfl
