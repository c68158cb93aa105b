/-! ===== loops ===== -/
/-- f 0 + .. + f (n - 1), as the machine adds -/
def sumR (f : Int → Int) : Nat → Int
  | 0 => 0
  | n + 1 => w32 (sumR f n + f n)
theorem s_House_countKept {d : Nat} {K : Kt} {X : Xt} {t m : Nm} {ty : Nm → Nat} {ln : Nm → Int} {I : Nm → Int → Int} {R : Nm → Int → Option Nm} {c w : Nat} (h1 : ty t = 105) (h2 : R t 3 = some m) (h3 : ty m = 1) (h4 : ln m = 10) : Mth (d + 1) M_House_countKept [vR (some t)] (ty, ln, I, R, c, w) K X = K (some (vI (sumR (I m) 10))) (ty, ln, I, R, c, w) := by
  rw [in_House_countKept, b_House_countKept_0]
  have key : ∀ k i : Nat, i + k = 10 → Rn d M_House_countKept K X 4 [vR (some t), vI (sumR (I m) i), vI (i : Int)] [] (ty, ln, I, R, c, w) = K (some (vI (sumR (I m) 10))) (ty, ln, I, R, c, w) := by
    intro k
    induction k with
    | zero =>
      intro i hi
      rw [b_House_countKept_4, if_pos (by omega), show i = 10 by omega]
    | succ k ih =>
      intro i hi
      rw [b_House_countKept_4, if_neg (by omega), ← ih (i + 1) (by omega)]
      simp only [h1, h2, h3, h4, Option.some.injEq, exists_eq_left', true_and, true_or, and_t (show (0 : Int) ≤ (i : Int) ∧ (i : Int) < 10 by omega)]
      rw [w32_id (x := (i : Int) + 1) (by omega) (by omega)]
      rfl
  exact key 10 0 rfl
