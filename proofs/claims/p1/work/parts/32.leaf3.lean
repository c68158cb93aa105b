/-! ===== houses by number ===== -/
/-- the house of a number, as the array of houses has it -/
def hsAt (R : Nm → Int → Option Nm) (m : Nm) (a : Int) : Option Nm := if 0 ≤ a ∧ a ≤ 9 then R m a else none
theorem s_FB_houseOf {d : Nat} {K : Kt} {X : Xt} {t m : Nm} {a : Int} {ty : Nm → Nat} {ln : Nm → Int} {I : Nm → Int → Int} {R : Nm → Int → Option Nm} {c w : Nat} (h1 : ty t = 100) (h2 : R t 0 = some m) (h3 : ty m = 4) (h4 : ln m = 10) : Mth (d + 2) M_FB_houseOf [vR (some t), vI a] (ty, ln, I, R, c, w) K X = (if hsAt R m a = none then (5 ≤ d + 1 ∧ 1 ≤ c ∧ 6 ≤ w) ∧ X 1 (ty, ln, I, R, c - 1, w - 6) else K (some (vR (hsAt R m a))) (ty, ln, I, R, c, w)) := by
  rw [in_FB_houseOf, b_FB_houseOf_0, s_FB_isWithin]
  refine b_FB_houseOf_7.trans ?_
  unfold hsAt
  by_cases h : 0 ≤ a ∧ a ≤ 9
  · rw [if_pos h, if_neg (by decide), and_t h1]
    simp only [h2, Option.some.injEq, exists_eq_left']
    rw [and_t ⟨by rw [h3]; decide, h.1, by omega⟩, b_FB_houseOf_20, if_pos h]
  · rw [if_neg h, if_pos rfl, b_FB_houseOf_20, if_neg h]
theorem s_FB_isUp {d : Nat} {K : Kt} {X : Xt} {t m : Nm} {a : Int} {ty : Nm → Nat} {ln : Nm → Int} {I : Nm → Int → Int} {R : Nm → Int → Option Nm} {c w : Nat} (h1 : ty t = 100) (h2 : R t 0 = some m) (h3 : ty m = 4) (h4 : ln m = 10) (h5 : ∀ n, hsAt R m a = some n → ty n = 105) : Mth (d + 2) M_FB_isUp [vR (some t), vI a] (ty, ln, I, R, c, w) K X = K (some (vI (match hsAt R m a with
    | none => 0
    | some n => if I n 11 = 0 then 0 else 1))) (ty, ln, I, R, c, w) := by
  rw [in_FB_isUp, b_FB_isUp_0, s_FB_isWithin]
  refine b_FB_isUp_7.trans ?_
  rw [b_FB_isUp_35, b_FB_isUp_36, and_t (show (0 : Int) = 0 ∨ (0 : Int) = 1 from Or.inl rfl)]
  unfold hsAt at h5 ⊢
  by_cases h : 0 ≤ a ∧ a ≤ 9
  · rw [if_pos h] at h5
    rw [if_pos h, if_neg (by decide), and_t h1, if_pos h]
    simp only [h2, Option.some.injEq, exists_eq_left']
    rw [and_t ⟨by rw [h3]; decide, h.1, by omega⟩]
    cases e : R m a with
    | none => rfl
    | some n =>
      rw [if_neg (by intro q; cases q), and_t h1, and_t ⟨by rw [h3]; decide, h.1, by omega⟩]
      simp only [Option.some.injEq, exists_eq_left', h5 n e, true_and]
      by_cases q : I n 11 = 0
      · rw [if_pos q, if_pos q]
      · rw [if_neg q, if_neg q, b_FB_isUp_36]; exact and_t (Or.inr rfl)
  · rw [if_neg h, if_pos rfl, if_neg h]
