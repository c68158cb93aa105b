/-! ===== pieces, limits ===== -/
/-- whether the house of the number is up -/
def upAt (I : Nm → Int → Int) (R : Nm → Int → Option Nm) (m : Nm) (a : Int) : Int := match hsAt R m a with
  | none => 0
  | some n => if I n 11 = 0 then 0 else 1
theorem upAt_01 {I : Nm → Int → Int} {R : Nm → Int → Option Nm} {m : Nm} {a : Int} : upAt I R m a = 0 ∨ upAt I R m a = 1 := by
  unfold upAt
  split
  · exact Or.inl rfl
  · split
    · exact Or.inl rfl
    · exact Or.inr rfl
theorem s_FB_isReachable {d : Nat} {K : Kt} {X : Xt} {t m q : Nm} {ty : Nm → Nat} {ln : Nm → Int} {I : Nm → Int → Int} {R : Nm → Int → Option Nm} {c w : Nat} (h1 : ty t = 100) (h2 : R t 0 = some m) (h3 : ty m = 4) (h4 : ln m = 10) (h5 : ∀ n, hsAt R m (I q 2) = some n → ty n = 105) (h6 : ty q = 106) : Mth (d + 3) M_FB_isReachable [vR (some t), vR (some q)] (ty, ln, I, R, c, w) K X = K (some (vI (if I q 3 = 0 then 0 else upAt I R m (I q 2)))) (ty, ln, I, R, c, w) := by
  rw [in_FB_isReachable, b_FB_isReachable_0]
  simp only [Option.some.injEq, exists_eq_left', h6, h1, true_and]
  rw [s_FB_isUp h1 h2 h3 h4 h5, b_FB_isReachable_22, b_FB_isReachable_23, and_t (show (0 : Int) = 0 ∨ (0 : Int) = 1 from Or.inl rfl)]
  by_cases h : I q 3 = 0
  · rw [if_pos h, if_pos h]
  · rw [if_neg h, if_neg h]
    refine (b_FB_isReachable_15 (y0 := upAt I R m (I q 2))).trans ?_
    rw [b_FB_isReachable_22, b_FB_isReachable_23, b_FB_isReachable_23, and_t (show (0 : Int) = 0 ∨ (0 : Int) = 1 from Or.inl rfl), and_t (show (1 : Int) = 0 ∨ (1 : Int) = 1 from Or.inr rfl)]
    rcases upAt_01 (I := I) (R := R) (m := m) (a := I q 2) with e | e
    · rw [if_pos e, e]
    · rw [if_neg (by rw [e]; decide), e]
theorem s_House_canTakeFrom {d : Nat} {K : Kt} {X : Xt} {t u v : Nm} {i : Int} {ty : Nm → Nat} {ln : Nm → Int} {I : Nm → Int → Int} {R : Nm → Int → Option Nm} {c w : Nat} (h1 : ty t = 105) (h2 : R t 3 = some u) (h3 : ty u = 1) (h4 : ln u = 10) (h5 : R t 2 = some v) (h6 : ty v = 1) (h7 : ln v = 10) (i0 : 0 ≤ i) (i1 : i < 10) : Mth (d + 1) M_House_canTakeFrom [vR (some t), vI i] (ty, ln, I, R, c, w) K X = K (some (vI (if I t 11 ≠ 0 ∧ I t 12 = 0 ∧ I u i < I v i then 1 else 0))) (ty, ln, I, R, c, w) := by
  rw [in_House_canTakeFrom, b_House_canTakeFrom_0]
  simp only [h1, h2, h5, Option.some.injEq, exists_eq_left', true_and]
  rw [and_t ⟨Or.inl h3, i0, by omega⟩, and_t ⟨Or.inl h6, i0, by omega⟩, b_House_canTakeFrom_33, b_House_canTakeFrom_34, b_House_canTakeFrom_34, and_t (show (0 : Int) = 0 ∨ (0 : Int) = 1 from Or.inl rfl), and_t (show (1 : Int) = 0 ∨ (1 : Int) = 1 from Or.inr rfl)]
  by_cases a1 : I t 11 = 0
  · rw [if_pos a1, if_neg (fun z => z.1 a1)]
  · rw [if_neg a1]
    by_cases a2 : I t 12 = 0
    · rw [if_neg (fun z => z a2)]
      by_cases a3 : I v i ≤ I u i
      · rw [if_pos a3, if_neg (by omega)]
      · rw [if_neg a3, if_pos ⟨a1, a2, by omega⟩]
    · rw [if_pos a2, if_neg (fun z => a2 z.2.1)]
