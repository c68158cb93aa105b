/-! ===== a loop that writes: days ===== -/
/-- the first i of the row a grown by x times the row b -/
def dyI (I : Nm → Int → Int) (a b : Nm) (x i : Int) : Nm → Int → Int := fun n j => if n = a ∧ 0 ≤ j ∧ j < i then w32 (I a j + w32 (x * I b j)) else I n j
theorem dyI_up {I : Nm → Int → Int} {a b : Nm} {x i : Int} (h0 : 0 ≤ i) (hab : b ≠ a) : up2 (dyI I a b x i) a i (w32 (dyI I a b x i a i + w32 (x * dyI I a b x i b i))) = dyI I a b x (i + 1) := by
  have e1 : dyI I a b x i a i = I a i := if_neg (by omega)
  have e2 : dyI I a b x i b i = I b i := if_neg (fun z => hab z.1)
  rw [e1, e2]
  funext n j
  unfold up2
  by_cases hn : n = a
  · subst hn
    rw [upN_self]
    by_cases hj : j = i
    · subst hj
      rw [upI_self]
      exact (if_pos ⟨rfl, h0, by omega⟩).symm
    · rw [upI_ne _ _ hj]
      unfold dyI
      by_cases q : 0 ≤ j ∧ j < i
      · rw [if_pos ⟨rfl, q⟩, if_pos ⟨rfl, q.1, by omega⟩]
      · rw [if_neg (fun z => q z.2), if_neg (fun z => q ⟨z.2.1, by omega⟩)]
  · rw [upN_ne _ _ hn]
    unfold dyI
    rw [if_neg (fun z => hn z.1), if_neg (fun z => hn z.1)]
theorem s_House_addDays {d : Nat} {K : Kt} {X : Xt} {t a b : Nm} {x : Int} {ty : Nm → Nat} {ln : Nm → Int} {I : Nm → Int → Int} {R : Nm → Int → Option Nm} {c w : Nat} (h1 : ty t = 105) (h2 : R t 4 = some a) (h3 : ty a = 1) (h4 : ln a = 10) (h5 : R t 3 = some b) (h6 : ty b = 1) (h7 : ln b = 10) (hw9 : wr a = true) (hab : b ≠ a) : Mth (d + 1) M_House_addDays [vR (some t), vI x] (ty, ln, I, R, c, w) K X = K none (ty, ln, dyI I a b x 10, R, c, w) := by
  rw [in_House_addDays, b_House_addDays_0]
  have key : ∀ k i : Nat, i + k = 10 → Rn d M_House_addDays K X 2 [vR (some t), vI x, vI (i : Int)] [] (ty, ln, dyI I a b x i, R, c, w) = K none (ty, ln, dyI I a b x 10, R, c, w) := by
    intro k
    induction k with
    | zero =>
      intro i hi
      rw [b_House_addDays_2, if_pos (by omega), show i = 10 by omega]
      rfl
    | succ k ih =>
      intro i hi
      rw [b_House_addDays_2, if_neg (by omega), ← ih (i + 1) (by omega), and_t h1]
      simp only [h2, h5, Option.some.injEq, exists_eq_left']
      rw [and_t ⟨Or.inl h3, by omega, by omega⟩, and_t h1, and_t ⟨Or.inl h6, by omega, by omega⟩, and_t ⟨h3, hw9, by omega, by omega⟩, w32_id (x := (i : Int) + 1) (by omega) (by omega), dyI_up (by omega) hab]
      rfl
  have e0 : dyI I a b x 0 = I := by
    funext n j
    exact if_neg (by omega)
  have := key 10 0 rfl
  rw [show ((0 : Nat) : Int) = 0 from rfl, e0] at this
  exact this
