/-! ===== the reference's inverse ===== -/
theorem s_Mo_inverse {d : Nat} {K : Kt} {X : Xt} {a : Int} {v : Nat} {h : AH} (h1 : 1 ≤ v) (h2 : v ≤ 255) (h3 : gml a v 8 0 = 1) (h4 : ∀ u : Nat, 1 ≤ u → u < v → gml a u 8 0 ≠ 1) : Mth (d + 2) M_Mo_inverse [vI a] h K X = K (some (vI (v : Int))) h := by
  obtain ⟨ty, ln, I, R, c, w⟩ := h
  rw [in_Mo_inverse, b_Mo_inverse_0]
  have key : ∀ k u : Nat, u + k = v → 1 ≤ u → Rn (d + 1) M_Mo_inverse K X 2 [vI a, vI (u : Int)] [] (ty, ln, I, R, c, w) = K (some (vI (v : Int))) (ty, ln, I, R, c, w) := by
    intro k
    induction k with
    | zero =>
      intro u hu _
      rw [show u = v by omega, b_Mo_inverse_2, s_Mo_product]
      refine b_Mo_inverse_7.trans ?_
      rw [if_pos h3]
    | succ k ih =>
      intro u hu h0
      rw [b_Mo_inverse_2, s_Mo_product]
      refine b_Mo_inverse_7.trans ?_
      rw [if_neg (h4 u h0 (by omega)), w32_id (by omega) (by omega), ← ih (u + 1) (by omega) (by omega)]
      rfl
  exact key (v - 1) 1 (by omega) (Nat.le_refl 1)
theorem s_Mo_coefficient {d : Nat} {K : Kt} {X : Xt} {a b : Int} {v : Nat} {h : AH} (h1 : 1 ≤ v) (h2 : v ≤ 255) (h3 : gml (xor32 (w32 (16 + a)) b) v 8 0 = 1) (h4 : ∀ u : Nat, 1 ≤ u → u < v → gml (xor32 (w32 (16 + a)) b) u 8 0 ≠ 1) : Mth (d + 3) M_Mo_coefficient [vI a, vI b] h K X = K (some (vI (v : Int))) h := by
  obtain ⟨ty, ln, I, R, c, w⟩ := h
  rw [in_Mo_coefficient, b_Mo_coefficient_0, s_Mo_inverse h1 h2 h3 h4]
  exact b_Mo_coefficient_9
