/-! ===== the class's field ===== -/
theorem s_Field_inverse {d : Nat} {K : Kt} {X : Xt} {t p l : Nm} {x : Int} {ty : Nm → Nat} {ln : Nm → Int} {I : Nm → Int → Int} {R : Nm → Int → Option Nm} {c w : Nat} (h1 : ty t = 104) (h2 : R t 1 = some l) (h3 : ty l = 1) (h4 : ln l = 256) (h5 : R t 0 = some p) (h6 : ty p = 1) (h7 : ln p = 510) (x0 : 0 ≤ x) (x1 : x < 256) (l0 : 0 ≤ I l x) (l1 : I l x ≤ 255) : Mth (d + 1) M_Field_inverse [vR (some t), vI x] (ty, ln, I, R, c, w) K X = K (some (vI (I p (255 - I l x)))) (ty, ln, I, R, c, w) := by
  rw [in_Field_inverse, b_Field_inverse_0, and_t h1, and_t h1]
  simp only [h2, h5, Option.some.injEq, exists_eq_left']
  rw [w32_id (x := 255 - I l x) (by omega) (by omega), and_t ⟨Or.inl h3, by omega, by omega⟩, and_t ⟨Or.inl h6, by omega, by omega⟩]
theorem s_Field_times {d : Nat} {K : Kt} {X : Xt} {t p l : Nm} {x y : Int} {ty : Nm → Nat} {ln : Nm → Int} {I : Nm → Int → Int} {R : Nm → Int → Option Nm} {c w : Nat} (h1 : ty t = 104) (h2 : R t 1 = some l) (h3 : ty l = 1) (h4 : ln l = 256) (h5 : R t 0 = some p) (h6 : ty p = 1) (h7 : ln p = 510) (x0 : 0 ≤ x) (x1 : x < 256) (y0 : 0 ≤ y) (y1 : y < 256) (l0 : ∀ i, 0 ≤ I l i) (l1 : ∀ i, I l i ≤ 254) : Mth (d + 1) M_Field_times [vR (some t), vI x, vI y] (ty, ln, I, R, c, w) K X = K (some (vI (if x = 0 ∨ y = 0 then 0 else I p (I l x + I l y)))) (ty, ln, I, R, c, w) := by
  have a0 := l0 x
  have a1 := l1 x
  have b0 := l0 y
  have b1 := l1 y
  rw [in_Field_times, b_Field_times_0, b_Field_times_8, b_Field_times_30]
  by_cases q : x = 0
  · rw [if_pos q, if_pos (Or.inl q)]
  · rw [if_neg q]
    by_cases r : y = 0
    · rw [if_neg (fun z => z r), if_pos (Or.inr r)]
    · rw [if_pos r, if_neg (by omega), and_t h1, and_t h1]
      simp only [h2, h5, Option.some.injEq, exists_eq_left']
      rw [w32_id (x := I l x + I l y) (by omega) (by omega), and_t ⟨Or.inl h3, by omega, by omega⟩, and_t h1, and_t ⟨Or.inl h3, by omega, by omega⟩, and_t ⟨Or.inl h6, by omega, by omega⟩, b_Field_times_30]
