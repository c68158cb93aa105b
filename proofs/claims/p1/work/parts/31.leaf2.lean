/-! ===== more leaves ===== -/
theorem s_Piece_isPlaced {d : Nat} {K : Kt} {X : Xt} {t : Nm} {ty : Nm → Nat} {ln : Nm → Int} {I : Nm → Int → Int} {R : Nm → Int → Option Nm} {c w : Nat} (h1 : ty t = 106) : Mth (d + 1) M_Piece_isPlaced [vR (some t)] (ty, ln, I, R, c, w) K X = K (some (vI (if I t 2 = -1 then 0 else 1))) (ty, ln, I, R, c, w) := by
  rw [in_Piece_isPlaced, b_Piece_isPlaced_0, and_t h1, b_Piece_isPlaced_13, b_Piece_isPlaced_13]
  by_cases h : I t 2 = -1
  · rw [if_pos h, if_pos h]; exact and_t (Or.inl rfl)
  · rw [if_neg h, if_neg h]; exact and_t (Or.inr rfl)
theorem s_House_hasFile {d : Nat} {K : Kt} {X : Xt} {t m : Nm} {i : Int} {ty : Nm → Nat} {ln : Nm → Int} {I : Nm → Int → Int} {R : Nm → Int → Option Nm} {c w : Nat} (h1 : ty t = 105) (h2 : R t 6 = some m) (h3 : ty m = 1) (i0 : 0 ≤ i) (i1 : i < ln m) : Mth (d + 1) M_House_hasFile [vR (some t), vI i] (ty, ln, I, R, c, w) K X = K (some (vI (if I m i = -1 then 0 else 1))) (ty, ln, I, R, c, w) := by
  rw [in_House_hasFile, b_House_hasFile_0, and_t h1]
  simp only [h2, Option.some.injEq, exists_eq_left']
  rw [and_t ⟨Or.inl h3, i0, i1⟩, b_House_hasFile_15, b_House_hasFile_15]
  by_cases h : I m i = -1
  · rw [if_pos h, if_pos h]; exact and_t (Or.inl rfl)
  · rw [if_neg h, if_neg h]; exact and_t (Or.inr rfl)
theorem s_Mo_thrown {d : Nat} {K : Kt} {X : Xt} {t : Nm} {ty : Nm → Nat} {ln : Nm → Int} {I : Nm → Int → Int} {R : Nm → Int → Option Nm} {c w : Nat} (h1 : ty t = 109) : Mth (d + 1) M_Mo_thrown [vR (some t)] (ty, ln, I, R, c, w) K X = K (some (vI (I t 0))) (ty, ln, I, R, c, w) := by
  rw [in_Mo_thrown, b_Mo_thrown_0, and_t h1]
theorem s_Mo_refused {d : Nat} {K : Kt} {X : Xt} {t : Nm} {x : Int} {ty : Nm → Nat} {ln : Nm → Int} {I : Nm → Int → Int} {R : Nm → Int → Option Nm} {c w : Nat} (h1 : ty t = 109) (hw9 : wr t = true) : Mth (d + 1) M_Mo_refused [vR (some t), vI x] (ty, ln, I, R, c, w) K X = K (some (vI (if x ≤ 0 then 0 else 1))) (ty, ln, up2 I t 0 x, R, c, w) := by
  rw [in_Mo_refused, b_Mo_refused_0, and_t ⟨h1, hw9⟩, b_Mo_refused_14, b_Mo_refused_14]
  by_cases h : x ≤ 0
  · rw [if_pos h, if_pos h]; exact and_t (Or.inl rfl)
  · rw [if_neg h, if_neg h]; exact and_t (Or.inr rfl)
theorem s_Mo_isHouse {d : Nat} {K : Kt} {X : Xt} {t m : Nm} {a : Int} {ty : Nm → Nat} {ln : Nm → Int} {I : Nm → Int → Int} {R : Nm → Int → Option Nm} {c w : Nat} (h1 : ty t = 109) (h2 : R t 5 = some m) (h3 : ty m = 1) (h4 : ln m = 10) : Mth (d + 2) M_Mo_isHouse [vR (some t), vI a] (ty, ln, I, R, c, w) K X = K (some (vI (if (0 ≤ a ∧ a ≤ 9) ∧ 0 < I m a then 1 else 0))) (ty, ln, I, R, c, w) := by
  rw [in_Mo_isHouse, b_Mo_isHouse_0, s_Mo_isIn]
  refine b_Mo_isHouse_7.trans ?_
  rw [b_Mo_isHouse_23, b_Mo_isHouse_24, and_t (show (0 : Int) = 0 ∨ (0 : Int) = 1 from Or.inl rfl)]
  by_cases h : 0 ≤ a ∧ a ≤ 9
  · rw [if_pos h, if_neg (by decide), and_t h1]
    simp only [h2, Option.some.injEq, exists_eq_left']
    rw [and_t ⟨Or.inl h3, h.1, by omega⟩]
    by_cases h5 : I m a ≤ 0
    · rw [if_pos h5, if_neg (by omega)]
    · rw [if_neg h5, if_pos ⟨h, by omega⟩, b_Mo_isHouse_24]; exact and_t (Or.inr rfl)
  · rw [if_neg h, if_pos rfl, if_neg (fun z => h z.1)]
