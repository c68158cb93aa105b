/-! ===== ArrayList, read ===== -/
theorem s_AL_size {d : Nat} {K : Kt} {X : Xt} {t : Nm} {ty : Nm → Nat} {ln : Nm → Int} {I : Nm → Int → Int} {R : Nm → Int → Option Nm} {c w : Nat} (h1 : ty t = 110) : Mth (d + 1) M_AL_size [vR (some t)] (ty, ln, I, R, c, w) K X = K (some (vI (I t 1))) (ty, ln, I, R, c, w) := by
  rw [in_AL_size, b_AL_size_0, and_t h1]
theorem s_Ob_checkIndex {d : Nat} {K : Kt} {X : Xt} {i n : Int} {h : AH} (h0 : 0 ≤ i) (h1 : i < n) : Mth (d + 2) M_Ob_checkIndex [vI i, vI n] h K X = K (some (vI i)) h := by
  obtain ⟨ty, ln, I, R, c, w⟩ := h
  rw [in_Ob_checkIndex, b_Ob_checkIndex_0, in_Pr_checkIndex, b_Pr_checkIndex_0, if_neg (by omega), if_pos h1]
  exact b_Ob_checkIndex_6
theorem s_AL_elementData {d : Nat} {K : Kt} {X : Xt} {t m : Nm} {i : Int} {ty : Nm → Nat} {ln : Nm → Int} {I : Nm → Int → Int} {R : Nm → Int → Option Nm} {c w : Nat} (h1 : ty t = 110) (h2 : R t 0 = some m) (h3 : ty m = 8) (i0 : 0 ≤ i) (i1 : i < ln m) : Mth (d + 1) M_AL_elementData [vR (some t), vI i] (ty, ln, I, R, c, w) K X = K (some (vR (R m i))) (ty, ln, I, R, c, w) := by
  rw [in_AL_elementData, b_AL_elementData_0, and_t h1]
  simp only [h2, Option.some.injEq, exists_eq_left', h3]
  exact and_t ⟨by decide, i0, i1⟩
theorem s_AL_get {d : Nat} {K : Kt} {X : Xt} {t m : Nm} {i : Int} {ty : Nm → Nat} {ln : Nm → Int} {I : Nm → Int → Int} {R : Nm → Int → Option Nm} {c w : Nat} (h1 : ty t = 110) (h2 : R t 0 = some m) (h3 : ty m = 8) (i0 : 0 ≤ i) (i1 : i < I t 1) (i2 : I t 1 ≤ ln m) : Mth (d + 3) M_AL_get [vR (some t), vI i] (ty, ln, I, R, c, w) K X = K (some (vR (R m i))) (ty, ln, I, R, c, w) := by
  rw [in_AL_get, b_AL_get_0, and_t h1, s_Ob_checkIndex i0 i1]
  refine b_AL_get_8.trans ?_
  rw [and_t h1, s_AL_elementData h1 h2 h3 i0 (by omega)]
  exact b_AL_get_14
