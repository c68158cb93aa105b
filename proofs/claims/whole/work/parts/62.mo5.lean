/-! ===== the reference: searches and counts ===== -/
/-- the last of the first k slots of a house that has the number -/
def slJ (J : Int → Int → Int) (h n : Int) : Nat → Int
  | 0 => -1
  | k + 1 => if J 16 (6 * h + k) = n then 6 * h + k else slJ J h n k
def slotJ (J : Int → Int → Int) (h n : Int) : Int := if n < 0 then -1 else slJ J h n 6
theorem m_slotOf {d : Nat} {K : Kt} {X : Xt} {J : Int → Int → Int} {ty : Nm → Nat} {ln : Nm → Int} {I : Nm → Int → Int} {R : Nm → Int → Option Nm} {c w : Nat} {a n : Int} (h : MOk ty ln R) (a0 : 0 ≤ a ∧ a ≤ 9) :
    Mth (d + 1) M_Mo_slotOf [vR (some [2]), vI a, vI n] (ty, ln, pJ I J, R, c, w) K X = K (some (vI (slotJ J a n))) (ty, ln, pJ I (J), R, c, w) := by
  have a16 := h.a16
  have h0 := h.1
  unfold slotJ
  by_cases q : n < 0
  · rw [in_Mo_slotOf, b_Mo_slotOf_0, b_Mo_slotOf_8]
    simp (disch := omega) only [b_Mo_slotOf_48, ite_self, Option.toList_some, Option.toList_none, List.cons_append, List.nil_append, ↓if_pos, ↓if_neg, ↓and_t, pJ_a, pJ_m, up_a, up_m, Option.some.injEq, exists_eq_left', wr_a, wr_m, true_and, and_true, not_true_eq_false, not_false_eq_true, if_true, if_false, or_true, true_or, uJ_self, uJ_ne, upI_self, upI_ne, w32_id, reduceCtorEq, ne_eq, wJ_ne, wJ_out]
  rw [if_neg q]
  have key : ∀ k i : Nat, i + k = 6 → Rn (d) M_Mo_slotOf K X 8 [vR (some [2]), vI a, vI n, vI (slJ J a n i), vI (6 * a + (i : Int))] [] (ty, ln, pJ I (J), R, c, w) = K (some (vI (slJ J a n 6))) (ty, ln, pJ I (J), R, c, w) := by
    intro k
    induction k with
    | zero =>
      intro i hi
      rw [b_Mo_slotOf_8, show i = 6 by omega]
      simp (disch := omega) only [b_Mo_slotOf_0, b_Mo_slotOf_41, b_Mo_slotOf_48, Option.toList_some, Option.toList_none, List.cons_append, List.nil_append, ↓if_pos, ↓if_neg, ↓and_t, pJ_a, pJ_m, up_a, up_m, Option.some.injEq, exists_eq_left', wr_a, wr_m, true_and, and_true, not_true_eq_false, not_false_eq_true, if_true, if_false, or_true, true_or, uJ_self, uJ_ne, upI_self, upI_ne, w32_id, reduceCtorEq, ne_eq, wJ_ne, wJ_out]

    | succ k ih =>
      intro i hi
      have ih' := ih (i + 1) (by omega)
      rw [b_Mo_slotOf_8]
      by_cases q2 : J 16 (6 * a + i) = n
      · rw [show slJ J a n (i + 1) = 6 * a + i from if_pos q2] at ih'
        simp (disch := omega) only [b_Mo_slotOf_0, b_Mo_slotOf_41, b_Mo_slotOf_48, ↓h.e16, Int.add_assoc, Option.toList_some, Option.toList_none, List.cons_append, List.nil_append, ↓if_pos, ↓if_neg, ↓and_t, pJ_a, pJ_m, up_a, up_m, Option.some.injEq, exists_eq_left', wr_a, wr_m, true_and, and_true, not_true_eq_false, not_false_eq_true, if_true, if_false, or_true, true_or, uJ_self, uJ_ne, upI_self, upI_ne, w32_id, reduceCtorEq, ne_eq, wJ_ne, wJ_out]
        exact ih'
      · rw [show slJ J a n (i + 1) = slJ J a n i from if_neg q2] at ih'
        simp (disch := omega) only [b_Mo_slotOf_0, b_Mo_slotOf_41, b_Mo_slotOf_48, ↓h.e16, Int.add_assoc, Option.toList_some, Option.toList_none, List.cons_append, List.nil_append, ↓if_pos, ↓if_neg, ↓and_t, pJ_a, pJ_m, up_a, up_m, Option.some.injEq, exists_eq_left', wr_a, wr_m, true_and, and_true, not_true_eq_false, not_false_eq_true, if_true, if_false, or_true, true_or, uJ_self, uJ_ne, upI_self, upI_ne, w32_id, reduceCtorEq, ne_eq, wJ_ne, wJ_out]
        exact ih'
  have k0 := key 6 0 rfl
  rw [in_Mo_slotOf, b_Mo_slotOf_0, w32_id (by omega) (by omega)]
  rw [show (6 * a + ((0 : Nat) : Int)) = 6 * a by omega] at k0
  exact k0
/-- the first slot of a house, from k on, that has no number -/
def frJ (J : Int → Int → Int) (h : Int) : Nat → Int
  | 0 => -1
  | k + 1 => if 0 ≤ J 16 (6 * h + (5 - k)) then frJ J h k else 6 * h + (5 - k)
theorem m_freeSlot {d : Nat} {K : Kt} {X : Xt} {J : Int → Int → Int} {ty : Nm → Nat} {ln : Nm → Int} {I : Nm → Int → Int} {R : Nm → Int → Option Nm} {c w : Nat} {a : Int} (h : MOk ty ln R) (a0 : 0 ≤ a ∧ a ≤ 9) :
    Mth (d + 1) M_Mo_freeSlot [vR (some [2]), vI a] (ty, ln, pJ I J, R, c, w) K X = K (some (vI (frJ J a 6))) (ty, ln, pJ I (J), R, c, w) := by
  have a16 := h.a16
  have h0 := h.1
  have key : ∀ k i : Nat, i + k = 6 → Rn (d) M_Mo_freeSlot K X 9 [vR (some [2]), vI a, vI (frJ J a i), vI (6 * a + (5 - (i : Int)))] [] (ty, ln, pJ I (J), R, c, w) = K (some (vI (frJ J a 6))) (ty, ln, pJ I (J), R, c, w) := by
    intro k
    induction k with
    | zero =>
      intro i hi
      rw [b_Mo_freeSlot_9, show i = 6 by omega]
      simp (disch := omega) only [b_Mo_freeSlot_0, b_Mo_freeSlot_31, Option.toList_some, Option.toList_none, List.cons_append, List.nil_append, ↓if_pos, ↓if_neg, ↓and_t, pJ_a, pJ_m, up_a, up_m, Option.some.injEq, exists_eq_left', wr_a, wr_m, true_and, and_true, not_true_eq_false, not_false_eq_true, if_true, if_false, or_true, true_or, uJ_self, uJ_ne, upI_self, upI_ne, w32_id, reduceCtorEq, ne_eq, wJ_ne, wJ_out]

    | succ k ih =>
      intro i hi
      have ih' := ih (i + 1) (by omega)
      rw [b_Mo_freeSlot_9]
      have e : 6 * a + (5 - (i : Int)) + -1 = 6 * a + (5 - ((i + 1 : Nat) : Int)) := by omega
      by_cases q2 : 0 ≤ J 16 (6 * a + (5 - i))
      · rw [show frJ J a (i + 1) = frJ J a i from if_pos q2] at ih'
        simp (disch := omega) only [b_Mo_freeSlot_0, b_Mo_freeSlot_31, ↓h.e16, Option.toList_some, Option.toList_none, List.cons_append, List.nil_append, ↓if_pos, ↓if_neg, ↓and_t, pJ_a, pJ_m, up_a, up_m, Option.some.injEq, exists_eq_left', wr_a, wr_m, true_and, and_true, not_true_eq_false, not_false_eq_true, if_true, if_false, or_true, true_or, uJ_self, uJ_ne, upI_self, upI_ne, w32_id, reduceCtorEq, ne_eq, wJ_ne, wJ_out]
        rw [e]
        exact ih'
      · rw [show frJ J a (i + 1) = 6 * a + (5 - i) from if_neg q2] at ih'
        simp (disch := omega) only [b_Mo_freeSlot_0, b_Mo_freeSlot_31, ↓h.e16, Option.toList_some, Option.toList_none, List.cons_append, List.nil_append, ↓if_pos, ↓if_neg, ↓and_t, pJ_a, pJ_m, up_a, up_m, Option.some.injEq, exists_eq_left', wr_a, wr_m, true_and, and_true, not_true_eq_false, not_false_eq_true, if_true, if_false, or_true, true_or, uJ_self, uJ_ne, upI_self, upI_ne, w32_id, reduceCtorEq, ne_eq, wJ_ne, wJ_out]
        rw [e]
        exact ih'
  have k0 := key 6 0 rfl
  rw [in_Mo_freeSlot, b_Mo_freeSlot_0, w32_id (x := 6 * a) (by omega) (by omega), w32_id (x := 6 * a + 5) (by omega) (by omega)]
  rw [show (6 * a + (5 - ((0 : Nat) : Int))) = 6 * a + 5 by omega] at k0
  exact k0
/-- the piece lies with a house that is up -/
abbrev isR (J : Int → Int → Int) (p : Int) : Prop := 0 ≤ J 25 p ∧ J 6 (J 25 p) ≠ 0 ∧ J 26 p ≠ 0
theorem m_isReachable {d : Nat} {K : Kt} {X : Xt} {J : Int → Int → Int} {ty : Nm → Nat} {ln : Nm → Int} {I : Nm → Int → Int} {R : Nm → Int → Option Nm} {c w : Nat} {p : Int} (h : MOk ty ln R) (p0 : 0 ≤ p ∧ p < 4800) (hb : J 25 p ≤ 9) :
    Mth (d + 1) M_Mo_isReachable [vR (some [2]), vI p] (ty, ln, pJ I J, R, c, w) K X = K (some (vI (if isR J p then 1 else 0))) (ty, ln, pJ I (J), R, c, w) := by
  have a6 := h.a6
  have a25 := h.a25
  have a26 := h.a26
  have h0 := h.1
  by_cases q1 : 0 ≤ J 25 p
  · by_cases q2 : J 6 (J 25 p) = 0
    · simp (disch := omega) only [in_Mo_isReachable, b_Mo_isReachable_0, b_Mo_isReachable_36, b_Mo_isReachable_37, ↓h.e25, ↓h.e6, ↓h.e26, Option.toList_some, Option.toList_none, List.cons_append, List.nil_append, ↓if_pos, ↓if_neg, ↓and_t, pJ_a, pJ_m, up_a, up_m, Option.some.injEq, exists_eq_left', wr_a, wr_m, true_and, and_true, not_true_eq_false, not_false_eq_true, if_true, if_false, or_true, true_or, uJ_self, uJ_ne, upI_self, upI_ne, w32_id, reduceCtorEq, ne_eq, wJ_ne, wJ_out]
    · by_cases q3 : J 26 p = 0
      · simp (disch := omega) only [in_Mo_isReachable, b_Mo_isReachable_0, b_Mo_isReachable_36, b_Mo_isReachable_37, ↓h.e25, ↓h.e6, ↓h.e26, Option.toList_some, Option.toList_none, List.cons_append, List.nil_append, ↓if_pos, ↓if_neg, ↓and_t, pJ_a, pJ_m, up_a, up_m, Option.some.injEq, exists_eq_left', wr_a, wr_m, true_and, and_true, not_true_eq_false, not_false_eq_true, if_true, if_false, or_true, true_or, uJ_self, uJ_ne, upI_self, upI_ne, w32_id, reduceCtorEq, ne_eq, wJ_ne, wJ_out]
      · simp (disch := omega) only [in_Mo_isReachable, b_Mo_isReachable_0, b_Mo_isReachable_36, b_Mo_isReachable_37, ↓h.e25, ↓h.e6, ↓h.e26, Option.toList_some, Option.toList_none, List.cons_append, List.nil_append, ↓if_pos, ↓if_neg, ↓and_t, pJ_a, pJ_m, up_a, up_m, Option.some.injEq, exists_eq_left', wr_a, wr_m, true_and, and_true, not_true_eq_false, not_false_eq_true, if_true, if_false, or_true, true_or, uJ_self, uJ_ne, upI_self, upI_ne, w32_id, reduceCtorEq, ne_eq, wJ_ne, wJ_out]
  · simp (disch := omega) only [in_Mo_isReachable, b_Mo_isReachable_0, b_Mo_isReachable_36, b_Mo_isReachable_37, ↓h.e25, ↓h.e6, ↓h.e26, Option.toList_some, Option.toList_none, List.cons_append, List.nil_append, ↓if_pos, ↓if_neg, ↓and_t, pJ_a, pJ_m, up_a, up_m, Option.some.injEq, exists_eq_left', wr_a, wr_m, true_and, and_true, not_true_eq_false, not_false_eq_true, if_true, if_false, or_true, true_or, uJ_self, uJ_ne, upI_self, upI_ne, w32_id, reduceCtorEq, ne_eq, wJ_ne, wJ_out]
def cntR (J : Int → Int → Int) (s : Int) : Nat → Int
  | 0 => 0
  | j + 1 => if isR J (12 * s + j) then cntR J s j + 1 else cntR J s j
theorem cntR_r {J : Int → Int → Int} {s : Int} : ∀ j : Nat, 0 ≤ cntR J s j ∧ cntR J s j ≤ j
  | 0 => ⟨Int.le_refl _, Int.le_refl _⟩
  | j + 1 => by
    have := cntR_r (J := J) (s := s) j
    show 0 ≤ (if isR J (12 * s + j) then cntR J s j + 1 else cntR J s j) ∧ (if isR J (12 * s + j) then cntR J s j + 1 else cntR J s j) ≤ ((j + 1 : Nat) : Int)
    split <;> omega
theorem m_reachable {d : Nat} {K : Kt} {X : Xt} {J : Int → Int → Int} {ty : Nm → Nat} {ln : Nm → Int} {I : Nm → Int → Int} {R : Nm → Int → Option Nm} {c w : Nat} {s : Int} (h : MOk ty ln R) (s0 : 0 ≤ s ∧ s < 400) (hN : 0 ≤ J (-1) 3 ∧ J (-1) 3 ≤ 12) (hb : ∀ p, J 25 p ≤ 9) :
    Mth (d + 2) M_Mo_reachable [vR (some [2]), vI s] (ty, ln, pJ I J, R, c, w) K X = K (some (vI (cntR J s (J (-1) 3).toNat))) (ty, ln, pJ I (J), R, c, w) := by
  have h0 := h.1
  have key : ∀ k i : Nat, i + k = (J (-1) 3).toNat → Rn (d + 1) M_Mo_reachable K X 4 [vR (some [2]), vI s, vI (cntR J s i), vI (i : Int)] [] (ty, ln, pJ I (J), R, c, w) = K (some (vI (cntR J s (J (-1) 3).toNat))) (ty, ln, pJ I (J), R, c, w) := by
    intro k
    induction k with
    | zero =>
      intro i hi
      rw [b_Mo_reachable_4, show i = (J (-1) 3).toNat by omega]
      simp (disch := omega) only [b_Mo_reachable_0, b_Mo_reachable_22, b_Mo_reachable_32, Option.toList_some, Option.toList_none, List.cons_append, List.nil_append, ↓if_pos, ↓if_neg, ↓and_t, pJ_a, pJ_m, up_a, up_m, Option.some.injEq, exists_eq_left', wr_a, wr_m, true_and, and_true, not_true_eq_false, not_false_eq_true, if_true, if_false, or_true, true_or, uJ_self, uJ_ne, upI_self, upI_ne, w32_id, reduceCtorEq, ne_eq, wJ_ne, wJ_out]

    | succ k ih =>
      intro i hi
      have ih' := ih (i + 1) (by omega)
      have b := cntR_r (J := J) (s := s) i
      have hb' := hb (12 * s + i)
      rw [b_Mo_reachable_4]
      by_cases q2 : isR J (12 * s + i)
      · rw [show cntR J s (i + 1) = cntR J s i + 1 from if_pos q2] at ih'
        simp (disch := first | omega | assumption) only [b_Mo_reachable_0, b_Mo_reachable_22, b_Mo_reachable_32, m_isReachable h, q2, Option.toList_some, Option.toList_none, List.cons_append, List.nil_append, ↓if_pos, ↓if_neg, ↓and_t, pJ_a, pJ_m, up_a, up_m, Option.some.injEq, exists_eq_left', wr_a, wr_m, true_and, and_true, not_true_eq_false, not_false_eq_true, if_true, if_false, or_true, true_or, uJ_self, uJ_ne, upI_self, upI_ne, w32_id, reduceCtorEq, ne_eq, wJ_ne, wJ_out]
        exact ih'
      · rw [show cntR J s (i + 1) = cntR J s i from if_neg q2] at ih'
        simp (disch := first | omega | assumption) only [b_Mo_reachable_0, b_Mo_reachable_22, b_Mo_reachable_32, m_isReachable h, q2, Option.toList_some, Option.toList_none, List.cons_append, List.nil_append, ↓if_pos, ↓if_neg, ↓and_t, pJ_a, pJ_m, up_a, up_m, Option.some.injEq, exists_eq_left', wr_a, wr_m, true_and, and_true, not_true_eq_false, not_false_eq_true, if_true, if_false, or_true, true_or, uJ_self, uJ_ne, upI_self, upI_ne, w32_id, reduceCtorEq, ne_eq, wJ_ne, wJ_out]
        exact ih'
  rw [in_Mo_reachable, b_Mo_reachable_0]
  exact key (J (-1) 3).toNat 0 (Nat.zero_add _)
def hasP (J : Int → Int → Int) (k s : Int) : Nat → Int
  | 0 => 0
  | j + 1 => if hasP J k s j ≠ 0 ∨ J 25 (12 * s + j) = k then 1 else 0
theorem hasP_r {J : Int → Int → Int} {k s : Int} : ∀ j : Nat, hasP J k s j = 0 ∨ hasP J k s j = 1
  | 0 => Or.inl rfl
  | j + 1 => by
    show (if hasP J k s j ≠ 0 ∨ J 25 (12 * s + j) = k then (1 : Int) else 0) = 0 ∨ (if hasP J k s j ≠ 0 ∨ J 25 (12 * s + j) = k then (1 : Int) else 0) = 1
    split
    · exact Or.inr rfl
    · exact Or.inl rfl
theorem m_hasOf {d : Nat} {K : Kt} {X : Xt} {J : Int → Int → Int} {ty : Nm → Nat} {ln : Nm → Int} {I : Nm → Int → Int} {R : Nm → Int → Option Nm} {c w : Nat} {k s : Int} (h : MOk ty ln R) (s0 : 0 ≤ s ∧ s < 400) (hN : 0 ≤ J (-1) 3 ∧ J (-1) 3 ≤ 12) :
    Mth (d + 1) M_Mo_hasOf [vR (some [2]), vI k, vI s] (ty, ln, pJ I J, R, c, w) K X = K (some (vI (hasP J k s (J (-1) 3).toNat))) (ty, ln, pJ I (J), R, c, w) := by
  have a25 := h.a25
  have h0 := h.1
  have key : ∀ q i : Nat, i + q = (J (-1) 3).toNat → Rn (d) M_Mo_hasOf K X 5 [vR (some [2]), vI k, vI s, vI (hasP J k s i), vI (i : Int)] [] (ty, ln, pJ I (J), R, c, w) = K (some (vI (hasP J k s (J (-1) 3).toNat))) (ty, ln, pJ I (J), R, c, w) := by
    intro q
    induction q with
    | zero =>
      intro i hi
      have b := hasP_r (J := J) (k := k) (s := s) (J (-1) 3).toNat
      rw [b_Mo_hasOf_5, show i = (J (-1) 3).toNat by omega]
      simp (disch := omega) only [b_Mo_hasOf_0, b_Mo_hasOf_34, b_Mo_hasOf_39, Option.toList_some, Option.toList_none, List.cons_append, List.nil_append, ↓if_pos, ↓if_neg, ↓and_t, pJ_a, pJ_m, up_a, up_m, Option.some.injEq, exists_eq_left', wr_a, wr_m, true_and, and_true, not_true_eq_false, not_false_eq_true, if_true, if_false, or_true, true_or, uJ_self, uJ_ne, upI_self, upI_ne, w32_id, reduceCtorEq, ne_eq, wJ_ne, wJ_out]

    | succ q ih =>
      intro i hi
      have ih' := ih (i + 1) (by omega)
      have b := hasP_r (J := J) (k := k) (s := s) i
      rw [b_Mo_hasOf_5]
      by_cases q2 : hasP J k s i ≠ 0 ∨ J 25 (12 * s + i) = k
      · rw [show hasP J k s (i + 1) = 1 from if_pos q2] at ih'
        by_cases q3 : hasP J k s i = 0
        · simp (disch := omega) only [b_Mo_hasOf_0, b_Mo_hasOf_34, b_Mo_hasOf_39, ↓h.e25, Option.toList_some, Option.toList_none, List.cons_append, List.nil_append, ↓if_pos, ↓if_neg, ↓and_t, pJ_a, pJ_m, up_a, up_m, Option.some.injEq, exists_eq_left', wr_a, wr_m, true_and, and_true, not_true_eq_false, not_false_eq_true, if_true, if_false, or_true, true_or, uJ_self, uJ_ne, upI_self, upI_ne, w32_id, reduceCtorEq, ne_eq, wJ_ne, wJ_out]
          exact ih'
        · simp (disch := omega) only [b_Mo_hasOf_0, b_Mo_hasOf_34, b_Mo_hasOf_39, ↓h.e25, Option.toList_some, Option.toList_none, List.cons_append, List.nil_append, ↓if_pos, ↓if_neg, ↓and_t, pJ_a, pJ_m, up_a, up_m, Option.some.injEq, exists_eq_left', wr_a, wr_m, true_and, and_true, not_true_eq_false, not_false_eq_true, if_true, if_false, or_true, true_or, uJ_self, uJ_ne, upI_self, upI_ne, w32_id, reduceCtorEq, ne_eq, wJ_ne, wJ_out]
          exact ih'
      · rw [show hasP J k s (i + 1) = 0 from if_neg q2] at ih'
        simp (disch := omega) only [b_Mo_hasOf_0, b_Mo_hasOf_34, b_Mo_hasOf_39, ↓h.e25, Option.toList_some, Option.toList_none, List.cons_append, List.nil_append, ↓if_pos, ↓if_neg, ↓and_t, pJ_a, pJ_m, up_a, up_m, Option.some.injEq, exists_eq_left', wr_a, wr_m, true_and, and_true, not_true_eq_false, not_false_eq_true, if_true, if_false, or_true, true_or, uJ_self, uJ_ne, upI_self, upI_ne, w32_id, reduceCtorEq, ne_eq, wJ_ne, wJ_out]
        exact ih'
  rw [in_Mo_hasOf, b_Mo_hasOf_0]
  exact key (J (-1) 3).toNat 0 (Nat.zero_add _)
def loseJ (J : Int → Int → Int) (h p : Int) : Int → Int → Int := if 0 ≤ J 25 p ∧ J 26 p ≠ 0 then uJ (uJ J 26 p 0) 10 (10 * J 25 p + h) (J 10 (10 * J 25 p + h) - 1) else J
theorem m_lose {d : Nat} {K : Kt} {X : Xt} {J : Int → Int → Int} {ty : Nm → Nat} {ln : Nm → Int} {I : Nm → Int → Int} {R : Nm → Int → Option Nm} {c w : Nat} {a p : Int} (h : MOk ty ln R) (p0 : 0 ≤ p ∧ p < 4800) (a0 : 0 ≤ a ∧ a ≤ 9) (hb : J 25 p ≤ 9) (hk : ∀ j, 0 ≤ J 10 j ∧ J 10 j ≤ 100) :
    Mth (d + 1) M_Mo_lose [vR (some [2]), vI a, vI p] (ty, ln, pJ I J, R, c, w) K X = K (none) (ty, ln, pJ I (loseJ J a p), R, c, w) := by
  have a10 := h.a10
  have a25 := h.a25
  have a26 := h.a26
  have h0 := h.1
  have k1 := hk (10 * J 25 p + a)
  unfold loseJ
  by_cases q1 : 0 ≤ J 25 p
  · by_cases q2 : J 26 p = 0
    · simp (disch := omega) only [in_Mo_lose, b_Mo_lose_0, b_Mo_lose_45, ↓h.e25, ↓h.e10, ↓h.e26, Option.toList_some, Option.toList_none, List.cons_append, List.nil_append, ↓if_pos, ↓if_neg, ↓and_t, pJ_a, pJ_m, up_a, up_m, Option.some.injEq, exists_eq_left', wr_a, wr_m, true_and, and_true, not_true_eq_false, not_false_eq_true, if_true, if_false, or_true, true_or, uJ_self, uJ_ne, upI_self, upI_ne, w32_id, reduceCtorEq, ne_eq, wJ_ne, wJ_out]
    · simp (disch := omega) only [in_Mo_lose, b_Mo_lose_0, b_Mo_lose_45, ↓h.e25, ↓h.e10, ↓h.e26, Option.toList_some, Option.toList_none, List.cons_append, List.nil_append, ↓if_pos, ↓if_neg, ↓and_t, pJ_a, pJ_m, up_a, up_m, Option.some.injEq, exists_eq_left', wr_a, wr_m, true_and, and_true, not_true_eq_false, not_false_eq_true, if_true, if_false, or_true, true_or, uJ_self, uJ_ne, upI_self, upI_ne, w32_id, reduceCtorEq, ne_eq, wJ_ne, wJ_out]
  · simp (disch := omega) only [in_Mo_lose, b_Mo_lose_0, b_Mo_lose_45, ↓h.e25, ↓h.e10, ↓h.e26, Option.toList_some, Option.toList_none, List.cons_append, List.nil_append, ↓if_pos, ↓if_neg, ↓and_t, pJ_a, pJ_m, up_a, up_m, Option.some.injEq, exists_eq_left', wr_a, wr_m, true_and, and_true, not_true_eq_false, not_false_eq_true, if_true, if_false, or_true, true_or, uJ_self, uJ_ne, upI_self, upI_ne, w32_id, reduceCtorEq, ne_eq, wJ_ne, wJ_out]
theorem m_length {d : Nat} {K : Kt} {X : Xt} {J : Int → Int → Int} {ty : Nm → Nat} {ln : Nm → Int} {I : Nm → Int → Int} {R : Nm → Int → Option Nm} {c w : Nat} (h : MOk ty ln R) (hk : 2 ≤ J (-1) 2 ∧ J (-1) 2 ≤ 6) :
    Mth (d + 1) M_Mo_length [vR (some [2])] (ty, ln, pJ I J, R, c, w) K X = K (some (vI (60 / J (-1) 2))) (ty, ln, pJ I (J), R, c, w) := by
  have h0 := h.1
  have e1 : Int.tdiv 60 (J (-1) 2) = 60 / J (-1) 2 := Int.tdiv_eq_ediv_of_nonneg (by decide)
  have e2 : 0 ≤ 60 / J (-1) 2 := Int.ediv_nonneg (by decide) (by omega)
  have e3 : 60 / J (-1) 2 ≤ 60 := Int.ediv_le_self _ (by decide)
  rw [in_Mo_length, b_Mo_length_0, and_t h0, pJ_m, and_t (by omega), e1, w32_id (by omega) (by omega)]
