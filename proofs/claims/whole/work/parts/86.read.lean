/-! ===== the class on the relation: reading ===== -/
theorem wr_4 {l : List Int} : wr (4 :: l) = true := rfl
theorem ck {n : Nm} {ty : Nm → Nat} {t : Nat} {b : Prop} (h : ty n = t) : ((∀ m, some n = some m → ty m = t) ∧ b) = b := and_t (fun m e => by cases e; exact h)
theorem l5 {J : Int → Int → Int} {a : Int} (h : hsJ J a) : LK J [4, a] (1) 5 (a) := Or.inl ⟨a, h, rfl, rfl, Or.inl ⟨rfl, rfl⟩⟩
theorem l6 {J : Int → Int → Int} {a : Int} (h : hsJ J a) : LK J [4, a] (11) 6 (a) := Or.inl ⟨a, h, rfl, rfl, Or.inr (Or.inl ⟨rfl, rfl⟩)⟩
theorem l7 {J : Int → Int → Int} {a : Int} (h : hsJ J a) : LK J [4, a] (12) 7 (a) := Or.inl ⟨a, h, rfl, rfl, Or.inr (Or.inr (Or.inl ⟨rfl, rfl⟩))⟩
theorem l8 {J : Int → Int → Int} {a : Int} (h : hsJ J a) : LK J [4, a] (13) 8 (a) := Or.inl ⟨a, h, rfl, rfl, Or.inr (Or.inr (Or.inr (⟨rfl, rfl⟩)))⟩
theorem l9 {J : Int → Int → Int} {a x : Int} (h : hsJ J a ∧ 0 ≤ x ∧ x ≤ 9) : LK J [4, a, 2] (x) 9 (10 * a + x) := Or.inr (Or.inl ⟨a, 2, h.1, rfl, h.2, by decide, rfl, rfl⟩)
theorem l10 {J : Int → Int → Int} {a x : Int} (h : hsJ J a ∧ 0 ≤ x ∧ x ≤ 9) : LK J [4, a, 3] (x) 10 (10 * a + x) := Or.inr (Or.inl ⟨a, 3, h.1, rfl, h.2, by decide, rfl, rfl⟩)
theorem l11 {J : Int → Int → Int} {a x : Int} (h : hsJ J a ∧ 0 ≤ x ∧ x ≤ 9) : LK J [4, a, 4] (x) 11 (10 * a + x) := Or.inr (Or.inl ⟨a, 4, h.1, rfl, h.2, by decide, rfl, rfl⟩)
theorem l14 {J : Int → Int → Int} {a t x : Int} (h : hsJ J a ∧ (0 ≤ t ∧ t ≤ 9) ∧ (0 ≤ x ∧ x < 200 ∧ x < J 13 (10 * a + t) ∧ J 12 (10 * a + t) ≠ 0)) : LK J [4, a, 5, t] (x) 14 (200 * (10 * a + t) + x) := Or.inr (Or.inr (Or.inl ⟨a, t, h.1, rfl, h.2.1, h.2.2, rfl, rfl⟩))
theorem l22 {J : Int → Int → Int} {a s : Int} (h : sgJ J a s) : LK J [4, a, 8, s] (3) 22 (40 * a + s) := Or.inr (Or.inr (Or.inr (Or.inl ⟨a, s, h, rfl, rfl, Or.inl ⟨rfl, rfl⟩⟩)))
theorem l21 {J : Int → Int → Int} {a s : Int} (h : sgJ J a s) : LK J [4, a, 8, s] (4) 21 (40 * a + s) := Or.inr (Or.inr (Or.inr (Or.inl ⟨a, s, h, rfl, rfl, Or.inr ⟨rfl, rfl⟩⟩)))
theorem l23 {J : Int → Int → Int} {a s x : Int} (h : sgJ J a s ∧ 0 ≤ x ∧ x < 60) : LK J [4, a, 8, s, 0] (x) 23 (60 * (40 * a + s) + x) := Or.inr (Or.inr (Or.inr (Or.inr (Or.inl ⟨a, s, 0, h.1, rfl, h.2, by decide, rfl, rfl⟩))))
theorem l24 {J : Int → Int → Int} {a s x : Int} (h : sgJ J a s ∧ 0 ≤ x ∧ x < 60) : LK J [4, a, 8, s, 1] (x) 24 (60 * (40 * a + s) + x) := Or.inr (Or.inr (Or.inr (Or.inr (Or.inl ⟨a, s, 1, h.1, rfl, h.2, by decide, rfl, rfl⟩))))
theorem l25 {J : Int → Int → Int} {a s j : Int} (h : piJ J a s j) : LK J [4, a, 8, s, 3, j] (2) 25 (12 * (40 * a + s) + j) := Or.inr (Or.inr (Or.inr (Or.inr (Or.inr (Or.inl ⟨a, s, j, h, rfl, rfl, Or.inl ⟨rfl, rfl⟩⟩)))))
theorem l26 {J : Int → Int → Int} {a s j : Int} (h : piJ J a s j) : LK J [4, a, 8, s, 3, j] (3) 26 (12 * (40 * a + s) + j) := Or.inr (Or.inr (Or.inr (Or.inr (Or.inr (Or.inl ⟨a, s, j, h, rfl, rfl, Or.inr (Or.inl ⟨rfl, rfl⟩)⟩)))))
theorem l28 {J : Int → Int → Int} {a s j : Int} (h : piJ J a s j) : LK J [4, a, 8, s, 3, j] (4) 28 (12 * (40 * a + s) + j) := Or.inr (Or.inr (Or.inr (Or.inr (Or.inr (Or.inl ⟨a, s, j, h, rfl, rfl, Or.inr (Or.inr (⟨rfl, rfl⟩))⟩)))))
theorem l27 {J : Int → Int → Int} {a s j x : Int} (h : piJ J a s j ∧ 0 ≤ x ∧ x < 30 ∧ x < 60 / J (-1) 2) : LK J [4, a, 8, s, 3, j, 0] (x) 27 (30 * (12 * (40 * a + s) + j) + x) := Or.inr (Or.inr (Or.inr (Or.inr (Or.inr (Or.inr (Or.inl ⟨a, s, j, h.1, rfl, h.2, rfl, rfl⟩))))))
theorem l29 {J : Int → Int → Int} {a s j x : Int} (h : piJ J a s j ∧ 0 ≤ x ∧ x < 8) : LK J [4, a, 8, s, 3, j, 1] (x) 29 (8 * (12 * (40 * a + s) + j) + x) := Or.inr (Or.inr (Or.inr (Or.inr (Or.inr (Or.inr (Or.inr (⟨a, s, j, h.1, rfl, h.2, rfl, rfl⟩)))))))
/-- what the reference's book says of pieces -/
def PI (J : Int → Int → Int) : Prop := ∀ p, (J 25 p < 0 → J 26 p = 0) ∧ (0 ≤ J 25 p → 0 < J 5 (J 25 p))
theorem RC.upV {J : Int → Int → Int} {E : Nm → Int → Int} {ty : Nm → Nat} {ln : Nm → Int} {I : Nm → Int → Int} {R : Nm → Int → Option Nm} (h : RC J E ty ln I R) {v : Int} (hv : v ≤ 9 ∧ (0 ≤ v → 0 < J 5 v)) : upAt I R [1, 0] v = if 0 ≤ v ∧ J 6 v ≠ 0 then 1 else 0 := by
  unfold upAt
  by_cases q : 0 ≤ v
  · have ha : hsJ J v := ⟨⟨q, hv.1⟩, hv.2 q⟩
    rw [h.g.yes ha]
    show (if I [4, v] 11 = 0 then (0 : Int) else 1) = _
    rw [h.ri _ _ _ _ (l6 ha)]
    by_cases q2 : J 6 v = 0
    · rw [if_pos q2, if_neg (fun z => z.2 q2)]
    · rw [if_neg q2, if_pos ⟨q, q2⟩]
  · rw [h.g.no (fun z => q z.1.1), if_neg (fun z => q z.1)]
theorem RC.tyH {J : Int → Int → Int} {E : Nm → Int → Int} {ty : Nm → Nat} {ln : Nm → Int} {I : Nm → Int → Int} {R : Nm → Int → Option Nm} (h : RC J E ty ln I R) {v : Int} : ∀ n, hsAt R [1, 0] v = some n → ty n = 105 := by
  intro n e
  by_cases q : hsJ J v
  · rw [h.g.yes q] at e; cases e; exact (h.hs v q).1
  · rw [h.g.no q] at e; cases e
theorem y_isUp {d : Nat} {K : Kt} {X : Xt} {J : Int → Int → Int} {E : Nm → Int → Int} {ty : Nm → Nat} {ln : Nm → Int} {I : Nm → Int → Int} {R : Nm → Int → Option Nm} {c w : Nat} {v : Int} (h : RC J E ty ln I R) (hv : v ≤ 9 ∧ (0 ≤ v → 0 < J 5 v)) :
    Mth (d + 2) M_FB_isUp [vR (some [1]), vI v] (ty, ln, I, R, c, w) K X = K (some (vI (if 0 ≤ v ∧ J 6 v ≠ 0 then 1 else 0))) (ty, ln, I, R, c, w) := by
  obtain ⟨f1, fr0, fr1, fr2, fr3, fr4, fr5, ⟨ft0, fl0⟩, ⟨ft3, fl3⟩, ⟨ft4, fl4⟩, ⟨ft5, fl5⟩, ft16, fr160, fr161, ⟨ft160, fl160⟩, ⟨ft161, fl161⟩⟩ := id h.g.1
  rw [s_FB_isUp f1 fr0 ft0 fl0 h.tyH, ← h.upV hv]
  rfl
theorem y_isReachable {d : Nat} {K : Kt} {X : Xt} {J : Int → Int → Int} {E : Nm → Int → Int} {ty : Nm → Nat} {ln : Nm → Int} {I : Nm → Int → Int} {R : Nm → Int → Option Nm} {c w : Nat} {a s j : Int} (h : RC J E ty ln I R) (hp : piJ J a s j) (hv : J 25 (12 * (40 * a + s) + j) ≤ 9 ∧ (0 ≤ J 25 (12 * (40 * a + s) + j) → 0 < J 5 (J 25 (12 * (40 * a + s) + j)))) :
    Mth (d + 3) M_FB_isReachable [vR (some [1]), vR (some [4, a, 8, s, 3, j])] (ty, ln, I, R, c, w) K X = K (some (vI (if isR J (12 * (40 * a + s) + j) then 1 else 0))) (ty, ln, I, R, c, w) := by
  obtain ⟨f1, fr0, fr1, fr2, fr3, fr4, fr5, ⟨ft0, fl0⟩, ⟨ft3, fl3⟩, ⟨ft4, fl4⟩, ⟨ft5, fl5⟩, ft16, fr160, fr161, ⟨ft160, fl160⟩, ⟨ft161, fl161⟩⟩ := id h.g.1
  have hpt := ((h.sg a s hp.1).2.2.2.2 j hp.2.1 hp.2.2.2).2.1
  rw [s_FB_isReachable f1 fr0 ft0 fl0 h.tyH hpt, h.ri _ _ _ _ (l25 hp), h.ri _ _ _ _ (l26 hp), h.upV hv]
  by_cases q : J 26 (12 * (40 * a + s) + j) = 0
  · rw [if_pos q, if_neg (fun z => z.2.2 q)]
  · rw [if_neg q]
    by_cases q2 : 0 ≤ J 25 (12 * (40 * a + s) + j) ∧ J 6 (J 25 (12 * (40 * a + s) + j)) ≠ 0
    · rw [if_pos q2, if_pos ⟨q2.1, q2.2, q⟩]
    · rw [if_neg q2, if_neg (fun z => q2 ⟨z.1, z.2.1⟩)]
theorem y_size {d : Nat} {K : Kt} {X : Xt} {J : Int → Int → Int} {E : Nm → Int → Int} {ty : Nm → Nat} {ln : Nm → Int} {I : Nm → Int → Int} {R : Nm → Int → Option Nm} {c w : Nat} {a : Int} (h : RC J E ty ln I R) (ha : hsJ J a) :
    Mth (d + 1) M_AL_size [vR (some [4, a, 8])] (ty, ln, I, R, c, w) K X = K (some (vI (J 20 a))) (ty, ln, I, R, c, w) := by
  obtain ⟨t0, ⟨r2, t2, ll2⟩, ⟨r3, t3, ll3⟩, ⟨r4, t4, ll4⟩, ⟨r5, t5, ll5⟩, rw5, ⟨r6, t6, ll6⟩, ⟨r7, t7⟩, ⟨r8, t8⟩, ⟨r9, t9⟩⟩ := h.hs a ha
  rw [s_AL_size t8, (h.sn a ha).1]
theorem y_get {d : Nat} {K : Kt} {X : Xt} {J : Int → Int → Int} {E : Nm → Int → Int} {ty : Nm → Nat} {ln : Nm → Int} {I : Nm → Int → Int} {R : Nm → Int → Option Nm} {c w : Nat} {a s : Int} (h : RC J E ty ln I R) (hs : sgJ J a s) :
    Mth (d + 3) M_AL_get [vR (some [4, a, 8]), vI s] (ty, ln, I, R, c, w) K X = K (some (vR (some [4, a, 8, s]))) (ty, ln, I, R, c, w) := by
  have ha := hs.1
  obtain ⟨t0, ⟨r2, t2, ll2⟩, ⟨r3, t3, ll3⟩, ⟨r4, t4, ll4⟩, ⟨r5, t5, ll5⟩, rw5, ⟨r6, t6, ll6⟩, ⟨r7, t7⟩, ⟨r8, t8⟩, ⟨r9, t9⟩⟩ := h.hs a ha
  obtain ⟨e1, e2, e3, e4, e5, e6⟩ := h.sn a ha
  rw [s_AL_get t8 e4 (e5 (by omega)) hs.2.1 (by rw [e1]; exact hs.2.2.2) (by rw [e1]; exact e6), h.sr a s hs]
theorem y_segmentOf {d : Nat} {K : Kt} {X : Xt} {J : Int → Int → Int} {E : Nm → Int → Int} {ty : Nm → Nat} {ln : Nm → Int} {I : Nm → Int → Int} {R : Nm → Int → Option Nm} {c w : Nat} {a s : Int} (h : RC J E ty ln I R) (ha : hsJ J a) :
    Mth (d + 7) M_FB_segmentOf [vR (some [4, a]), vI s] (ty, ln, I, R, c, w) K X = (if (0 ≤ s ∧ s < J 20 a) ∧ J 21 (40 * a + s) = 0 then K (some (vR (some [4, a, 8, s]))) (ty, ln, I, R, c, w) else ((1 ≤ c ∧ 6 ≤ w) ∧ X 1 (ty, ln, I, R, c - 1, w - 6))) := by
  obtain ⟨t0, ⟨r2, t2, ll2⟩, ⟨r3, t3, ll3⟩, ⟨r4, t4, ll4⟩, ⟨r5, t5, ll5⟩, rw5, ⟨r6, t6, ll6⟩, ⟨r7, t7⟩, ⟨r8, t8⟩, ⟨r9, t9⟩⟩ := h.hs a ha
  obtain ⟨e1, e2, e3, -⟩ := h.sn a ha
  have rr : J 20 a - 1 < 2147483648 := by omega
  by_cases q1 : 0 ≤ s ∧ s < J 20 a
  · have hs : sgJ J a s := ⟨ha, q1.1, by omega, q1.2⟩
    obtain ⟨g0, ⟨gr0, gt0, gl0⟩, ⟨gr1, gt1, gl1⟩, ⟨gr2, gt2, gl2⟩, gp⟩ := h.sg a s hs
    have i4 := h.ri _ _ _ _ (l21 hs)
    by_cases q2 : J 21 (40 * a + s) = 0
    · simp (disch := first | omega | assumption | rfl) only [in_FB_segmentOf, b_FB_segmentOf_0, b_FB_segmentOf_9, b_FB_segmentOf_14, b_FB_segmentOf_17, b_FB_segmentOf_25, b_FB_segmentOf_41, b_FB_segmentOf_44, y_size h ha, y_get h , s_FB_isWithin, x_rA, x_rA1, r8, i4, Option.toList_some, Option.toList_none, List.cons_append, List.nil_append, ↓if_pos, ↓if_neg, ↓and_t, ↓ck, ↓ex_some, true_and, and_true, not_true_eq_false, not_false_eq_true, if_true, if_false, or_true, true_or, w32_id, reduceCtorEq, ne_eq, wr_4]
    · simp (disch := first | omega | assumption | rfl) only [in_FB_segmentOf, b_FB_segmentOf_0, b_FB_segmentOf_9, b_FB_segmentOf_14, b_FB_segmentOf_17, b_FB_segmentOf_25, b_FB_segmentOf_41, b_FB_segmentOf_44, y_size h ha, y_get h , s_FB_isWithin, x_rA, x_rA1, r8, i4, Option.toList_some, Option.toList_none, List.cons_append, List.nil_append, ↓if_pos, ↓if_neg, ↓and_t, ↓ck, ↓ex_some, true_and, and_true, not_true_eq_false, not_false_eq_true, if_true, if_false, or_true, true_or, w32_id, reduceCtorEq, ne_eq, wr_4]
  · simp (disch := first | omega | assumption | rfl) only [in_FB_segmentOf, b_FB_segmentOf_0, b_FB_segmentOf_9, b_FB_segmentOf_14, b_FB_segmentOf_17, b_FB_segmentOf_25, b_FB_segmentOf_41, b_FB_segmentOf_44, y_size h ha, y_get h , s_FB_isWithin, x_rA, x_rA1, r8, Option.toList_some, Option.toList_none, List.cons_append, List.nil_append, ↓if_pos, ↓if_neg, ↓and_t, ↓ck, ↓ex_some, true_and, and_true, not_true_eq_false, not_false_eq_true, if_true, if_false, or_true, true_or, w32_id, reduceCtorEq, ne_eq, wr_4]
theorem y_pieceOf {d : Nat} {K : Kt} {X : Xt} {J : Int → Int → Int} {E : Nm → Int → Int} {ty : Nm → Nat} {ln : Nm → Int} {I : Nm → Int → Int} {R : Nm → Int → Option Nm} {c w : Nat} {a s j : Int} (h : RC J E ty ln I R) (hs : sgJ J a s) :
    Mth (d + 7) M_FB_pieceOf [vR (some [4, a, 8, s]), vI j] (ty, ln, I, R, c, w) K X = (if 0 ≤ j ∧ j < J (-1) 3 then K (some (vR (some [4, a, 8, s, 3, j]))) (ty, ln, I, R, c, w) else ((1 ≤ c ∧ 6 ≤ w) ∧ X 1 (ty, ln, I, R, c - 1, w - 6))) := by
  obtain ⟨g0, ⟨gr0, gt0, gl0⟩, ⟨gr1, gt1, gl1⟩, ⟨gr2, gt2, gl2⟩, gp⟩ := h.sg a s hs
  have sc := h.g.2.2.2.2.2.2.2
  by_cases q1 : 0 ≤ j ∧ j < J (-1) 3
  · have pr := (gp j q1.1 q1.2).1
    simp (disch := first | omega | assumption | rfl) only [in_FB_pieceOf, b_FB_pieceOf_0, b_FB_pieceOf_12, b_FB_pieceOf_15, s_FB_isWithin, x_rA, x_rA1, gr2, gl2, pr, Option.toList_some, Option.toList_none, List.cons_append, List.nil_append, ↓if_pos, ↓if_neg, ↓and_t, ↓ck, ↓ex_some, true_and, and_true, not_true_eq_false, not_false_eq_true, if_true, if_false, or_true, true_or, w32_id, reduceCtorEq, ne_eq, wr_4]
  · simp (disch := first | omega | assumption | rfl) only [in_FB_pieceOf, b_FB_pieceOf_0, b_FB_pieceOf_12, b_FB_pieceOf_15, s_FB_isWithin, x_rA, x_rA1, gr2, gl2, Option.toList_some, Option.toList_none, List.cons_append, List.nil_append, ↓if_pos, ↓if_neg, ↓and_t, ↓ck, ↓ex_some, true_and, and_true, not_true_eq_false, not_false_eq_true, if_true, if_false, or_true, true_or, w32_id, reduceCtorEq, ne_eq, wr_4]
