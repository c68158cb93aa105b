/-! ===== the class on the relation: up, stored, balance, keeper, sample, recover, health ===== -/
theorem z_up {d : Nat} {K : Kt} {X : Xt} {J : Int → Int → Int} {E : Nm → Int → Int} {ty : Nm → Nat} {ln : Nm → Int} {I : Nm → Int → Int} {R : Nm → Int → Option Nm} {c w : Nat} {a x : Int} (h : RC J E ty ln I R) (hG : GI J) (hV : VI J) (ha : hsJ J a) (hx : x = 0 ∨ x = 1) (k0 : ∀ I', RC (uJ J 6 a x) E ty ln I' R → K (some (vI (J 6 a))) (ty, ln, I', R, c, w)) :
    Mth (d + 7) M_FB_up [vR (some [1]), vI a, vI x] (ty, ln, I, R, c, w) K X := by
  obtain ⟨f1, fr0, fr1, fr2, fr3, fr4, fr5, ⟨ft0, fl0⟩, ⟨ft3, fl3⟩, ⟨ft4, fl4⟩, ⟨ft5, fl5⟩, ft16, fr160, fr161, ⟨ft160, fl160⟩, ⟨ft161, fl161⟩⟩ := id h.g.1
  obtain ⟨t0, ⟨r2, t2, ll2⟩, ⟨r3, t3, ll3⟩, ⟨r4, t4, ll4⟩, ⟨r5, t5, ll5⟩, rw5, ⟨r6, t6, ll6⟩, ⟨r7, t7⟩, ⟨r8, t8⟩, ⟨r9, t9⟩⟩ := h.hs a ha
  have i11 := h.ri _ _ _ _ (l6 ha)
  have b6 := hG.1.k6 a
  have z := k0 _ (h.up (v := x) (l6 ha) (by decide))
  simp (disch := first | omega | assumption | rfl | exact ⟨hx, t0, rfl⟩) only [in_FB_up, b_FB_up_0, b_FB_up_5, x_houseOf_yes h.g ha, i11, Option.toList_some, Option.toList_none, List.cons_append, List.nil_append, ↓if_pos, ↓if_neg, ↓and_t, ↓ck, ↓ex_some, true_and, and_true, not_true_eq_false, not_false_eq_true, if_true, if_false, or_true, true_or, w32_id, reduceCtorEq, ne_eq, wr_4]
  exact z
theorem z_stored {d : Nat} {K : Kt} {X : Xt} {J : Int → Int → Int} {E : Nm → Int → Int} {ty : Nm → Nat} {ln : Nm → Int} {I : Nm → Int → Int} {R : Nm → Int → Option Nm} {c w : Nat} {a b : Int} (h : RC J E ty ln I R) (hG : GI J) (hV : VI J) (ha : hsJ J a) (k0 : hsJ J b → K (some (vI (J 10 (10 * a + b)))) (ty, ln, I, R, c, w)) (k1 : ¬ (((0 ≤ b ∧ b ≤ 9) ∧ 0 < J 5 b)) → (1 ≤ c ∧ 6 ≤ w) ∧ X 1 (ty, ln, I, R, c - 1, w - 6)) :
    Mth (d + 7) M_FB_stored [vR (some [1]), vI a, vI b] (ty, ln, I, R, c, w) K X := by
  obtain ⟨f1, fr0, fr1, fr2, fr3, fr4, fr5, ⟨ft0, fl0⟩, ⟨ft3, fl3⟩, ⟨ft4, fl4⟩, ⟨ft5, fl5⟩, ft16, fr160, fr161, ⟨ft160, fl160⟩, ⟨ft161, fl161⟩⟩ := id h.g.1
  obtain ⟨t0, ⟨r2, t2, ll2⟩, ⟨r3, t3, ll3⟩, ⟨r4, t4, ll4⟩, ⟨r5, t5, ll5⟩, rw5, ⟨r6, t6, ll6⟩, ⟨r7, t7⟩, ⟨r8, t8⟩, ⟨r9, t9⟩⟩ := h.hs a ha
  by_cases hb : hsJ J b
  · obtain ⟨tb, -, ⟨rb3, tb3, lb3⟩, ⟨rb4, tb4, lb4⟩, -⟩ := h.hs b hb
    have nb := h.nm b hb
    have i10 := h.ri _ _ _ _ (l10 ⟨ha, hb.1⟩)
    have i11 := h.ri _ _ _ _ (l10 ⟨hb, ha.1⟩)
    have z := k0 hb
    have u1 := hG.1.k11 (10 * a + b)
    have u2 := hG.1.k11 (10 * b + a)
    have e1 := x_houseOf_yes (d := d + 4) (K := K) (X := X) (c := c) (w := w) h.g ha
    simp (disch := first | omega | assumption | rfl) only [in_FB_stored, b_FB_stored_0, b_FB_stored_5, b_FB_stored_11, x_houseOf_yes h.g ha, x_houseOf_yes h.g hb, nb, r3, r4, rb4, i10, Option.toList_some, Option.toList_none, List.cons_append, List.nil_append, ↓if_pos, ↓if_neg, ↓and_t, ↓ck, ↓ex_some, true_and, and_true, not_true_eq_false, not_false_eq_true, if_true, if_false, or_true, true_or, w32_id, reduceCtorEq, ne_eq, wr_4]
    exact z
  · have z := k1 hb
    simp (disch := first | omega | assumption | rfl) only [in_FB_stored, b_FB_stored_0, b_FB_stored_5, x_houseOf_yes h.g ha, x_houseOf_no h.g hb, Option.toList_some, Option.toList_none, List.cons_append, List.nil_append, ↓if_pos, ↓if_neg, ↓and_t, ↓ck, ↓ex_some, true_and, and_true, not_true_eq_false, not_false_eq_true, if_true, if_false, or_true, true_or, w32_id, reduceCtorEq, ne_eq, wr_4]
    first | exact z | exact z.2
theorem z_balance {d : Nat} {K : Kt} {X : Xt} {J : Int → Int → Int} {E : Nm → Int → Int} {ty : Nm → Nat} {ln : Nm → Int} {I : Nm → Int → Int} {R : Nm → Int → Option Nm} {c w : Nat} {a b : Int} (h : RC J E ty ln I R) (hG : GI J) (hV : VI J) (ha : hsJ J a) (k0 : hsJ J b → K (some (vI (J 11 (10 * a + b) - J 11 (10 * b + a)))) (ty, ln, I, R, c, w)) (k1 : ¬ (((0 ≤ b ∧ b ≤ 9) ∧ 0 < J 5 b)) → (1 ≤ c ∧ 6 ≤ w) ∧ X 1 (ty, ln, I, R, c - 1, w - 6)) :
    Mth (d + 7) M_FB_balance [vR (some [1]), vI a, vI b] (ty, ln, I, R, c, w) K X := by
  obtain ⟨f1, fr0, fr1, fr2, fr3, fr4, fr5, ⟨ft0, fl0⟩, ⟨ft3, fl3⟩, ⟨ft4, fl4⟩, ⟨ft5, fl5⟩, ft16, fr160, fr161, ⟨ft160, fl160⟩, ⟨ft161, fl161⟩⟩ := id h.g.1
  obtain ⟨t0, ⟨r2, t2, ll2⟩, ⟨r3, t3, ll3⟩, ⟨r4, t4, ll4⟩, ⟨r5, t5, ll5⟩, rw5, ⟨r6, t6, ll6⟩, ⟨r7, t7⟩, ⟨r8, t8⟩, ⟨r9, t9⟩⟩ := h.hs a ha
  by_cases hb : hsJ J b
  · obtain ⟨tb, -, ⟨rb3, tb3, lb3⟩, ⟨rb4, tb4, lb4⟩, -⟩ := h.hs b hb
    have nb := h.nm b hb
    have i10 := h.ri _ _ _ _ (l11 ⟨ha, hb.1⟩)
    have i11 := h.ri _ _ _ _ (l11 ⟨hb, ha.1⟩)
    have z := k0 hb
    have u1 := hG.1.k11 (10 * a + b)
    have u2 := hG.1.k11 (10 * b + a)
    have e1 := x_houseOf_yes (d := d + 4) (K := K) (X := X) (c := c) (w := w) h.g ha
    simp (disch := first | omega | assumption | rfl) only [in_FB_balance, b_FB_balance_0, b_FB_balance_5, b_FB_balance_11, x_houseOf_yes h.g ha, x_houseOf_yes h.g hb, nb, r3, r4, rb4, i10, i11, Option.toList_some, Option.toList_none, List.cons_append, List.nil_append, ↓if_pos, ↓if_neg, ↓and_t, ↓ck, ↓ex_some, true_and, and_true, not_true_eq_false, not_false_eq_true, if_true, if_false, or_true, true_or, w32_id, reduceCtorEq, ne_eq, wr_4]
    exact z
  · have z := k1 hb
    simp (disch := first | omega | assumption | rfl) only [in_FB_balance, b_FB_balance_0, b_FB_balance_5, x_houseOf_yes h.g ha, x_houseOf_no h.g hb, Option.toList_some, Option.toList_none, List.cons_append, List.nil_append, ↓if_pos, ↓if_neg, ↓and_t, ↓ck, ↓ex_some, true_and, and_true, not_true_eq_false, not_false_eq_true, if_true, if_false, or_true, true_or, w32_id, reduceCtorEq, ne_eq, wr_4]
    first | exact z | exact z.2
theorem z_keeper {d : Nat} {K : Kt} {X : Xt} {J : Int → Int → Int} {E : Nm → Int → Int} {ty : Nm → Nat} {ln : Nm → Int} {I : Nm → Int → Int} {R : Nm → Int → Option Nm} {c w : Nat} {a s j : Int} (h : RC J E ty ln I R) (hG : GI J) (hV : VI J) (ha : hsJ J a) (k0 : (((0 ≤ s ∧ s < J 20 a) ∧ J 21 (40 * a + s) = 0) ∧ 0 ≤ j ∧ j < J (-1) 3) → K (some (vI (J 25 (12 * (40 * a + s) + j)))) (ty, ln, I, R, c, w)) (k1 : ¬ ((((0 ≤ s ∧ s < J 20 a) ∧ J 21 (40 * a + s) = 0) ∧ 0 ≤ j ∧ j < J (-1) 3)) → (1 ≤ c ∧ 6 ≤ w) ∧ X 1 (ty, ln, I, R, c - 1, w - 6)) :
    Mth (d + 8) M_FB_keeper [vR (some [1]), vI a, vI s, vI j] (ty, ln, I, R, c, w) K X := by
  obtain ⟨f1, fr0, fr1, fr2, fr3, fr4, fr5, ⟨ft0, fl0⟩, ⟨ft3, fl3⟩, ⟨ft4, fl4⟩, ⟨ft5, fl5⟩, ft16, fr160, fr161, ⟨ft160, fl160⟩, ⟨ft161, fl161⟩⟩ := id h.g.1
  obtain ⟨t0, ⟨r2, t2, ll2⟩, ⟨r3, t3, ll3⟩, ⟨r4, t4, ll4⟩, ⟨r5, t5, ll5⟩, rw5, ⟨r6, t6, ll6⟩, ⟨r7, t7⟩, ⟨r8, t8⟩, ⟨r9, t9⟩⟩ := h.hs a ha
  obtain ⟨e1, e2, e3, -⟩ := h.sn a ha
  have sc := h.g.2.2.2.2.2.2.2
  by_cases q1 : ((0 ≤ s ∧ s < J 20 a) ∧ J 21 (40 * a + s) = 0)
  · have hs : sgJ J a s := ⟨ha, by omega, by omega, by omega⟩
    by_cases q2 : 0 ≤ j ∧ j < J (-1) 3
    · have hp : piJ J a s j := ⟨hs, by omega, by omega, by omega⟩
      have pt := ((h.sg a s hs).2.2.2.2 j q2.1 q2.2).2.1
      have i2 := h.ri _ _ _ _ (l25 hp)
      have z := k0 ⟨q1, q2⟩
      simp (disch := first | omega | assumption | rfl) only [in_FB_keeper, b_FB_keeper_0, b_FB_keeper_5, b_FB_keeper_9, b_FB_keeper_13, x_houseOf_yes h.g ha, y_segmentOf h ha, y_pieceOf h hs, i2, Option.toList_some, Option.toList_none, List.cons_append, List.nil_append, ↓if_pos, ↓if_neg, ↓and_t, ↓ck, ↓ex_some, true_and, and_true, not_true_eq_false, not_false_eq_true, if_true, if_false, or_true, true_or, w32_id, reduceCtorEq, ne_eq, wr_4]
      exact z
    · have z := k1 (fun y => q2 y.2)
      simp (disch := first | omega | assumption | rfl) only [in_FB_keeper, b_FB_keeper_0, b_FB_keeper_5, b_FB_keeper_9, b_FB_keeper_13, x_houseOf_yes h.g ha, y_segmentOf h ha, y_pieceOf h hs, Option.toList_some, Option.toList_none, List.cons_append, List.nil_append, ↓if_pos, ↓if_neg, ↓and_t, ↓ck, ↓ex_some, true_and, and_true, not_true_eq_false, not_false_eq_true, if_true, if_false, or_true, true_or, w32_id, reduceCtorEq, ne_eq, wr_4]
      first | exact z | exact z.2
  · have z := k1 (fun y => q1 y.1)
    simp (disch := first | omega | assumption | rfl) only [in_FB_keeper, b_FB_keeper_0, b_FB_keeper_5, b_FB_keeper_9, x_houseOf_yes h.g ha, y_segmentOf h ha, Option.toList_some, Option.toList_none, List.cons_append, List.nil_append, ↓if_pos, ↓if_neg, ↓and_t, ↓ck, ↓ex_some, true_and, and_true, not_true_eq_false, not_false_eq_true, if_true, if_false, or_true, true_or, w32_id, reduceCtorEq, ne_eq, wr_4]
    first | exact z | exact z.2
set_option maxHeartbeats 2000000 in
theorem z_sample {d : Nat} {K : Kt} {X : Xt} {J : Int → Int → Int} {E : Nm → Int → Int} {ty : Nm → Nat} {ln : Nm → Int} {I : Nm → Int → Int} {R : Nm → Int → Option Nm} {c w : Nat} {a s j : Int} (h : RC J E ty ln I R) (hG : GI J) (hV : VI J) (ha : hsJ J a) (kn : (((0 ≤ s ∧ s < J 20 a) ∧ J 21 (40 * a + s) = 0) ∧ 0 ≤ j ∧ j < J (-1) 3) → J 7 a = 0 → (J 25 (12 * (40 * a + s) + j) < 0 ∨ J 28 (12 * (40 * a + s) + j) = 8) → K (some (vI (-1))) (ty, ln, I, R, c, w)) (k0 : (((0 ≤ s ∧ s < J 20 a) ∧ J 21 (40 * a + s) = 0) ∧ 0 ≤ j ∧ j < J (-1) 3) → J 7 a = 0 → ¬ (J 25 (12 * (40 * a + s) + j) < 0 ∨ J 28 (12 * (40 * a + s) + j) = 8) → ∀ I', RC (uJ J 28 (12 * (40 * a + s) + j) (J 28 (12 * (40 * a + s) + j) + 1)) E ty ln I' R → K (some (vI (if J 6 (J 25 (12 * (40 * a + s) + j)) = 0 then 2 else (if J 26 (12 * (40 * a + s) + j) ≠ 0 ∧ anS (fun x => J 27 (30 * (12 * (40 * a + s) + j) + x)) (60 / J (-1) 2) (J 28 (12 * (40 * a + s) + j)) (60 / J (-1) 2 / 2).toNat = J 29 (8 * (12 * (40 * a + s) + j) + J 28 (12 * (40 * a + s) + j)) then 1 else 0)))) (ty, ln, I', R, c, w)) (k1 : ¬ ((((0 ≤ s ∧ s < J 20 a) ∧ J 21 (40 * a + s) = 0) ∧ 0 ≤ j ∧ j < J (-1) 3)) → (1 ≤ c ∧ 6 ≤ w) ∧ X 1 (ty, ln, I, R, c - 1, w - 6)) (k2 : ((((0 ≤ s ∧ s < J 20 a) ∧ J 21 (40 * a + s) = 0) ∧ 0 ≤ j ∧ j < J (-1) 3)) → ¬ (J 7 a = 0) → (1 ≤ c ∧ 6 ≤ w) ∧ X 2 (ty, ln, I, R, c - 1, w - 6)) :
    Mth (d + 8) M_FB_sample [vR (some [1]), vI a, vI s, vI j] (ty, ln, I, R, c, w) K X := by
  obtain ⟨f1, fr0, fr1, fr2, fr3, fr4, fr5, ⟨ft0, fl0⟩, ⟨ft3, fl3⟩, ⟨ft4, fl4⟩, ⟨ft5, fl5⟩, ft16, fr160, fr161, ⟨ft160, fl160⟩, ⟨ft161, fl161⟩⟩ := id h.g.1
  obtain ⟨t0, ⟨r2, t2, ll2⟩, ⟨r3, t3, ll3⟩, ⟨r4, t4, ll4⟩, ⟨r5, t5, ll5⟩, rw5, ⟨r6, t6, ll6⟩, ⟨r7, t7⟩, ⟨r8, t8⟩, ⟨r9, t9⟩⟩ := h.hs a ha
  obtain ⟨e1, e2, e3, -⟩ := h.sn a ha
  have sc := h.g.2.2.2.2.2.2.2
  have i12 := h.ri _ _ _ _ (l7 ha)
  by_cases q1 : ((0 ≤ s ∧ s < J 20 a) ∧ J 21 (40 * a + s) = 0)
  · have hs : sgJ J a s := ⟨ha, by omega, by omega, by omega⟩
    by_cases q2 : 0 ≤ j ∧ j < J (-1) 3
    · have hp : piJ J a s j := ⟨hs, by omega, by omega, by omega⟩
      obtain ⟨pr, pt, ⟨pr0, pt0, pl0⟩, ⟨pr1, pt1, pl1⟩⟩ := (h.sg a s hs).2.2.2.2 j q2.1 q2.2
      have i2 := h.ri _ _ _ _ (l25 hp)
      have i4 := h.ri _ _ _ _ (l28 hp)
      have b25 := hG.1.k25 (12 * (40 * a + s) + j)
      have b28 := hG.1.k28 (12 * (40 * a + s) + j)
      have PP : (((0 ≤ s ∧ s < J 20 a) ∧ J 21 (40 * a + s) = 0) ∧ 0 ≤ j ∧ j < J (-1) 3) := ⟨q1, q2⟩
      by_cases q3 : J 7 a = 0
      · by_cases q4 : J 25 (12 * (40 * a + s) + j) < 0
        · have q4' : J 25 (12 * (40 * a + s) + j) = -1 := by omega
          have z := kn PP q3 (Or.inl q4)
          simp (disch := first | omega | assumption | rfl) only [in_FB_sample, b_FB_sample_0, b_FB_sample_5, b_FB_sample_13, b_FB_sample_17, b_FB_sample_32, b_FB_sample_35, b_FB_sample_40, b_FB_sample_53, b_FB_sample_82, b_FB_sample_109, b_FB_sample_124, b_FB_sample_125, b_FB_sample_137, x_houseOf_yes h.g ha, y_segmentOf h ha, y_pieceOf h hs, s_Piece_isPlaced pt, x_rS, x_rS1, i2, i4, i12, Option.toList_some, Option.toList_none, List.cons_append, List.nil_append, ↓if_pos, ↓if_neg, ↓and_t, ↓ck, ↓ex_some, true_and, and_true, not_true_eq_false, not_false_eq_true, if_true, if_false, or_true, true_or, w32_id, reduceCtorEq, ne_eq, wr_4]
          exact z
        · have q4' : ¬ J 25 (12 * (40 * a + s) + j) = -1 := by omega
          by_cases q5 : J 28 (12 * (40 * a + s) + j) = 8
          · have z := kn PP q3 (Or.inr q5)
            simp (disch := first | omega | assumption | rfl) only [in_FB_sample, b_FB_sample_0, b_FB_sample_5, b_FB_sample_13, b_FB_sample_17, b_FB_sample_32, b_FB_sample_35, b_FB_sample_40, b_FB_sample_53, b_FB_sample_82, b_FB_sample_109, b_FB_sample_124, b_FB_sample_125, b_FB_sample_137, x_houseOf_yes h.g ha, y_segmentOf h ha, y_pieceOf h hs, s_Piece_isPlaced pt, x_rS, x_rS1, i2, i4, i12, Option.toList_some, Option.toList_none, List.cons_append, List.nil_append, ↓if_pos, ↓if_neg, ↓and_t, ↓ck, ↓ex_some, true_and, and_true, not_true_eq_false, not_false_eq_true, if_true, if_false, or_true, true_or, w32_id, reduceCtorEq, ne_eq, wr_4]
            exact z
          · have z := k0 PP q3 (fun y => y.elim q4 q5)
            have h' := h.up (v := J 28 (12 * (40 * a + s) + j) + 1) (l28 hp) (by decide)
            have z' := z _ h'
            clear z
            have p5 : ∀ x, uJ J 28 (12 * (40 * a + s) + j) (J 28 (12 * (40 * a + s) + j) + 1) 5 x = J 5 x := fun x => by rw [uJ_ne (by decide)]
            have p6 : ∀ x, uJ J 28 (12 * (40 * a + s) + j) (J 28 (12 * (40 * a + s) + j) + 1) 6 x = J 6 x := fun x => by rw [uJ_ne (by decide)]
            have hp' : piJ (uJ J 28 (12 * (40 * a + s) + j) (J 28 (12 * (40 * a + s) + j) + 1)) a s j := piJ_c hp (by rw [uJ_ne (by decide)]) (by rw [uJ_ne (by decide)]) (by rw [uJ_ne (by decide)])
            have i2' := h'.ri _ _ _ _ (l25 hp')
            have i3' := h'.ri _ _ _ _ (l26 hp')
            rw [uJ_ne (by decide)] at i2' i3'
            have k5' := h'.g.2.2.2.1.2.2
            have h17 := h'.g.2.1.1
            have iu := y_isUp (d := d + 5) (K := fun v h' => Rn (d + 7) M_FB_sample K X 82 [vR (some [1]), vI a, vI s, vI j, vR (some [4, a]), vR (some [4, a, 8, s, 3, j]), vI (J 28 (12 * (40 * a + s) + j)), vJ] (v.toList ++ []) h') (X := X) (c := c) (w := w) (v := J 25 (12 * (40 * a + s) + j)) h' ⟨by omega, fun _ => by rw [p5]; exact (hV.pi _ (by omega) (by omega)).2 (by omega)⟩
            rw [p6] at iu
            obtain ⟨v0, hv0⟩ : ∃ v0 : Int, v0 = if 0 ≤ J 25 (12 * (40 * a + s) + j) ∧ J 6 (J 25 (12 * (40 * a + s) + j)) ≠ 0 then 1 else 0 := ⟨_, rfl⟩
            rw [← hv0] at iu
            have st : Mth (d + 8) M_FB_sample [vR (some [1]), vI a, vI s, vI j] (ty, ln, I, R, c, w) K X = Rn (d + 7) M_FB_sample K X 82 [vR (some [1]), vI a, vI s, vI j, vR (some [4, a]), vR (some [4, a, 8, s, 3, j]), vI (J 28 (12 * (40 * a + s) + j)), vJ] [vI v0] (ty, ln, up2 I [4, a, 8, s, 3, j] 4 (J 28 (12 * (40 * a + s) + j) + 1), R, c, w) := by
              simp (disch := first | omega | assumption | rfl) only [in_FB_sample, b_FB_sample_0, b_FB_sample_5, b_FB_sample_13, b_FB_sample_17, b_FB_sample_32, b_FB_sample_35, b_FB_sample_40, b_FB_sample_53, x_houseOf_yes h.g ha, y_segmentOf h ha, y_pieceOf h hs, s_Piece_isPlaced pt, x_rS, x_rS1, i2, i4, i12, i2', Option.toList_some, Option.toList_none, List.cons_append, List.nil_append, ↓if_pos, ↓if_neg, ↓and_t, ↓ck, ↓ex_some, true_and, and_true, not_true_eq_false, not_false_eq_true, if_true, if_false, or_true, true_or, w32_id, reduceCtorEq, ne_eq, wr_4]
              exact iu
            rw [st, hv0]
            generalize up2 I [4, a, 8, s, 3, j] 4 (J 28 (12 * (40 * a + s) + j) + 1) = I1 at h' z' i2' i3' k5'
            have l27' : ∀ x, 0 ≤ x → x < 60 / J (-1) 2 → I1 [4, a, 8, s, 3, j, 0] x = J 27 (30 * (12 * (40 * a + s) + j) + x) := fun x x0 x1 => by
              have lb := lK sc.1
              rw [h'.ri _ _ _ _ (l27 ⟨hp', x0, by omega, by rw [uJ_ne (by decide)]; exact x1⟩), uJ_ne (by decide)]
            have i29 := h'.ri _ _ _ _ (l29 (x := J 28 (12 * (40 * a + s) + j)) ⟨hp', by omega, by omega⟩)
            rw [uJ_ne (by decide)] at i29
            rw [uJ_ne (by decide)] at k5'
            have lb := lK sc.1
            by_cases q6 : J 6 (J 25 (12 * (40 * a + s) + j)) = 0
            · rw [if_pos q6] at z'
              rw [if_neg (fun y => y.2 q6), b_FB_sample_82, if_neg (fun y => y rfl)]
              exact z'
            · rw [if_neg q6] at z'
              rw [if_pos ⟨by omega, q6⟩, b_FB_sample_82, if_pos (by decide), ex_some, and_t pt, i3']
              by_cases q7 : J 26 (12 * (40 * a + s) + j) = 0
              · rw [if_neg (fun y => y.1 q7)] at z'
                rw [if_pos q7, b_FB_sample_124, b_FB_sample_125, if_pos rfl, b_FB_sample_137]
                exact z'
              · rw [if_neg q7, and_t f1, ex_some, and_t pt, fr1, ex_some, and_t h17, pr0, s_answer h17 k5' lb (by omega) pt0 (by omega) (fun x x0 x1 => by rw [l27' x x0 x1]; have := hG.1.k27 (30 * (12 * (40 * a + s) + j) + x); omega), anS_c (by omega) l27']
                show Rn (d + 7) M_FB_sample K X 109 [vR (some [1]), vI a, vI s, vI j, vR (some [4, a]), vR (some [4, a, 8, s, 3, j]), vI (J 28 (12 * (40 * a + s) + j)), vJ] [vI _] (ty, ln, I1, R, c, w)
                rw [b_FB_sample_109, ex_some, and_t pt, pr1, ex_some, and_t ⟨Or.inl pt1, by omega, by omega⟩, i29]
                by_cases q8 : anS (fun x => J 27 (30 * (12 * (40 * a + s) + j) + x)) (60 / J (-1) 2) (J 28 (12 * (40 * a + s) + j)) (60 / J (-1) 2 / 2).toNat = J 29 (8 * (12 * (40 * a + s) + j) + J 28 (12 * (40 * a + s) + j))
                · rw [if_pos ⟨q7, q8⟩] at z'
                  rw [if_neg (fun y => y q8), b_FB_sample_125, if_neg (by decide), b_FB_sample_137]
                  exact z'
                · rw [if_neg (fun y => q8 y.2)] at z'
                  rw [if_pos q8, b_FB_sample_124, b_FB_sample_125, if_pos rfl, b_FB_sample_137]
                  exact z'
      · have z := k2 PP q3
        simp (disch := first | omega | assumption | rfl) only [in_FB_sample, b_FB_sample_0, b_FB_sample_5, b_FB_sample_13, b_FB_sample_17, b_FB_sample_32, b_FB_sample_35, b_FB_sample_40, b_FB_sample_53, b_FB_sample_82, b_FB_sample_109, b_FB_sample_124, b_FB_sample_125, b_FB_sample_137, x_houseOf_yes h.g ha, y_segmentOf h ha, y_pieceOf h hs, s_Piece_isPlaced pt, x_rS, x_rS1, i2, i4, i12, Option.toList_some, Option.toList_none, List.cons_append, List.nil_append, ↓if_pos, ↓if_neg, ↓and_t, ↓ck, ↓ex_some, true_and, and_true, not_true_eq_false, not_false_eq_true, if_true, if_false, or_true, true_or, w32_id, reduceCtorEq, ne_eq, wr_4]
        first | exact z | exact z.2
    · have z := k1 (fun y => q2 y.2)
      simp (disch := first | omega | assumption | rfl) only [in_FB_sample, b_FB_sample_0, b_FB_sample_5, b_FB_sample_13, b_FB_sample_17, b_FB_sample_32, b_FB_sample_35, b_FB_sample_40, b_FB_sample_53, b_FB_sample_82, b_FB_sample_109, b_FB_sample_124, b_FB_sample_125, b_FB_sample_137, x_houseOf_yes h.g ha, y_segmentOf h ha, y_pieceOf h hs, x_rS, x_rS1, Option.toList_some, Option.toList_none, List.cons_append, List.nil_append, ↓if_pos, ↓if_neg, ↓and_t, ↓ck, ↓ex_some, true_and, and_true, not_true_eq_false, not_false_eq_true, if_true, if_false, or_true, true_or, w32_id, reduceCtorEq, ne_eq, wr_4]
      first | exact z | exact z.2
  · have z := k1 (fun y => q1 y.1)
    simp (disch := first | omega | assumption | rfl) only [in_FB_sample, b_FB_sample_0, b_FB_sample_5, b_FB_sample_13, b_FB_sample_17, b_FB_sample_32, b_FB_sample_35, b_FB_sample_40, b_FB_sample_53, b_FB_sample_82, b_FB_sample_109, b_FB_sample_124, b_FB_sample_125, b_FB_sample_137, x_houseOf_yes h.g ha, y_segmentOf h ha, Option.toList_some, Option.toList_none, List.cons_append, List.nil_append, ↓if_pos, ↓if_neg, ↓and_t, ↓ck, ↓ex_some, true_and, and_true, not_true_eq_false, not_false_eq_true, if_true, if_false, or_true, true_or, w32_id, reduceCtorEq, ne_eq, wr_4]
    first | exact z | exact z.2
