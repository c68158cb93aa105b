/-! ===== the class on the relation: push, audit whole ===== -/
theorem puA_v {J : Int → Int → Int} {a : Int} (hG : GI J) (hV : VI J) (ha : 0 ≤ a ∧ a ≤ 9) : ∀ n : Nat, (n : Int) ≤ J 20 a → n ≤ 40 → GI (puA J a n).2 ∧ VI (puA J a n).2 ∧ ∀ k x, k ≠ 31 → k ≠ 27 → k ≠ 29 → k ≠ 28 → k ≠ 25 → k ≠ 26 → k ≠ 10 → k ≠ 8 → (puA J a n).2 k x = J k x
  | 0, _, _ => ⟨hG, hV, fun _ _ _ _ _ _ _ _ _ _ => rfl⟩
  | n + 1, h1, h2 => by
    obtain ⟨g, v, e⟩ := puA_v hG hV ha n (by omega) (by omega)
    have sc := hG.2.1
    unfold SC at sc
    by_cases q : (puA J a n).2 22 (40 * a + n) = 0
    · rw [show puA J a (n + 1) = puA J a n from if_pos q]
      exact ⟨g, v, e⟩
    · rw [show puA J a (n + 1) = ((puA J a n).1 + (plA (puA J a n).2 a (40 * a + n) (J (-1) 3).toNat).1, (plA (puA J a n).2 a (40 * a + n) (J (-1) 3).toNat).2) from if_neg q]
      have e3 := e (-1) 3 (by decide) (by decide) (by decide) (by decide) (by decide) (by decide) (by decide) (by decide)
      have e20 := e 20 a (by decide) (by decide) (by decide) (by decide) (by decide) (by decide) (by decide) (by decide)
      exact ⟨plA_g g ha (by omega) _ (by omega), v.plB ha (by omega) _ (by omega) (by omega), fun k x k1 k2 k3 k4 k5 k6 k7 k8 => (plA_o ⟨k1, k2, k3, k4, k5, k6, k7, k8⟩ _).trans (e k x k1 k2 k3 k4 k5 k6 k7 k8)⟩
theorem auB_v {J : Int → Int → Int} {a : Int} (hV : VI J) : ∀ n : Nat, VI (auB J a n).2
  | 0 => hV
  | n + 1 => by
    by_cases q : J 22 (40 * a + n) = 0
    · rw [show auB J a (n + 1) = auB J a n from if_pos q]; exact auB_v hV n
    · rw [show auB J a (n + 1) = ((auB J a n).1 + (auA (auB J a n).2 a (40 * a + n) (J (-1) 3).toNat).1, (auA (auB J a n).2 a (40 * a + n) (J (-1) 3).toNat).2) from if_neg q]
      exact (auB_v hV n).auS _
set_option maxHeartbeats 1000000 in
theorem z_push {d : Nat} {K : Kt} {X : Xt} {J : Int → Int → Int} {E : Nm → Int → Int} {ty : Nm → Nat} {ln : Nm → Int} {I : Nm → Int → Int} {R : Nm → Int → Option Nm} {c w : Nat} {a : Int} (h : RC J E ty ln I R) (hG : GI J) (hV : VI J) (ha : hsJ J a) (k0 : J 7 a = 0 ∧ J 6 a ≠ 0 → ∀ I', RC (puA J a (J 20 a).toNat).2 E ty ln I' R → K (some (vI (puA J a (J 20 a).toNat).1)) (ty, ln, I', R, c, w)) (k2 : ¬ (J 7 a = 0 ∧ J 6 a ≠ 0) → (1 ≤ c ∧ 6 ≤ w) ∧ X 2 (ty, ln, I, R, c - 1, w - 6)) :
    Mth (d + 7) M_FB_push [vR (some [1]), vI a] (ty, ln, I, R, c, w) K X := by
  obtain ⟨f1, fr0, fr1, fr2, fr3, fr4, fr5, ⟨ft0, fl0⟩, ⟨ft3, fl3⟩, ⟨ft4, fl4⟩, ⟨ft5, fl5⟩, ft16, fr160, fr161, ⟨ft160, fl160⟩, ⟨ft161, fl161⟩⟩ := id h.g.1
  obtain ⟨t0, ⟨r2, t2, ll2⟩, ⟨r3, t3, ll3⟩, ⟨r4, t4, ll4⟩, ⟨r5, t5, ll5⟩, rw5, ⟨r6, t6, ll6⟩, ⟨r7, t7⟩, ⟨r8, t8⟩, ⟨r9, t9⟩⟩ := h.hs a ha
  obtain ⟨e1, e2, e3, -⟩ := h.sn a ha
  have sc := h.g.2.2.2.2.2.2.2
  have i11 := h.ri _ _ _ _ (l6 ha)
  have i12 := h.ri _ _ _ _ (l7 ha)
  by_cases q1 : J 7 a = 0 ∧ J 6 a ≠ 0
  · have start : Mth (d + 7) M_FB_push [vR (some [1]), vI a] (ty, ln, I, R, c, w) K X = Rn (d + 6) M_FB_push K X 33 [vR (some [1]), vI a, vR (some [4, a]), vI 0, vI 0, vJ] [] (ty, ln, I, R, c, w) := by
      obtain ⟨q2, q3⟩ : J 7 a = 0 ∧ J 7 a = 0 ∧ J 6 a ≠ 0 := ⟨by omega, q1⟩
      simp (disch := first | omega | assumption | rfl) only [in_FB_push, b_FB_push_0, b_FB_push_5, b_FB_push_24, b_FB_push_25, b_FB_push_28, x_houseOf_yes h.g ha, x_rS, x_rS1, i11, i12, Option.toList_some, Option.toList_none, List.cons_append, List.nil_append, ↓if_pos, ↓if_neg, ↓and_t, ↓ck, ↓ex_some, true_and, and_true, not_true_eq_false, not_false_eq_true, if_true, if_false, or_true, true_or, w32_id, reduceCtorEq, ne_eq, wr_4]
    rw [start]
    have key : ∀ q i : Nat, i + q = (J 20 a).toNat → ∀ I, RC (puA J a i).2 E ty ln I R → ∀ u5 : Vl, isLg u5 = false → Rn (d + 6) M_FB_push K X 33 [vR (some [1]), vI a, vR (some [4, a]), vI (puA J a i).1, vI (i : Int), u5] [] (ty, ln, I, R, c, w) := by
      intro q
      induction q with
      | zero =>
        intro i hi I h u5 v5
        obtain ⟨hGi, hVi, oo⟩ := puA_v hG hV ha.1 i (by omega) (by omega)
        have o20 : (puA J a i).2 20 a = J 20 a := oo 20 a (by decide) (by decide) (by decide) (by decide) (by decide) (by decide) (by decide) (by decide)
        have o5 : (puA J a i).2 5 a = J 5 a := oo 5 a (by decide) (by decide) (by decide) (by decide) (by decide) (by decide) (by decide) (by decide)
        have o3 : (puA J a i).2 (-1) 3 = J (-1) 3 := oo (-1) 3 (by decide) (by decide) (by decide) (by decide) (by decide) (by decide) (by decide) (by decide)
        obtain ⟨-, -, b1, b2⟩ := puA_i (a := a) hG.1 hG.2.1 i
        obtain ⟨-, -, d1, d2⟩ := plA_i (a := a) (s := 40 * a + i) hGi.1 hGi.2.1 (J (-1) 3).toNat
        rw [b_FB_push_33 v5, ex_some, and_t t0, r8, ex_some, and_t t8, y_size h (hsJ_c ha o5), o20]
        show Rn (d + 6) M_FB_push K X 42 [vR (some [1]), vI a, vR (some [4, a]), vI (puA J a i).1, vI (i : Int), u5] [vI (J 20 a), vI (i : Int)] (ty, ln, I, R, c, w)
        rw [b_FB_push_42 v5, if_pos (by omega), show i = (J 20 a).toNat by omega]
        exact k0 q1 I (by rw [← show i = (J 20 a).toNat by omega]; exact h)
      | succ q ih =>
        intro i hi I h u5 v5
        have ih' := ih (i + 1) (by omega)
        obtain ⟨hGi, hVi, oo⟩ := puA_v hG hV ha.1 i (by omega) (by omega)
        have o20 : (puA J a i).2 20 a = J 20 a := oo 20 a (by decide) (by decide) (by decide) (by decide) (by decide) (by decide) (by decide) (by decide)
        have o5 : (puA J a i).2 5 a = J 5 a := oo 5 a (by decide) (by decide) (by decide) (by decide) (by decide) (by decide) (by decide) (by decide)
        have o3 : (puA J a i).2 (-1) 3 = J (-1) 3 := oo (-1) 3 (by decide) (by decide) (by decide) (by decide) (by decide) (by decide) (by decide) (by decide)
        obtain ⟨-, -, b1, b2⟩ := puA_i (a := a) hG.1 hG.2.1 i
        obtain ⟨-, -, d1, d2⟩ := plA_i (a := a) (s := 40 * a + i) hGi.1 hGi.2.1 (J (-1) 3).toNat
        have hs : sgJ (puA J a i).2 a i := sgJ_c (J := J) ⟨ha, by omega, by omega, by omega⟩ o5 o20
        have g0 := (h.sg a i hs).1
        rw [b_FB_push_33 v5, ex_some, and_t t0, r8, ex_some, and_t t8, y_size h (hsJ_c ha o5), o20]
        show Rn (d + 6) M_FB_push K X 42 [vR (some [1]), vI a, vR (some [4, a]), vI (puA J a i).1, vI (i : Int), u5] [vI (J 20 a), vI (i : Int)] (ty, ln, I, R, c, w)
        rw [b_FB_push_42 v5, if_neg (by omega), ex_some, and_t t0, r8, ex_some, and_t t8, y_get h hs]
        show Rn (d + 6) M_FB_push K X 54 [vR (some [1]), vI a, vR (some [4, a]), vI (puA J a i).1, vI (i : Int), u5] [vR (some [4, a, 8, (i : Int)])] (ty, ln, I, R, c, w)
        rw [b_FB_push_54 v5, ck g0, ex_some, and_t g0, h.ri _ _ _ _ (l22 hs)]
        by_cases c1 : (puA J a i).2 22 (40 * a + i) = 0
        · rw [show puA J a (i + 1) = puA J a i from if_pos c1] at ih'
          rw [if_pos c1, b_FB_push_77, w32_id (by omega) (by omega)]
          exact ih' I h _ rfl
        · rw [show puA J a (i + 1) = ((puA J a i).1 + (plA (puA J a i).2 a (40 * a + i) (J (-1) 3).toNat).1, (plA (puA J a i).2 a (40 * a + i) (J (-1) 3).toNat).2) from if_neg c1] at ih'
          rw [if_neg c1, and_t f1]
          refine y_placeMissing h hGi hVi hs ?_
          rw [o3]
          intro I' h'
          have z := ih' I' h' (vR (some [4, a, 8, (i : Int)])) rfl
          show Rn (d + 6) M_FB_push K X 75 [vR (some [1]), vI a, vR (some [4, a]), vI (puA J a i).1, vI (i : Int), vR (some [4, a, 8, (i : Int)])] [vI (plA (puA J a i).2 a (40 * a + i) (J (-1) 3).toNat).1, vI (puA J a i).1] (ty, ln, I', R, c, w)
          rw [b_FB_push_75, b_FB_push_77, w32_id (x := (puA J a i).1 + (plA (puA J a i).2 a (40 * a + i) (J (-1) 3).toNat).1) (by omega) (by omega), w32_id (by omega) (by omega)]
          exact z
    exact key (J 20 a).toNat 0 (by omega) I h vJ rfl
  · have z := k2 q1
    by_cases q2 : J 7 a = 0
    · have q3 : J 6 a = 0 := by omega
      simp (disch := first | omega | assumption | rfl) only [in_FB_push, b_FB_push_0, b_FB_push_5, b_FB_push_24, b_FB_push_25, b_FB_push_28, x_houseOf_yes h.g ha, x_rS, x_rS1, i11, i12, Option.toList_some, Option.toList_none, List.cons_append, List.nil_append, ↓if_pos, ↓if_neg, ↓and_t, ↓ck, ↓ex_some, true_and, and_true, not_true_eq_false, not_false_eq_true, if_true, if_false, or_true, true_or, w32_id, reduceCtorEq, ne_eq, wr_4]
      first | exact z | exact z.2
    · simp (disch := first | omega | assumption | rfl) only [in_FB_push, b_FB_push_0, b_FB_push_5, b_FB_push_24, b_FB_push_25, b_FB_push_28, x_houseOf_yes h.g ha, x_rS, x_rS1, i11, i12, Option.toList_some, Option.toList_none, List.cons_append, List.nil_append, ↓if_pos, ↓if_neg, ↓and_t, ↓ck, ↓ex_some, true_and, and_true, not_true_eq_false, not_false_eq_true, if_true, if_false, or_true, true_or, w32_id, reduceCtorEq, ne_eq, wr_4]
      first | exact z | exact z.2
set_option maxHeartbeats 1000000 in
theorem z_audit {d : Nat} {K : Kt} {X : Xt} {J : Int → Int → Int} {E : Nm → Int → Int} {ty : Nm → Nat} {ln : Nm → Int} {I : Nm → Int → Int} {R : Nm → Int → Option Nm} {c w : Nat} {a : Int} (h : RC J E ty ln I R) (hG : GI J) (hV : VI J) (ha : hsJ J a) (k0 : J 7 a = 0 → ∀ I', RC (auB J a (J 20 a).toNat).2 E ty ln I' R → K (some (vI (auB J a (J 20 a).toNat).1)) (ty, ln, I', R, c, w)) (k2 : ¬ (J 7 a = 0) → (1 ≤ c ∧ 6 ≤ w) ∧ X 2 (ty, ln, I, R, c - 1, w - 6)) :
    Mth (d + 7) M_FB_audit [vR (some [1]), vI a] (ty, ln, I, R, c, w) K X := by
  obtain ⟨f1, fr0, fr1, fr2, fr3, fr4, fr5, ⟨ft0, fl0⟩, ⟨ft3, fl3⟩, ⟨ft4, fl4⟩, ⟨ft5, fl5⟩, ft16, fr160, fr161, ⟨ft160, fl160⟩, ⟨ft161, fl161⟩⟩ := id h.g.1
  obtain ⟨t0, ⟨r2, t2, ll2⟩, ⟨r3, t3, ll3⟩, ⟨r4, t4, ll4⟩, ⟨r5, t5, ll5⟩, rw5, ⟨r6, t6, ll6⟩, ⟨r7, t7⟩, ⟨r8, t8⟩, ⟨r9, t9⟩⟩ := h.hs a ha
  obtain ⟨e1, e2, e3, -⟩ := h.sn a ha
  have sc := h.g.2.2.2.2.2.2.2
  have i11 := h.ri _ _ _ _ (l6 ha)
  have i12 := h.ri _ _ _ _ (l7 ha)
  by_cases q1 : J 7 a = 0
  · have start : Mth (d + 7) M_FB_audit [vR (some [1]), vI a] (ty, ln, I, R, c, w) K X = Rn (d + 6) M_FB_audit K X 26 [vR (some [1]), vI a, vR (some [4, a]), vI 0, vI 0, vJ] [] (ty, ln, I, R, c, w) := by
      obtain ⟨q2, q3⟩ : J 7 a = 0 ∧ J 7 a = 0 := ⟨by omega, q1⟩
      simp (disch := first | omega | assumption | rfl) only [in_FB_audit, b_FB_audit_0, b_FB_audit_5, b_FB_audit_18, b_FB_audit_21, x_houseOf_yes h.g ha, x_rS, x_rS1, i11, i12, Option.toList_some, Option.toList_none, List.cons_append, List.nil_append, ↓if_pos, ↓if_neg, ↓and_t, ↓ck, ↓ex_some, true_and, and_true, not_true_eq_false, not_false_eq_true, if_true, if_false, or_true, true_or, w32_id, reduceCtorEq, ne_eq, wr_4]
    rw [start]
    have key : ∀ q i : Nat, i + q = (J 20 a).toNat → ∀ I, RC (auB J a i).2 E ty ln I R → ∀ u5 : Vl, isLg u5 = false → Rn (d + 6) M_FB_audit K X 26 [vR (some [1]), vI a, vR (some [4, a]), vI (auB J a i).1, vI (i : Int), u5] [] (ty, ln, I, R, c, w) := by
      intro q
      induction q with
      | zero =>
        intro i hi I h u5 v5
        obtain ⟨hGi, i2, oo, b1, b2⟩ := auB_i hG ha.1 i (by omega)
        have hVi := auB_v (a := a) hV i
        have o20 : (auB J a i).2 20 a = J 20 a := oo 20 a (by decide) (by decide) (by decide) (by decide)
        have o5 : (auB J a i).2 5 a = J 5 a := oo 5 a (by decide) (by decide) (by decide) (by decide)
        have o22 : (auB J a i).2 22 (40 * a + i) = J 22 (40 * a + i) := oo 22 _ (by decide) (by decide) (by decide) (by decide)
        have o3 : (auB J a i).2 (-1) 3 = J (-1) 3 := oo (-1) 3 (by decide) (by decide) (by decide) (by decide)
        have d12 : i < 40 → 0 ≤ (auA (auB J a i).2 a (40 * a + i) (J (-1) 3).toNat).1 ∧ (auA (auB J a i).2 a (40 * a + i) (J (-1) 3).toNat).1 ≤ (J (-1) 3).toNat := fun z => (auA_i (s := 40 * a + i) hGi ha.1 (by omega) _ (by omega)).2.2.2
        rw [b_FB_audit_26 v5, ex_some, and_t t0, r8, ex_some, and_t t8, y_size h (hsJ_c ha o5), o20]
        show Rn (d + 6) M_FB_audit K X 35 [vR (some [1]), vI a, vR (some [4, a]), vI (auB J a i).1, vI (i : Int), u5] [vI (J 20 a), vI (i : Int)] (ty, ln, I, R, c, w)
        rw [b_FB_audit_35 v5, if_pos (by omega), show i = (J 20 a).toNat by omega]
        exact k0 q1 I (by rw [← show i = (J 20 a).toNat by omega]; exact h)
      | succ q ih =>
        intro i hi I h u5 v5
        have ih' := ih (i + 1) (by omega)
        obtain ⟨hGi, i2, oo, b1, b2⟩ := auB_i hG ha.1 i (by omega)
        have hVi := auB_v (a := a) hV i
        have o20 : (auB J a i).2 20 a = J 20 a := oo 20 a (by decide) (by decide) (by decide) (by decide)
        have o5 : (auB J a i).2 5 a = J 5 a := oo 5 a (by decide) (by decide) (by decide) (by decide)
        have o22 : (auB J a i).2 22 (40 * a + i) = J 22 (40 * a + i) := oo 22 _ (by decide) (by decide) (by decide) (by decide)
        have o3 : (auB J a i).2 (-1) 3 = J (-1) 3 := oo (-1) 3 (by decide) (by decide) (by decide) (by decide)
        have d12 : i < 40 → 0 ≤ (auA (auB J a i).2 a (40 * a + i) (J (-1) 3).toNat).1 ∧ (auA (auB J a i).2 a (40 * a + i) (J (-1) 3).toNat).1 ≤ (J (-1) 3).toNat := fun z => (auA_i (s := 40 * a + i) hGi ha.1 (by omega) _ (by omega)).2.2.2
        have hs : sgJ (auB J a i).2 a i := sgJ_c (J := J) ⟨ha, by omega, by omega, by omega⟩ o5 o20
        have g0 := (h.sg a i hs).1
        rw [b_FB_audit_26 v5, ex_some, and_t t0, r8, ex_some, and_t t8, y_size h (hsJ_c ha o5), o20]
        show Rn (d + 6) M_FB_audit K X 35 [vR (some [1]), vI a, vR (some [4, a]), vI (auB J a i).1, vI (i : Int), u5] [vI (J 20 a), vI (i : Int)] (ty, ln, I, R, c, w)
        rw [b_FB_audit_35 v5, if_neg (by omega), ex_some, and_t t0, r8, ex_some, and_t t8, y_get h hs]
        show Rn (d + 6) M_FB_audit K X 47 [vR (some [1]), vI a, vR (some [4, a]), vI (auB J a i).1, vI (i : Int), u5] [vR (some [4, a, 8, (i : Int)])] (ty, ln, I, R, c, w)
        rw [b_FB_audit_47 v5, ck g0, ex_some, and_t g0, h.ri _ _ _ _ (l22 hs), o22]
        by_cases c1 : J 22 (40 * a + i) = 0
        · rw [show auB J a (i + 1) = auB J a i from if_pos c1] at ih'
          rw [if_pos c1, b_FB_audit_70, w32_id (by omega) (by omega)]
          exact ih' I h _ rfl
        · rw [show auB J a (i + 1) = ((auB J a i).1 + (auA (auB J a i).2 a (40 * a + i) (J (-1) 3).toNat).1, (auA (auB J a i).2 a (40 * a + i) (J (-1) 3).toNat).2) from if_neg c1] at ih'
          rw [if_neg c1, and_t f1]
          refine y_auditSegment h hGi hVi hs ?_
          rw [o3]
          intro I' h'
          have z := ih' I' h' (vR (some [4, a, 8, (i : Int)])) rfl
          show Rn (d + 6) M_FB_audit K X 68 [vR (some [1]), vI a, vR (some [4, a]), vI (auB J a i).1, vI (i : Int), vR (some [4, a, 8, (i : Int)])] [vI (auA (auB J a i).2 a (40 * a + i) (J (-1) 3).toNat).1, vI (auB J a i).1] (ty, ln, I', R, c, w)
          rw [b_FB_audit_68, b_FB_audit_70, w32_id (x := (auB J a i).1 + (auA (auB J a i).2 a (40 * a + i) (J (-1) 3).toNat).1) (by omega) (by omega), w32_id (by omega) (by omega)]
          exact z
    exact key (J 20 a).toNat 0 (by omega) I h vJ rfl
  · have z := k2 q1
    simp (disch := first | omega | assumption | rfl) only [in_FB_audit, b_FB_audit_0, b_FB_audit_5, b_FB_audit_18, b_FB_audit_21, x_houseOf_yes h.g ha, x_rS, x_rS1, i11, i12, Option.toList_some, Option.toList_none, List.cons_append, List.nil_append, ↓if_pos, ↓if_neg, ↓and_t, ↓ck, ↓ex_some, true_and, and_true, not_true_eq_false, not_false_eq_true, if_true, if_false, or_true, true_or, w32_id, reduceCtorEq, ne_eq, wr_4]
    first | exact z | exact z.2
