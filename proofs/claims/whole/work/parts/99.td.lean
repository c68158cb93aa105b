/-! ===== the class counts; snapshots read ===== -/
theorem cn1Q_b {J : Int → Int → Int} {a : Int} : ∀ n : Nat, 0 ≤ cn1 J a n ∧ cn1 J a n ≤ n
  | 0 => ⟨Int.le_refl _, Int.le_refl _⟩
  | n + 1 => by
    have := cn1Q_b (J := J) (a := a) n
    by_cases q : J 21 (40 * a + n) = 0
    · rw [show cn1 J a (n + 1) = cn1 J a n + 1 from if_pos q]; omega
    · rw [show cn1 J a (n + 1) = cn1 J a n from if_neg q]; omega
theorem y_countUnfreed {d : Nat} {K : Kt} {X : Xt} {J : Int → Int → Int} {E : Nm → Int → Int} {ty : Nm → Nat} {ln : Nm → Int} {I : Nm → Int → Int} {R : Nm → Int → Option Nm} {c w : Nat} {a : Int} (h : RC J E ty ln I R) (ha : hsJ J a) :
    Mth (d + 4) M_House_countUnfreed [vR (some [4, a])] (ty, ln, I, R, c, w) K X = K (some (vI (cn1 J a (J 20 a).toNat))) (ty, ln, I, R, c, w) := by
  obtain ⟨t0, ⟨r2, t2, ll2⟩, ⟨r3, t3, ll3⟩, ⟨r4, t4, ll4⟩, ⟨r5, t5, ll5⟩, rw5, ⟨r6, t6, ll6⟩, ⟨r7, t7⟩, ⟨r8, t8⟩, ⟨r9, t9⟩⟩ := h.hs a ha
  obtain ⟨e1, e2, e3, -⟩ := h.sn a ha
  have key : ∀ q i : Nat, i + q = (J 20 a).toNat → Rn (d + 3) M_House_countUnfreed K X 4 [vR (some [4, a]), vI (cn1 J a i), vI (i : Int)] [] (ty, ln, I, R, c, w) = K (some (vI (cn1 J a (J 20 a).toNat))) (ty, ln, I, R, c, w) := by
    intro q
    induction q with
    | zero =>
      intro i hi
      rw [b_House_countUnfreed_4, and_t t0, r8, ex_some, and_t t8, y_size h ha]
      show Rn (d + 3) M_House_countUnfreed K X 12 _ [vI (J 20 a), vI (i : Int)] _ = _
      rw [b_House_countUnfreed_12, if_pos (by omega), show i = (J 20 a).toNat by omega]
    | succ q ih =>
      intro i hi
      have ih' := ih (i + 1) (by omega)
      have bb := cn1Q_b (J := J) (a := a) i
      have hs : sgJ J a i := ⟨ha, by omega, by omega, by omega⟩
      have g0 := (h.sg a i hs).1
      rw [b_House_countUnfreed_4, and_t t0, r8, ex_some, and_t t8, y_size h ha]
      show Rn (d + 3) M_House_countUnfreed K X 12 _ [vI (J 20 a), vI (i : Int)] _ = _
      rw [b_House_countUnfreed_12, if_neg (by omega), and_t t0, r8, ex_some, and_t t8, y_get h hs]
      show Rn (d + 3) M_House_countUnfreed K X 23 _ [vR (some [4, a, 8, (i : Int)])] _ = _
      rw [b_House_countUnfreed_23, ck g0, ex_some, and_t g0, h.ri _ _ _ _ (l21 hs)]
      by_cases c1 : J 21 (40 * a + i) = 0
      · rw [show cn1 J a (i + 1) = cn1 J a i + 1 from if_pos c1] at ih'
        rw [if_neg (fun z => z c1), b_House_countUnfreed_35, w32_id (x := cn1 J a i + 1) (by omega) (by omega), w32_id (by omega) (by omega)]
        exact ih'
      · rw [show cn1 J a (i + 1) = cn1 J a i from if_neg c1] at ih'
        rw [if_pos c1, b_House_countUnfreed_35, w32_id (by omega) (by omega)]
        exact ih'
  rw [in_House_countUnfreed, b_House_countUnfreed_0]
  exact key (J 20 a).toNat 0 (Nat.zero_add _)
theorem cn2Q_b {J : Int → Int → Int} {a : Int} : ∀ n : Nat, 0 ≤ cn2 J a n ∧ cn2 J a n ≤ n
  | 0 => ⟨Int.le_refl _, Int.le_refl _⟩
  | n + 1 => by
    have := cn2Q_b (J := J) (a := a) n
    by_cases q : J 22 (40 * a + n) = 0
    · rw [show cn2 J a (n + 1) = cn2 J a n from if_pos q]; omega
    · rw [show cn2 J a (n + 1) = cn2 J a n + 1 from if_neg q]; omega
theorem y_countHeld {d : Nat} {K : Kt} {X : Xt} {J : Int → Int → Int} {E : Nm → Int → Int} {ty : Nm → Nat} {ln : Nm → Int} {I : Nm → Int → Int} {R : Nm → Int → Option Nm} {c w : Nat} {a : Int} (h : RC J E ty ln I R) (ha : hsJ J a) :
    Mth (d + 4) M_House_countHeld [vR (some [4, a])] (ty, ln, I, R, c, w) K X = K (some (vI (cn2 J a (J 20 a).toNat))) (ty, ln, I, R, c, w) := by
  obtain ⟨t0, ⟨r2, t2, ll2⟩, ⟨r3, t3, ll3⟩, ⟨r4, t4, ll4⟩, ⟨r5, t5, ll5⟩, rw5, ⟨r6, t6, ll6⟩, ⟨r7, t7⟩, ⟨r8, t8⟩, ⟨r9, t9⟩⟩ := h.hs a ha
  obtain ⟨e1, e2, e3, -⟩ := h.sn a ha
  have key : ∀ q i : Nat, i + q = (J 20 a).toNat → Rn (d + 3) M_House_countHeld K X 4 [vR (some [4, a]), vI (cn2 J a i), vI (i : Int)] [] (ty, ln, I, R, c, w) = K (some (vI (cn2 J a (J 20 a).toNat))) (ty, ln, I, R, c, w) := by
    intro q
    induction q with
    | zero =>
      intro i hi
      rw [b_House_countHeld_4, and_t t0, r8, ex_some, and_t t8, y_size h ha]
      show Rn (d + 3) M_House_countHeld K X 12 _ [vI (J 20 a), vI (i : Int)] _ = _
      rw [b_House_countHeld_12, if_pos (by omega), show i = (J 20 a).toNat by omega]
    | succ q ih =>
      intro i hi
      have ih' := ih (i + 1) (by omega)
      have bb := cn2Q_b (J := J) (a := a) i
      have hs : sgJ J a i := ⟨ha, by omega, by omega, by omega⟩
      have g0 := (h.sg a i hs).1
      rw [b_House_countHeld_4, and_t t0, r8, ex_some, and_t t8, y_size h ha]
      show Rn (d + 3) M_House_countHeld K X 12 _ [vI (J 20 a), vI (i : Int)] _ = _
      rw [b_House_countHeld_12, if_neg (by omega), and_t t0, r8, ex_some, and_t t8, y_get h hs]
      show Rn (d + 3) M_House_countHeld K X 23 _ [vR (some [4, a, 8, (i : Int)])] _ = _
      rw [b_House_countHeld_23, ck g0, ex_some, and_t g0, h.ri _ _ _ _ (l22 hs)]
      by_cases c1 : J 22 (40 * a + i) = 0
      · rw [show cn2 J a (i + 1) = cn2 J a i from if_pos c1] at ih'
        rw [if_pos c1, b_House_countHeld_35, w32_id (by omega) (by omega)]
        exact ih'
      · rw [show cn2 J a (i + 1) = cn2 J a i + 1 from if_neg c1] at ih'
        rw [if_neg c1, b_House_countHeld_35, w32_id (x := cn2 J a i + 1) (by omega) (by omega), w32_id (by omega) (by omega)]
        exact ih'
  rw [in_House_countHeld, b_House_countHeld_0]
  exact key (J 20 a).toNat 0 (Nat.zero_add _)
theorem z_count {d : Nat} {K : Kt} {X : Xt} {J : Int → Int → Int} {ty : Nm → Nat} {ln : Nm → Int} {I : Nm → Int → Int} {R : Nm → Int → Option Nm} {c w : Nat} {a x : Int} {L : List Ck} (h : RC J I ty ln I R) (hG : GI J) (hL : HLL J I ty ln R a L) (ha : hsJ J a) (k0 : 0 ≤ x ∧ x ≤ 5 → K (some (vI (cvJ J a x))) (ty, ln, I, R, c, w)) (k1 : ¬ (0 ≤ x ∧ x ≤ 5) → (1 ≤ c ∧ 6 ≤ w) ∧ X 1 (ty, ln, I, R, c - 1, w - 6)) :
    Mth (d + 7) M_FB_count [vR (some [1]), vI a, vI x] (ty, ln, I, R, c, w) K X := by
  obtain ⟨f1, fr0, fr1, fr2, fr3, fr4, fr5, ⟨ft0, fl0⟩, ⟨ft3, fl3⟩, ⟨ft4, fl4⟩, ⟨ft5, fl5⟩, ft16, fr160, fr161, ⟨ft160, fl160⟩, ⟨ft161, fl161⟩⟩ := id h.g.1
  obtain ⟨t0, ⟨r2, t2, ll2⟩, ⟨r3, t3, ll3⟩, ⟨r4, t4, ll4⟩, ⟨r5, t5, ll5⟩, rw5, ⟨r6, t6, ll6⟩, ⟨r7, t7⟩, ⟨r8, t8⟩, ⟨r9, t9⟩⟩ := h.hs a ha
  obtain ⟨e1, e2, e3, -⟩ := h.sn a ha
  have fin : Rn (d + 6) M_FB_count K X 15 [vR (some [1]), vI a, vI x, vR (some [4, a])] [] (ty, ln, I, R, c, w) ∨ ¬ (0 ≤ x ∧ x ≤ 5) := by
    by_cases q : 0 ≤ x ∧ x ≤ 5
    · left
      have z := k0 q
      have hx : x = 0 ∨ x = 1 ∨ x = 2 ∨ x = 3 ∨ x = 4 ∨ x = 5 := by omega
      rw [b_FB_count_15]
      rcases hx with rfl | rfl | rfl | rfl | rfl | rfl
      · unfold cvJ at z
        rw [if_pos rfl] at z
        show _ ∧ Rn (d + 6) M_FB_count K X 52 _ [] _
        refine ⟨by decide, ?_⟩
        rw [b_FB_count_52, ex_some, and_t t0, r8, ex_some, and_t t8, y_size h ha]
        refine (b_FB_count_59).mpr ?_
        exact z
      · unfold cvJ at z
        rw [if_neg (by decide), if_neg (by decide), if_neg (by decide), if_pos rfl] at z
        show _ ∧ Rn (d + 6) M_FB_count K X 60 _ [] _
        refine ⟨by decide, ?_⟩
        rw [b_FB_count_60, ex_some, and_t t0, y_countUnfreed h ha]
        refine (b_FB_count_64).mpr ?_
        exact z
      · unfold cvJ at z
        rw [if_neg (by decide), if_neg (by decide), if_neg (by decide), if_neg (by decide), if_pos rfl] at z
        show _ ∧ Rn (d + 6) M_FB_count K X 65 _ [] _
        refine ⟨by decide, ?_⟩
        rw [b_FB_count_65, ex_some, and_t t0, y_countHeld h ha]
        refine (b_FB_count_69).mpr ?_
        exact z
      · unfold cvJ at z
        rw [if_neg (by decide), if_neg (by decide), if_neg (by decide), if_neg (by decide), if_neg (by decide)] at z
        show _ ∧ Rn (d + 6) M_FB_count K X 70 _ [] _
        refine ⟨by decide, ?_⟩
        rw [b_FB_count_70, ex_some, and_t t0, hL.2.2.2.2.2.2.2.1]
        exact z
      · unfold cvJ at z
        rw [if_neg (by decide), if_pos rfl] at z
        show _ ∧ Rn (d + 6) M_FB_count K X 75 _ [] _
        refine ⟨by decide, ?_⟩
        rw [b_FB_count_75, ex_some, and_t t0, r7, ex_some, and_t t7, s_AL_size2 hL.1]
        refine (b_FB_count_82).mpr ?_
        rw [← nCh_l hL.2.2.2.1 ha.1.1 (hG.1.k20 a).2]
        exact z
      · unfold cvJ at z
        rw [if_neg (by decide), if_neg (by decide), if_pos rfl] at z
        show _ ∧ Rn (d + 6) M_FB_count K X 83 _ [] _
        refine ⟨by decide, ?_⟩
        rw [b_FB_count_83, ex_some, and_t t0, y_countKept h ha]
        refine (b_FB_count_87).mpr ?_
        exact z
    · exact Or.inr q
  by_cases q : 0 ≤ x ∧ x ≤ 5
  · have z := fin.elim id (fun y => absurd q y)
    simp (disch := first | omega | assumption | rfl) only [in_FB_count, b_FB_count_0, b_FB_count_5, b_FB_count_12, x_houseOf_yes h.g ha, s_FB_isWithin, x_rA, x_rA1, Option.toList_some, Option.toList_none, List.cons_append, List.nil_append, ↓if_pos, ↓if_neg, ↓and_t, ↓ck, ↓ex_some, true_and, and_true, not_true_eq_false, not_false_eq_true, if_true, if_false, or_true, true_or, w32_id, reduceCtorEq, ne_eq, wr_4]
    exact z
  · have z := k1 q
    simp (disch := first | omega | assumption | rfl) only [in_FB_count, b_FB_count_0, b_FB_count_5, b_FB_count_12, x_houseOf_yes h.g ha, s_FB_isWithin, x_rA, x_rA1, Option.toList_some, Option.toList_none, List.cons_append, List.nil_append, ↓if_pos, ↓if_neg, ↓and_t, ↓ck, ↓ex_some, true_and, and_true, not_true_eq_false, not_false_eq_true, if_true, if_false, or_true, true_or, w32_id, reduceCtorEq, ne_eq, wr_4]
    first | exact z | exact z.2
theorem y_snapshotOf {d : Nat} {K : Kt} {X : Xt} {J : Int → Int → Int} {ty : Nm → Nat} {ln : Nm → Int} {I : Nm → Int → Int} {R : Nm → Int → Option Nm} {c w : Nat} {a n : Int} {L : List Ck} {m : Nm} (h : RC J I ty ln I R) (hL : HLL J I ty ln R a L) (ha : hsJ J a) (hm : 0 ≤ slotJ J a n → R (la R a 9) n = some m) (k0 : 0 ≤ slotJ J a n → SNN J I ty ln R a L n m → K (some (vR (some m))) (ty, ln, I, R, c, w)) (k1 : ¬ 0 ≤ slotJ J a n → (1 ≤ c ∧ 6 ≤ w) ∧ X 1 (ty, ln, I, R, c - 1, w - 6)) :
    Mth (d + 7) M_FB_snapshotOf [vR (some [4, a]), vI n] (ty, ln, I, R, c, w) K X := by
  obtain ⟨t0, ⟨r2, t2, ll2⟩, ⟨r3, t3, ll3⟩, ⟨r4, t4, ll4⟩, ⟨r5, t5, ll5⟩, rw5, ⟨r6, t6, ll6⟩, ⟨r7, t7⟩, ⟨r8, t8⟩, ⟨r9, t9⟩⟩ := h.hs a ha
  obtain ⟨h1, h2, h3, h4, h5, h6, h7, h8, h9, h10, h11, h12, h15⟩ := id hL
  obtain ⟨n1, n2, n3⟩ := h10
  have l15 := h5.2.2.2.1
  have sl : 0 ≤ slotJ J a n → 0 ≤ n ∧ n < J 15 a := fun z => by
    obtain ⟨y, k, hk, ek, e16⟩ := slot_k ha.1.1 z
    refine ⟨y, ?_⟩
    have := n1 k hk
    omega
  rw [in_FB_snapshotOf, b_FB_snapshotOf_0, ex_some, and_t t0, r9, ex_some, and_t t9, s_AL_size2 h5]
  show Rn (d + 6) M_FB_snapshotOf K X 9 _ [vI (J 15 a), vI 0, vI n] _
  rw [b_FB_snapshotOf_9, w32_id (by omega) (by omega), s_FB_isWithin]
  show Rn (d + 6) M_FB_snapshotOf K X 14 _ [vI _] _
  rw [b_FB_snapshotOf_14]
  by_cases q : 0 ≤ n ∧ n < J 15 a
  · obtain ⟨m', e1, e2⟩ := h6 n q.1 q.2
    rw [if_pos (by omega), x_rA1 (by decide)]
    show Rn (d + 6) M_FB_snapshotOf K X 17 _ [] _
    rw [b_FB_snapshotOf_17, ex_some, and_t t0, r9, ex_some, and_t t9, s_AL_get2 h5 q, e1]
    show Rn (d + 6) M_FB_snapshotOf K X 25 _ [vR (some m')] _
    rw [b_FB_snapshotOf_25, ck e2.2.1, ex_some, and_t e2.2.1, e2.2.2.1]
    by_cases q2 : 0 ≤ slotJ J a n
    · obtain rfl : m' = m := by have := (e1.symm.trans (hm q2)); cases this; rfl
      rw [if_pos q2, if_neg (fun z => z rfl), b_FB_snapshotOf_41, x_rA1 (by decide)]
      show Rn (d + 6) M_FB_snapshotOf K X 44 _ [] _
      rw [b_FB_snapshotOf_44]
      exact k0 q2 e2
    · rw [if_neg q2, if_pos (by decide), b_FB_snapshotOf_41, x_rA rfl]
      exact k1 q2
  · rw [if_neg (by omega), x_rA rfl]
    exact k1 (fun z => q (sl z))
