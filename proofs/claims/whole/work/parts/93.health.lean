/-! ===== the class on the relation: health, recover, harm ===== -/
theorem cntR_p {J : Int → Int → Int} {s : Int} : ∀ n : Nat, 0 < cntR J s n ↔ ∃ j : Nat, j < n ∧ isR J (12 * s + j)
  | 0 => ⟨fun h => absurd h (by show ¬ (0 : Int) < 0; decide), fun ⟨j, h, _⟩ => absurd h (by omega)⟩
  | n + 1 => by
    have ih := cntR_p (J := J) (s := s) n
    have r := cntR_r (J := J) (s := s) n
    by_cases c : isR J (12 * s + n)
    · rw [show cntR J s (n + 1) = cntR J s n + 1 from if_pos c]
      exact ⟨fun _ => ⟨n, by omega, c⟩, fun _ => by omega⟩
    · rw [show cntR J s (n + 1) = cntR J s n from if_neg c, ih]
      refine ⟨fun ⟨j, h1, h2⟩ => ⟨j, by omega, h2⟩, fun ⟨j, h1, h2⟩ => ⟨j, ?_, h2⟩⟩
      by_cases e : j = n
      · rw [e] at h2; exact absurd h2 c
      · omega
theorem hrJ_p {J : Int → Int → Int} {a : Int} : ∀ n : Nat, hrJ J a n ≠ 0 ↔ ∃ s : Nat, s < n ∧ 0 < cntR J (40 * a + s) (J (-1) 3).toNat
  | 0 => ⟨fun h => absurd rfl h, fun ⟨j, h, _⟩ => absurd h (by omega)⟩
  | n + 1 => by
    have ih := hrJ_p (J := J) (a := a) n
    by_cases c : hrJ J a n ≠ 0 ∨ 0 < cntR J (40 * a + n) (J (-1) 3).toNat
    · rw [show hrJ J a (n + 1) = 1 from if_pos c]
      refine ⟨fun _ => ?_, fun _ => by decide⟩
      rcases c with c | c
      · obtain ⟨s, h1, h2⟩ := ih.mp c; exact ⟨s, by omega, h2⟩
      · exact ⟨n, by omega, c⟩
    · rw [show hrJ J a (n + 1) = 0 from if_neg c]
      refine ⟨fun z => absurd rfl z, fun ⟨s, h1, h2⟩ => ?_⟩
      exfalso
      by_cases e : s = n
      · rw [e] at h2; exact c (Or.inr h2)
      · exact c (Or.inl (ih.mpr ⟨s, by omega, h2⟩))
theorem anyR_p {J : Int → Int → Int} {a : Int} : ∀ n : Nat, anyR J a n ≠ 0 ↔ J 8 a = 0 ∨ ∃ i : Nat, i < n ∧ isR J (480 * a + i)
  | 0 => by
    show (if J 8 a = 0 then (1 : Int) else 0) ≠ 0 ↔ _
    by_cases c : J 8 a = 0
    · rw [if_pos c]; exact ⟨fun _ => Or.inl c, fun _ => by decide⟩
    · rw [if_neg c]; exact ⟨fun z => absurd rfl z, fun z => z.elim (fun y => absurd y c) (fun ⟨i, h, _⟩ => absurd h (by omega))⟩
  | n + 1 => by
    have ih := anyR_p (J := J) (a := a) n
    by_cases c : anyR J a n ≠ 0 ∨ isR J (480 * a + n)
    · rw [show anyR J a (n + 1) = 1 from if_pos c]
      refine ⟨fun _ => ?_, fun _ => by decide⟩
      rcases c with c | c
      · rcases ih.mp c with z | ⟨i, h1, h2⟩
        · exact Or.inl z
        · exact Or.inr ⟨i, by omega, h2⟩
      · exact Or.inr ⟨n, by omega, c⟩
    · rw [show anyR J a (n + 1) = 0 from if_neg c]
      refine ⟨fun z => absurd rfl z, fun z => ?_⟩
      exfalso
      rcases z with z | ⟨i, h1, h2⟩
      · exact c (Or.inl (ih.mpr (Or.inl z)))
      · by_cases e : i = n
        · rw [e] at h2; exact c (Or.inr h2)
        · exact c (Or.inl (ih.mpr (Or.inr ⟨i, by omega, h2⟩)))
theorem any_has {J : Int → Int → Int} {a : Int} (hV : VI J) (hS : 0 ≤ J (-1) 3 ∧ J (-1) 3 ≤ 12) (h20 : 0 ≤ J 20 a ∧ J 20 a ≤ 40) (ha : 0 ≤ a ∧ a ≤ 9) : anyR J a 480 ≠ 0 ↔ J 8 a = 0 ∨ hrJ J a (J 20 a).toNat ≠ 0 := by
  rw [anyR_p, hrJ_p]
  refine or_congr Iff.rfl ⟨fun ⟨i, h1, h2⟩ => ?_, fun ⟨s, h1, h2⟩ => ?_⟩
  · have e : (480 * a + (i : Int)) = 12 * (40 * a + ((i / 12 : Nat) : Int)) + ((i % 12 : Nat) : Int) := by omega
    rw [e] at h2
    have z : ¬ (J 20 a ≤ ((i / 12 : Nat) : Int) ∨ J (-1) 3 ≤ ((i % 12 : Nat) : Int)) := fun z => by
      have := hV.oi a ((i / 12 : Nat) : Int) ((i % 12 : Nat) : Int) ha.1 ha.2 (by omega) (by omega) (by omega) (by omega) z
      have := h2.1
      omega
    exact ⟨i / 12, by omega, (cntR_p _).mpr ⟨i % 12, by omega, h2⟩⟩
  · obtain ⟨j, h3, h4⟩ := (cntR_p _).mp h2
    refine ⟨12 * s + j, by omega, ?_⟩
    rw [show (480 * a + ((12 * s + j : Nat) : Int)) = 12 * (40 * a + (s : Int)) + (j : Int) by omega]
    exact h4
theorem z_recover {d : Nat} {K : Kt} {X : Xt} {J : Int → Int → Int} {E : Nm → Int → Int} {ty : Nm → Nat} {ln : Nm → Int} {I : Nm → Int → Int} {R : Nm → Int → Option Nm} {c w : Nat} {a : Int} (h : RC J E ty ln I R) (hG : GI J) (hV : VI J) (ha : hsJ J a) (k0 : ∀ I', RC (uJ J 7 a (rcB J a)) E ty ln I' R → K (some (vI (if rcB J a = 0 then 1 else 0))) (ty, ln, I', R, c, w)) :
    Mth (d + 6) M_FB_recover [vR (some [1]), vI a] (ty, ln, I, R, c, w) K X := by
  obtain ⟨f1, fr0, fr1, fr2, fr3, fr4, fr5, ⟨ft0, fl0⟩, ⟨ft3, fl3⟩, ⟨ft4, fl4⟩, ⟨ft5, fl5⟩, ft16, fr160, fr161, ⟨ft160, fl160⟩, ⟨ft161, fl161⟩⟩ := id h.g.1
  obtain ⟨t0, ⟨r2, t2, ll2⟩, ⟨r3, t3, ll3⟩, ⟨r4, t4, ll4⟩, ⟨r5, t5, ll5⟩, rw5, ⟨r6, t6, ll6⟩, ⟨r7, t7⟩, ⟨r8, t8⟩, ⟨r9, t9⟩⟩ := h.hs a ha
  obtain ⟨e1, e2, e3, -⟩ := h.sn a ha
  have sc := h.g.2.2.2.2.2.2.2
  have i12 := h.ri _ _ _ _ (l7 ha)
  have i13 := h.ri _ _ _ _ (l8 ha)
  have b7 := hG.1.k7 a
  have ah := any_has hV ⟨by omega, sc.2.1.2⟩ ⟨e2, e3⟩ ha.1
  rw [in_FB_recover, b_FB_recover_0, and_t f1, x_houseOf_yes h.g ha]
  show Rn (d + 5) M_FB_recover K X 5 [vR (some [1]), vI a, vJ] [vR (some [4, a])] (ty, ln, I, R, c, w)
  rw [b_FB_recover_5, ex_some, and_t t0, i12]
  have same : J 7 a = rcB J a → Rn (d + 5) M_FB_recover K X 33 [vR (some [1]), vI a, vR (some [4, a])] [] (ty, ln, I, R, c, w) := by
    intro e
    have z := k0 I (by rw [uJ_same e.symm]; exact h)
    rw [b_FB_recover_33, ex_some, and_t t0, i12, e]
    by_cases q : rcB J a = 0
    · rw [if_pos q] at z
      rw [if_neg (fun y => y q), b_FB_recover_45, and_t (Or.inr rfl)]
      exact z
    · rw [if_neg q] at z
      rw [if_pos q, b_FB_recover_45, and_t (Or.inl rfl)]
      exact z
  have put : rcB J a = 0 → Rn (d + 5) M_FB_recover K X 28 [vR (some [1]), vI a, vR (some [4, a])] [] (ty, ln, I, R, c, w) := by
    intro e
    rw [b_FB_recover_28, ex_some, and_t ⟨Or.inl rfl, t0, rfl⟩]
    have h' := h.up (v := 0) (l7 ha) (by decide)
    rw [← e] at h'
    have z := k0 _ h'
    rw [e] at z h'
    rw [if_pos rfl] at z
    rw [b_FB_recover_33, ex_some, and_t t0, up2_self, upI_self, if_neg (fun y => y rfl), b_FB_recover_45, and_t (Or.inr rfl)]
    exact z
  by_cases q1 : J 7 a = 0
  · rw [if_pos q1]
    refine same ?_
    unfold rcB
    rw [if_neg (fun y => y.1 q1), q1]
  · rw [if_neg q1, ex_some, and_t t0, i13]
    by_cases q2 : J 8 a = 0
    · rw [if_pos q2]
      refine put ?_
      unfold rcB
      rw [if_neg (fun y => (ah.mpr (Or.inl q2)) y.2)]
    · rw [if_neg q2, and_t f1, y_hasReachable h ha (hV.pb hG.1)]
      show Rn (d + 5) M_FB_recover K X 25 [vR (some [1]), vI a, vR (some [4, a])] [vI (if hrJ J a (J 20 a).toNat = 0 then 0 else 1)] (ty, ln, I, R, c, w)
      rw [b_FB_recover_25]
      by_cases q3 : hrJ J a (J 20 a).toNat = 0
      · rw [if_pos q3, if_pos rfl]
        refine same ?_
        unfold rcB
        have y0 : anyR J a 480 = 0 := by
          by_cases y : anyR J a 480 = 0
          · exact y
          · rcases ah.mp y with z | z
            · exact absurd z q2
            · exact absurd q3 z
        rw [if_pos ⟨q1, y0⟩]
        omega
      · rw [if_neg q3, if_neg (by decide)]
        refine put ?_
        unfold rcB
        rw [if_neg (fun y => (ah.mpr (Or.inr q3)) y.2)]
set_option maxHeartbeats 1000000 in
theorem z_health {d : Nat} {K : Kt} {X : Xt} {J : Int → Int → Int} {E : Nm → Int → Int} {ty : Nm → Nat} {ln : Nm → Int} {I : Nm → Int → Int} {R : Nm → Int → Option Nm} {c w : Nat} {a s : Int} (h : RC J E ty ln I R) (hG : GI J) (hV : VI J) (ha : hsJ J a) (k0 : ((0 ≤ s ∧ s < J 20 a) ∧ J 21 (40 * a + s) = 0) → ∀ I', RC (heA J (40 * a + s) (J (-1) 3).toNat).2 E ty ln I' R → K (some (vI (heA J (40 * a + s) (J (-1) 3).toNat).1)) (ty, ln, I', R, c, w)) (k1 : ¬ (((0 ≤ s ∧ s < J 20 a) ∧ J 21 (40 * a + s) = 0)) → (1 ≤ c ∧ 6 ≤ w) ∧ X 1 (ty, ln, I, R, c - 1, w - 6)) :
    Mth (d + 8) M_FB_health [vR (some [1]), vI a, vI s] (ty, ln, I, R, c, w) K X := by
  obtain ⟨f1, fr0, fr1, fr2, fr3, fr4, fr5, ⟨ft0, fl0⟩, ⟨ft3, fl3⟩, ⟨ft4, fl4⟩, ⟨ft5, fl5⟩, ft16, fr160, fr161, ⟨ft160, fl160⟩, ⟨ft161, fl161⟩⟩ := id h.g.1
  obtain ⟨t0, ⟨r2, t2, ll2⟩, ⟨r3, t3, ll3⟩, ⟨r4, t4, ll4⟩, ⟨r5, t5, ll5⟩, rw5, ⟨r6, t6, ll6⟩, ⟨r7, t7⟩, ⟨r8, t8⟩, ⟨r9, t9⟩⟩ := h.hs a ha
  obtain ⟨e1, e2, e3, -⟩ := h.sn a ha
  have sc := h.g.2.2.2.2.2.2.2
  by_cases q1 : ((0 ≤ s ∧ s < J 20 a) ∧ J 21 (40 * a + s) = 0)
  · have hs : sgJ J a s := ⟨ha, by omega, by omega, by omega⟩
    obtain ⟨g0, ⟨gr0, gt0, gl0⟩, ⟨gr1, gt1, gl1⟩, ⟨gr2, gt2, gl2⟩, gp⟩ := h.sg a s hs
    have key : ∀ q i : Nat, i + q = (J (-1) 3).toNat → ∀ I, RC (heA J (40 * a + s) i).2 E ty ln I R → ∀ u6 : Vl, isLg u6 = false → Rn (d + 7) M_FB_health K X 16 [vR (some [1]), vI a, vI s, vR (some [4, a, 8, s]), vI (heA J (40 * a + s) i).1, vI (i : Int), u6] [] (ty, ln, I, R, c, w) := by
      intro q
      induction q with
      | zero =>
        intro i hi I h u6 v6
        rw [b_FB_health_16 v6, ex_some, and_t g0, gr2, ex_some, and_t (Or.inl (by omega)), if_pos (by omega), show i = (J (-1) 3).toNat by omega]
        exact k0 q1 I (by rw [← show i = (J (-1) 3).toNat by omega]; exact h)
      | succ q ih =>
        intro i hi I h u6 v6
        have ih' := ih (i + 1) (by omega)
        obtain ⟨pr, pt, -⟩ := gp i (by omega) (by omega)
        obtain ⟨hRi, i2, i3, i4, i5⟩ := heA_i (s := 40 * a + s) hG.1 i
        have hp : piJ (heA J (40 * a + s) i).2 a s i := piJ_c (J := J) ⟨hs, by omega, by omega, by omega⟩ (i3 5 _ (by decide)) (i3 20 _ (by decide)) (i3 (-1) _ (by decide))
        have hb : (heA J (40 * a + s) i).2 25 (12 * (40 * a + s) + i) ≤ 9 ∧ (0 ≤ (heA J (40 * a + s) i).2 25 (12 * (40 * a + s) + i) → 0 < (heA J (40 * a + s) i).2 5 ((heA J (40 * a + s) i).2 25 (12 * (40 * a + s) + i))) := by
          rw [i3 25 _ (by decide), i3 5 _ (by decide)]
          exact hV.pb hG.1 _ (by omega) (by omega)
        rw [b_FB_health_16 v6, ex_some, and_t g0, gr2, ex_some, and_t (Or.inl (by omega)), if_neg (by omega), ex_some, and_t g0, gr2, ex_some, and_t ⟨⟨by omega, by omega⟩, by omega, by omega⟩, and_t f1, pr, y_isReachable h hp hb]
        show Rn (d + 7) M_FB_health K X 41 [vR (some [1]), vI a, vI s, vR (some [4, a, 8, s]), vI (heA J (40 * a + s) i).1, vI (i : Int), vR (some [4, a, 8, s, 3, (i : Int)])] [vI (if isR (heA J (40 * a + s) i).2 (12 * (40 * a + s) + i) then 1 else 0)] (ty, ln, I, R, c, w)
        rw [b_FB_health_41]
        by_cases c1 : isR (heA J (40 * a + s) i).2 (12 * (40 * a + s) + i)
        · rw [show heA J (40 * a + s) (i + 1) = ((if rtJ (heA J (40 * a + s) i).2 23 (40 * a + s) i = 0 then (heA J (40 * a + s) i).1 else (heA J (40 * a + s) i).1 + 1), mpJ (heA J (40 * a + s) i).2 23 (40 * a + s) i) from if_pos c1] at ih'
          rw [if_pos c1, if_neg (by decide), ex_some, and_t g0, and_t f1, gr0, y_isPieceOf h hRi hp (Or.inl rfl)]
          have hm : RC (mpJ (heA J (40 * a + s) i).2 23 (40 * a + s) i) E ty ln (duI (heA J (40 * a + s) i).2 I (23 + 0) (40 * a + s) i) R := h.du.js (fun k x _ k1 _ _ _ _ => mpJ_o k1) (fun x _ _ => mpJ_o (by decide))
          have z := ih' _ hm (vR (some [4, a, 8, s, 3, (i : Int)])) rfl
          show Rn (d + 7) M_FB_health K X 56 [vR (some [1]), vI a, vI s, vR (some [4, a, 8, s]), vI (heA J (40 * a + s) i).1, vI (i : Int), vR (some [4, a, 8, s, 3, (i : Int)])] [vI (rtJ (heA J (40 * a + s) i).2 23 (40 * a + s) i)] (ty, ln, duI (heA J (40 * a + s) i).2 I (23 + 0) (40 * a + s) i, R, c, w)
          rw [b_FB_health_56]
          by_cases c2 : rtJ (heA J (40 * a + s) i).2 23 (40 * a + s) i = 0
          · rw [if_pos c2] at z
            rw [if_pos c2, b_FB_health_62, w32_id (by omega) (by omega)]
            exact z
          · rw [if_neg c2] at z
            rw [if_neg c2, b_FB_health_62, w32_id (x := (heA J (40 * a + s) i).1 + 1) (by omega) (by omega), w32_id (by omega) (by omega)]
            exact z
        · rw [show heA J (40 * a + s) (i + 1) = heA J (40 * a + s) i from if_neg c1] at ih'
          rw [if_neg c1, if_pos rfl, b_FB_health_62, w32_id (by omega) (by omega)]
          exact ih' I h _ rfl
    have z := key (J (-1) 3).toNat 0 (by omega) I h vJ rfl
    have st : Mth (d + 8) M_FB_health [vR (some [1]), vI a, vI s] (ty, ln, I, R, c, w) K X = Rn (d + 7) M_FB_health K X 16 [vR (some [1]), vI a, vI s, vR (some [4, a, 8, s]), vI 0, vI 0, vJ] [] (ty, ln, I, R, c, w) := by
      simp (disch := first | omega | assumption | rfl) only [in_FB_health, b_FB_health_0, b_FB_health_5, b_FB_health_9, x_houseOf_yes h.g ha, y_segmentOf h ha, Option.toList_some, Option.toList_none, List.cons_append, List.nil_append, ↓if_pos, ↓if_neg, ↓and_t, ↓ck, ↓ex_some, true_and, and_true, not_true_eq_false, not_false_eq_true, if_true, if_false, or_true, true_or, w32_id, reduceCtorEq, ne_eq, wr_4]
    rw [st]
    exact z
  · have z := k1 q1
    simp (disch := first | omega | assumption | rfl) only [in_FB_health, b_FB_health_0, b_FB_health_5, b_FB_health_9, x_houseOf_yes h.g ha, y_segmentOf h ha, Option.toList_some, Option.toList_none, List.cons_append, List.nil_append, ↓if_pos, ↓if_neg, ↓and_t, ↓ck, ↓ex_some, true_and, and_true, not_true_eq_false, not_false_eq_true, if_true, if_false, or_true, true_or, w32_id, reduceCtorEq, ne_eq, wr_4]
    first | exact z | exact z.2
