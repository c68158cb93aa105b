/-! ===== the class repairs ===== -/
theorem VI.held {J J' : Int → Int → Int} (h : VI J) (e : ∀ k x, k = 5 ∨ k = 9 ∨ k = 20 ∨ k = 21 ∨ k = 25 ∨ k = 26 → J' k x = J k x) (em : ∀ x, x = 3 ∨ x = 4 → J' (-1) x = J (-1) x) (e22 : ∀ s, J 21 s ≠ 0 → J' 22 s = 0) : VI J' := by
  refine ⟨fun p p0 p1 => ?_, fun a a0 a1 => ?_, fun a b a0 a1 b0 b1 => ?_, fun s j j' s0 s1 j0 j1 j2 j3 => ?_, fun a s j a0 a1 s0 s1 j0 j1 hh => ?_, fun s hs => ?_, fun hz a a0 a1 => ?_, fun a a0 a1 hz => ?_⟩
  · rw [e 25 _ (by decide), e 26 _ (by decide), e 5 _ (by decide)]; exact h.pi p p0 p1
  · rw [e 9 _ (by decide)]; exact h.li a a0 a1
  · rw [e 9 _ (by decide), e 9 _ (by decide)]; exact h.sy a b a0 a1 b0 b1
  · rw [e 25 _ (by decide), e 25 _ (by decide)]; exact h.uq s j j' s0 s1 j0 j1 j2 j3
  · rw [e 25 _ (by decide)]; rw [e 20 _ (by decide), em 3 (by decide)] at hh; exact h.oi a s j a0 a1 s0 s1 j0 j1 hh
  · rw [e 21 _ (by decide)] at hs; exact e22 s hs
  · rw [em 4 (by decide)] at hz; rw [e 20 _ (by decide)]; exact h.se hz a a0 a1
  · rw [e 5 _ (by decide)] at hz; rw [e 20 _ (by decide)]; exact h.nh a a0 a1 hz
theorem reJ_o {J : Int → Int → Int} {s k x : Int} (h : k ≠ 22 ∧ k ≠ 24 ∧ k ≠ 32 ∧ k ≠ 33 ∧ k ≠ 34) : reJ J s k x = J k x := by
  unfold reJ
  split
  · rw [uJ_ne h.1, wJ_ne h.2.1, solJ_o ⟨h.2.2.1, h.2.2.2⟩]
  · rfl
theorem VI.re {J : Int → Int → Int} {s : Int} (h : VI J) (hs : J 21 s = 0) : VI (reJ J s) := by
  refine h.held (fun k x hk => reJ_o (by omega)) (fun x _ => reJ_o (by decide)) (fun s' h' => ?_)
  unfold reJ
  split
  · rw [uJ_self, upI_ne _ _ (fun z => h' (by rw [z]; exact hs)), wJ_ne (by decide), solJ_o (by decide)]; exact h.fh s' h'
  · exact h.fh s' h'
theorem VI.un {J : Int → Int → Int} {s : Int} (h : VI J) : ∀ n : Nat, VI (unJ J s n)
  | 0 => h
  | n + 1 => by
    have ih := VI.un (s := s) h n
    by_cases q : 0 ≤ unJ J s n 25 (12 * s + n) ∧ unJ J s n 6 (unJ J s n 25 (12 * s + n)) ≠ 0 ∧ unJ J s n 26 (12 * s + n) = 0
    · rw [show unJ J s (n + 1) = uJ (unJ J s n) 25 (12 * s + n) (-1) from if_pos q]
      refine ih.lost (fun k x hk => by rw [uJ_ne (by omega)]) (fun x _ => by rw [uJ_ne (by decide)]) (fun p _ _ => ?_)
      by_cases e : p = 12 * s + n
      · right
        rw [e, uJ_self, upI_self, uJ_ne (by decide)]
        exact ⟨q.2.2, Or.inr (by decide)⟩
      · left
        rw [uJ_self, upI_ne _ _ e, uJ_ne (by decide)]
        exact ⟨rfl, rfl⟩
    · rw [show unJ J s (n + 1) = unJ J s n from if_neg q]
      exact ih
theorem VI.ro {J : Int → Int → Int} {a s : Int} (h : VI J) (hG : GI J) (ha : 0 ≤ a ∧ a ≤ 9) (hs : 0 ≤ s ∧ s < 40 ∧ s < J 20 a) (hf : J 21 (40 * a + s) = 0) : VI (roJ J a (40 * a + s)).2 := by
  have sc := hG.2.1
  unfold SC at sc
  unfold roJ
  split
  · exact h.re hf
  · obtain ⟨u1, u2, u3⟩ := unJ_i (a := a) (s := 40 * a + s) (hG.re (s := 40 * a + s)) ha (by omega) (J (-1) 3).toNat (by omega)
    exact ((h.re hf).un _).plB ha (by rw [u3 20 a (by decide), reJ_o (by decide)]; exact hs) _ (by rw [u2, reJ_m]; omega) (by omega)
theorem rpA_v {J : Int → Int → Int} {a : Int} (hG : GI J) (hV : VI J) (ha : 0 ≤ a ∧ a ≤ 9) : ∀ n : Nat, (n : Int) ≤ J 20 a → n ≤ 40 → VI (rpA J a n).2
  | 0, _, _ => hV
  | n + 1, h1, h2 => by
    have ih := rpA_v hG hV ha n (by omega) (by omega)
    obtain ⟨i1, i2, i3, i4, i5⟩ := rpA_i hG ha n (by omega)
    by_cases q : J 21 (40 * a + n) = 0
    · rw [show rpA J a (n + 1) = ((rpA J a n).1 + (roJ (rpA J a n).2 a (40 * a + n)).1, (roJ (rpA J a n).2 a (40 * a + n)).2) from if_pos q]
      exact ih.ro i1 ha (by rw [(i5 a).1]; omega) (by rw [(i5 _).2]; exact q)
    · rw [show rpA J a (n + 1) = rpA J a n from if_neg q]
      exact ih
theorem roJ_5 {J : Int → Int → Int} {a s x : Int} (h : GI J) (ha : 0 ≤ a ∧ a ≤ 9) (hs : 40 * a ≤ s ∧ s < 40 * a + 40) : (roJ J a s).2 5 x = J 5 x := by
  have sc := h.2.1
  unfold SC at sc
  unfold roJ
  split
  · exact reJ_o (by decide)
  · obtain ⟨u1, u2, u3⟩ := unJ_i (a := a) (s := s) (h.re (s := s)) ha hs (J (-1) 3).toNat (by omega)
    rw [plA_o (by decide), u3 5 x (by decide), reJ_o (by decide)]
theorem rpA_5 {J : Int → Int → Int} {a x : Int} (hG : GI J) (ha : 0 ≤ a ∧ a ≤ 9) : ∀ n : Nat, n ≤ 40 → (rpA J a n).2 5 x = J 5 x
  | 0, _ => rfl
  | n + 1, h2 => by
    have ih := rpA_5 (x := x) hG ha n (by omega)
    obtain ⟨i1, i2, i3, i4, i5⟩ := rpA_i hG ha n (by omega)
    by_cases q : J 21 (40 * a + n) = 0
    · rw [show rpA J a (n + 1) = ((rpA J a n).1 + (roJ (rpA J a n).2 a (40 * a + n)).1, (roJ (rpA J a n).2 a (40 * a + n)).2) from if_pos q]
      exact (roJ_5 i1 ha (by omega)).trans ih
    · rw [show rpA J a (n + 1) = rpA J a n from if_neg q]
      exact ih
set_option maxHeartbeats 1000000 in
theorem y_unplaceMissing {d : Nat} {K : Kt} {X : Xt} {J : Int → Int → Int} {E : Nm → Int → Int} {ty : Nm → Nat} {ln : Nm → Int} {I : Nm → Int → Int} {R : Nm → Int → Option Nm} {c w : Nat} {a s : Int} (h : RC J E ty ln I R) (hG : GI J) (hV : VI J) (hs : sgJ J a s) (k : ∀ I', RC (unJ J (40 * a + s) (J (-1) 3).toNat) E ty ln I' R → K none (ty, ln, I', R, c, w)) :
    Mth (d + 3) M_FB_unplaceMissing [vR (some [1]), vR (some [4, a, 8, s])] (ty, ln, I, R, c, w) K X := by
  have ha := hs.1
  obtain ⟨g0, ⟨gr0, gt0, gl0⟩, ⟨gr1, gt1, gl1⟩, ⟨gr2, gt2, gl2⟩, gp⟩ := h.sg a s hs
  obtain ⟨f1, fr0, fr1, fr2, fr3, fr4, fr5, ⟨ft0, fl0⟩, ⟨ft3, fl3⟩, ⟨ft4, fl4⟩, ⟨ft5, fl5⟩, ft16, fr160, fr161, ⟨ft160, fl160⟩, ⟨ft161, fl161⟩⟩ := id h.g.1
  have sc := h.g.2.2.2.2.2.2.2
  have key : ∀ q i : Nat, i + q = (J (-1) 3).toNat → ∀ I, RC (unJ J (40 * a + s) i) E ty ln I R → ∀ u3 : Vl, isLg u3 = false → Rn (d + 2) M_FB_unplaceMissing K X 2 [vR (some [1]), vR (some [4, a, 8, s]), vI (i : Int), u3] [] (ty, ln, I, R, c, w) := by
    intro q
    induction q with
    | zero =>
      intro i hi I h u3 v3
      rw [b_FB_unplaceMissing_2 v3, ex_some, and_t g0, gr2, ex_some, and_t (Or.inl (by omega)), if_pos (by omega)]
      exact k I (by rw [← show i = (J (-1) 3).toNat by omega]; exact h)
    | succ q ih =>
      intro i hi I h u3 v3
      have ih' := ih (i + 1) (by omega)
      obtain ⟨pr, pt, -⟩ := gp i (by omega) (by omega)
      obtain ⟨hGi, i2, i3⟩ := unJ_i (a := a) (s := 40 * a + s) hG ha.1 (by omega) i (by omega)
      have hVi := hV.un (s := 40 * a + s) i
      have hp : piJ (unJ J (40 * a + s) i) a s i := piJ_c (J := J) ⟨hs, by omega, by omega, by omega⟩ (i3 5 _ (by decide)) (i3 20 _ (by decide)) (i3 (-1) _ (by decide))
      rw [show unJ J (40 * a + s) (i + 1) = if 0 ≤ unJ J (40 * a + s) i 25 (12 * (40 * a + s) + i) ∧ unJ J (40 * a + s) i 6 (unJ J (40 * a + s) i 25 (12 * (40 * a + s) + i)) ≠ 0 ∧ unJ J (40 * a + s) i 26 (12 * (40 * a + s) + i) = 0 then uJ (unJ J (40 * a + s) i) 25 (12 * (40 * a + s) + i) (-1) else unJ J (40 * a + s) i from rfl] at ih'
      generalize unJ J (40 * a + s) i = J1 at h hGi hp hVi ih'
      have nx : ∀ I', RC (if 0 ≤ J1 25 (12 * (40 * a + s) + i) ∧ J1 6 (J1 25 (12 * (40 * a + s) + i)) ≠ 0 ∧ J1 26 (12 * (40 * a + s) + i) = 0 then uJ J1 25 (12 * (40 * a + s) + i) (-1) else J1) E ty ln I' R → Rn (d + 2) M_FB_unplaceMissing K X 41 [vR (some [1]), vR (some [4, a, 8, s]), vI (i : Int), vR (some [4, a, 8, s, 3, (i : Int)])] [] (ty, ln, I', R, c, w) := by
        intro I' h'
        rw [b_FB_unplaceMissing_41, w32_id (by omega) (by omega)]
        exact ih' I' h' _ rfl
      rw [b_FB_unplaceMissing_2 v3, ex_some, and_t g0, gr2, ex_some, and_t (Or.inl (by omega)), if_neg (by omega), ex_some, and_t g0, gr2, ex_some, and_t ⟨⟨by omega, by omega⟩, by omega, by omega⟩, pr, ex_some, and_t pt, and_t f1, h.ri _ _ _ _ (l25 hp), y_isUp h (hVi.pb hGi.1 _ (by omega) (by omega))]
      show Rn (d + 2) M_FB_unplaceMissing K X 26 [vR (some [1]), vR (some [4, a, 8, s]), vI (i : Int), vR (some [4, a, 8, s, 3, (i : Int)])] [vI (if 0 ≤ J1 25 (12 * (40 * a + s) + i) ∧ J1 6 (J1 25 (12 * (40 * a + s) + i)) ≠ 0 then 1 else 0)] (ty, ln, I, R, c, w)
      rw [b_FB_unplaceMissing_26]
      by_cases c1 : 0 ≤ J1 25 (12 * (40 * a + s) + i) ∧ J1 6 (J1 25 (12 * (40 * a + s) + i)) ≠ 0
      · rw [if_pos c1, if_neg (by decide), ex_some, and_t pt, h.ri _ _ _ _ (l26 hp)]
        by_cases c2 : J1 26 (12 * (40 * a + s) + i) = 0
        · rw [if_neg (fun z => z c2), ex_some, and_t ⟨pt, rfl⟩]
          exact nx _ (by rw [if_pos ⟨c1.1, c1.2, c2⟩]; exact h.up (l25 hp) (by decide))
        · rw [if_pos c2]
          exact nx _ (by rw [if_neg (fun z => c2 z.2.2)]; exact h)
      · rw [if_neg c1, if_pos rfl]
        exact nx _ (by rw [if_neg (fun z => c1 ⟨z.1, z.2.1⟩)]; exact h)
  rw [in_FB_unplaceMissing, b_FB_unplaceMissing_0]
  exact key (J (-1) 3).toNat 0 (by omega) I h vJ rfl
set_option maxHeartbeats 2000000 in
theorem z_repair {d : Nat} {K : Kt} {X : Xt} {J : Int → Int → Int} {E : Nm → Int → Int} {ty : Nm → Nat} {ln : Nm → Int} {I : Nm → Int → Int} {R : Nm → Int → Option Nm} {c w : Nat} {a : Int} (h : RC J E ty ln I R) (hG : GI J) (hV : VI J) (hpv : PVok) (ha : hsJ J a) (k0 : J 7 a = 0 ∧ J 6 a ≠ 0 → ∀ I', RC (rpA J a (J 20 a).toNat).2 E ty ln I' R → K (some (vI (rpA J a (J 20 a).toNat).1)) (ty, ln, I', R, c, w)) (k2 : ¬ (J 7 a = 0 ∧ J 6 a ≠ 0) → (1 ≤ c ∧ 6 ≤ w) ∧ X 2 (ty, ln, I, R, c - 1, w - 6)) :
    Mth (d + 7) M_FB_repair [vR (some [1]), vI a] (ty, ln, I, R, c, w) K X := by
  obtain ⟨f1, fr0, fr1, fr2, fr3, fr4, fr5, ⟨ft0, fl0⟩, ⟨ft3, fl3⟩, ⟨ft4, fl4⟩, ⟨ft5, fl5⟩, ft16, fr160, fr161, ⟨ft160, fl160⟩, ⟨ft161, fl161⟩⟩ := id h.g.1
  obtain ⟨t0, ⟨r2, t2, ll2⟩, ⟨r3, t3, ll3⟩, ⟨r4, t4, ll4⟩, ⟨r5, t5, ll5⟩, rw5, ⟨r6, t6, ll6⟩, ⟨r7, t7⟩, ⟨r8, t8⟩, ⟨r9, t9⟩⟩ := h.hs a ha
  obtain ⟨e1, e2, e3, -⟩ := h.sn a ha
  have sc := h.g.2.2.2.2.2.2.2
  have i11 := h.ri _ _ _ _ (l6 ha)
  have i12 := h.ri _ _ _ _ (l7 ha)
  have s1 := h.g.2.1.1
  by_cases q1 : J 7 a = 0 ∧ J 6 a ≠ 0
  · have start : Mth (d + 7) M_FB_repair [vR (some [1]), vI a] (ty, ln, I, R, c, w) K X = Rn (d + 6) M_FB_repair K X 33 [vR (some [1]), vI a, vR (some [4, a]), vI 0, vI 0, vJ] [] (ty, ln, I, R, c, w) := by
      obtain ⟨q2, q3⟩ := q1
      simp (disch := first | omega | assumption | rfl) only [in_FB_repair, b_FB_repair_0, b_FB_repair_5, b_FB_repair_24, b_FB_repair_25, b_FB_repair_28, x_houseOf_yes h.g ha, x_rS, x_rS1, i11, i12, Option.toList_some, Option.toList_none, List.cons_append, List.nil_append, ↓if_pos, ↓if_neg, ↓and_t, ↓ck, ↓ex_some, true_and, and_true, not_true_eq_false, not_false_eq_true, if_true, if_false, or_true, true_or, w32_id, reduceCtorEq, ne_eq, wr_4]
    rw [start]
    have key : ∀ q i : Nat, i + q = (J 20 a).toNat → ∀ I, RC (rpA J a i).2 E ty ln I R → ∀ u5 : Vl, isLg u5 = false → Rn (d + 6) M_FB_repair K X 33 [vR (some [1]), vI a, vR (some [4, a]), vI (rpA J a i).1, vI (i : Int), u5] [] (ty, ln, I, R, c, w) := by
      intro q
      induction q with
      | zero =>
        intro i hi I h u5 v5
        obtain ⟨hGi, j2, j3, j4, j5⟩ := rpA_i hG ha.1 i (by omega)
        rw [b_FB_repair_33 v5, ex_some, and_t t0, r8, ex_some, and_t t8, y_size h (hsJ_c ha (rpA_5 hG ha.1 i (by omega))), (j5 a).1]
        show Rn (d + 6) M_FB_repair K X 42 [vR (some [1]), vI a, vR (some [4, a]), vI (rpA J a i).1, vI (i : Int), u5] [vI (J 20 a), vI (i : Int)] (ty, ln, I, R, c, w)
        rw [b_FB_repair_42 v5, if_pos (by omega), show i = (J 20 a).toNat by omega]
        exact k0 q1 I (by rw [← show i = (J 20 a).toNat by omega]; exact h)
      | succ q ih =>
        intro i hi I h u5 v5
        have ih' := ih (i + 1) (by omega)
        obtain ⟨hGi, j2, j3, j4, j5⟩ := rpA_i hG ha.1 i (by omega)
        have hVi := rpA_v hG hV ha.1 i (by omega) (by omega)
        have hs : sgJ (rpA J a i).2 a i := sgJ_c (J := J) ⟨ha, by omega, by omega, by omega⟩ (rpA_5 hG ha.1 i (by omega)) (j5 a).1
        have j21 := (j5 (40 * a + i)).2
        have jm : (rpA J a i).2 (-1) 3 = J (-1) 3 := by rw [j2]
        rw [show rpA J a (i + 1) = if J 21 (40 * a + i) = 0 then ((rpA J a i).1 + (roJ (rpA J a i).2 a (40 * a + i)).1, (roJ (rpA J a i).2 a (40 * a + i)).2) else ((rpA J a i).1, (rpA J a i).2) from rfl] at ih'
        obtain ⟨g0, ⟨gr0, gt0, gl0⟩, ⟨gr1, gt1, gl1⟩, ⟨gr2, gt2, gl2⟩, gp⟩ := h.sg a i hs
        rw [b_FB_repair_33 v5, ex_some, and_t t0, r8, ex_some, and_t t8, y_size h hs.1, (j5 a).1]
        show Rn (d + 6) M_FB_repair K X 42 [vR (some [1]), vI a, vR (some [4, a]), vI (rpA J a i).1, vI (i : Int), u5] [vI (J 20 a), vI (i : Int)] (ty, ln, I, R, c, w)
        rw [b_FB_repair_42 v5, if_neg (by omega), ex_some, and_t t0, r8, ex_some, and_t t8, y_get h hs]
        show Rn (d + 6) M_FB_repair K X 54 [vR (some [1]), vI a, vR (some [4, a]), vI (rpA J a i).1, vI (i : Int), u5] [vR (some [4, a, 8, (i : Int)])] (ty, ln, I, R, c, w)
        obtain ⟨p1, p2, p3, p4, p5⟩ := roJ_i (s := 40 * a + i) hGi ha.1 (by omega)
        generalize (rpA J a i).2 = J1 at h hGi hs hVi ih' j21 jm p1 p2 p3 p4 p5 gl2 gp
        generalize (rpA J a i).1 = n1 at j3 j4 ih' ⊢
        -- behind the solving
        have back : ∀ I', RC (if J1 21 (40 * a + i) = 0 then reJ J1 (40 * a + i) else J1) E ty ln I' R → Rn (d + 6) M_FB_repair K X 108 [vR (some [1]), vI a, vR (some [4, a]), vI n1, vI (i : Int), vR (some [4, a, 8, (i : Int)])] [] (ty, ln, I', R, c, w) := by
          intro I' h'
          by_cases c0 : J1 21 (40 * a + i) = 0
          · rw [if_pos c0] at h'
            rw [if_pos (by rw [← j21]; exact c0)] at ih'
            have hs' : sgJ (reJ J1 (40 * a + i)) a i := sgJ_c hs (reJ_o (by decide)) (reJ_o (by decide))
            rw [b_FB_repair_108, ex_some, and_t g0, h'.ri _ _ _ _ (l22 hs')]
            by_cases c1 : reJ J1 (40 * a + i) 22 (40 * a + i) = 0
            · rw [show roJ J1 a (40 * a + i) = (0, reJ J1 (40 * a + i)) from if_pos c1] at ih'
              rw [if_pos c1, b_FB_repair_132, w32_id (by omega) (by omega)]
              have := ih' I' h' (vR (some [4, a, 8, (i : Int)])) rfl
              rw [show n1 + 0 = n1 by omega] at this
              exact this
            · have er : roJ J1 a (40 * a + i) = plA (unJ (reJ J1 (40 * a + i)) (40 * a + i) (J1 (-1) 3).toNat) a (40 * a + i) (J1 (-1) 3).toNat := if_neg c1
              rw [er] at ih' p3 p4
              have G2 := hGi.re (s := 40 * a + (i : Int))
              have V2 := hVi.re c0
              have m3 : reJ J1 (40 * a + i) (-1) 3 = J1 (-1) 3 := reJ_o (by decide)
              obtain ⟨u1, u2, u3⟩ := unJ_i (a := a) (s := 40 * a + i) G2 ha.1 (by omega) (J1 (-1) 3).toNat (by omega)
              rw [if_neg c1, and_t f1]
              refine y_unplaceMissing h' G2 V2 hs' (fun I2 h2 => ?_)
              rw [m3] at h2
              show Rn (d + 6) M_FB_repair K X 122 [vR (some [1]), vI a, vR (some [4, a]), vI n1, vI (i : Int), vR (some [4, a, 8, (i : Int)])] [] (ty, ln, I2, R, c, w)
              rw [b_FB_repair_122, and_t f1]
              refine y_placeMissing h2 u1 (V2.un _) (sgJ_c hs' (u3 _ _ (by decide)) (u3 _ _ (by decide))) ?_
              rw [u3 (-1) 3 (by decide), m3]
              intro I3 h3
              have z := ih' I3 h3 (vR (some [4, a, 8, (i : Int)])) rfl
              show Rn (d + 6) M_FB_repair K X 130 [vR (some [1]), vI a, vR (some [4, a]), vI n1, vI (i : Int), vR (some [4, a, 8, (i : Int)])] [vI (plA (unJ (reJ J1 (40 * a + i)) (40 * a + i) (J1 (-1) 3).toNat) a (40 * a + i) (J1 (-1) 3).toNat).1, vI n1] (ty, ln, I3, R, c, w)
              rw [b_FB_repair_130, b_FB_repair_132, w32_id (x := n1 + (plA (unJ (reJ J1 (40 * a + i)) (40 * a + i) (J1 (-1) 3).toNat) a (40 * a + i) (J1 (-1) 3).toNat).1) (by omega) (by omega), w32_id (by omega) (by omega)]
              exact z
          · rw [if_neg c0] at h'
            rw [if_neg (by rw [← j21]; exact c0)] at ih'
            rw [b_FB_repair_108, ex_some, and_t g0, h'.ri _ _ _ _ (l22 hs), if_pos (hVi.fh _ c0), b_FB_repair_132, w32_id (by omega) (by omega)]
            exact ih' I' h' _ rfl
        rw [b_FB_repair_54 v5, ck g0, ex_some, and_t g0, h.ri _ _ _ _ (l22 hs)]
        by_cases c1 : J1 22 (40 * a + i) = 0
        · rw [if_neg (fun z => z c1), ex_some, and_t g0, h.ri _ _ _ _ (l21 hs)]
          by_cases c2 : J1 21 (40 * a + i) = 0
          · rw [if_neg (fun z => z c2), and_t f1, y_countReachable h hs (hVi.pb hGi.1)]
            show Rn (d + 6) M_FB_repair K X 81 [vR (some [1]), vI a, vR (some [4, a]), vI n1, vI (i : Int), vR (some [4, a, 8, (i : Int)])] [vI (cntR J1 (40 * a + i) (J1 (-1) 3).toNat)] (ty, ln, I, R, c, w)
            rw [b_FB_repair_81, and_t f1, fr1, ex_some, and_t s1, h.g.2.2.2.1.1]
            by_cases c3 : cntR J1 (40 * a + i) (J1 (-1) 3).toNat < J1 (-1) 2
            · rw [if_pos c3]
              exact back I (by rw [if_pos c2, show reJ J1 (40 * a + i) = J1 from if_neg (fun z => by omega)]; exact h)
            · have er : reJ J1 (40 * a + i) = uJ (wJ (solJ J1 (40 * a + i)) 24 (60 * (40 * a + i)) (60 * (40 * a + i) + 60) (fun x => solJ J1 (40 * a + i) 33 (x - 60 * (40 * a + i)))) 22 (40 * a + i) 1 := if_pos ⟨c1, by omega⟩
              rw [if_neg c3, ex_some, and_t g0, and_t f1, gr1]
              refine y_solve h hGi hVi hpv hs (by omega) gt1 gl1 rfl (by show (4 : Int) ≠ 17; decide) (fun I' f1' f2' => ?_)
              show Rn (d + 6) M_FB_repair K X 102 [vR (some [1]), vI a, vR (some [4, a]), vI n1, vI (i : Int), vR (some [4, a, 8, (i : Int)])] [] (ty, ln, I', R, c, w)
              rw [b_FB_repair_102, ex_some, and_t ⟨Or.inr rfl, g0, rfl⟩]
              refine back _ ?_
              rw [if_pos c2, er]
              have h1 := h.st (n := [4, a, 8, (i : Int), 1]) (lo := 0) (hi := 60) (k := 24) (B := 60 * (40 * a + i)) (f := fun x => solJ J1 (40 * a + i) 33 (x - 60 * (40 * a + i))) (fun x x0 x1 => l24 ⟨hs, x0, x1⟩) (by decide)
              have h2 : RC (wJ J1 24 (60 * (40 * a + i) + 0) (60 * (40 * a + i) + 60) (fun x => solJ J1 (40 * a + i) 33 (x - 60 * (40 * a + i)))) E ty ln I' R := by
                refine h1.scr (fun n x n1 n2 n3 n4 n5 => ?_)
                by_cases z : n = [4, a, 8, (i : Int), 1] ∧ 0 ≤ x ∧ x < 60
                · rw [z.1, f2' x z.2.1 z.2.2, wI_in z.2, show 60 * (40 * a + i) + x - 60 * (40 * a + (i : Int)) = x by omega]
                · rw [f1' n x n4 n5 (by
                    by_cases y : n = [4, a, 8, (i : Int), 1]
                    · right
                      by_cases y2 : 0 ≤ x ∧ x < 60
                      · exact absurd ⟨y, y2⟩ z
                      · omega
                    · exact Or.inl y), show wI I [4, a, 8, (i : Int), 1] 0 60 _ n x = I n x from if_neg z]
              have h3 : RC (wJ (solJ J1 (40 * a + i)) 24 (60 * (40 * a + i)) (60 * (40 * a + i) + 60) (fun x => solJ J1 (40 * a + i) 33 (x - 60 * (40 * a + i)))) E ty ln I' R := by
                refine h2.js (fun k x k1 k2 k3 k4 k5 k6 => ?_) (fun x _ _ => ?_)
                · rw [Int.add_zero]
                  unfold wJ
                  split
                  · rfl
                  · exact solJ_o ⟨k3, k4, k5⟩
                · rw [wJ_ne (by decide), wJ_ne (by decide), solJ_o (by decide)]
              exact h3.up (l22 (sgJ_c hs (by rw [wJ_ne (by decide), solJ_o (by decide)]) (by rw [wJ_ne (by decide), solJ_o (by decide)]))) (by decide)
          · rw [if_pos c2]
            exact back I (by rw [if_neg c2]; exact h)
        · have c2 : J1 21 (40 * a + i) = 0 := by
            by_cases z : J1 21 (40 * a + i) = 0
            · exact z
            · exact absurd (hVi.fh _ z) c1
          rw [if_pos c1]
          exact back I (by rw [if_pos c2, show reJ J1 (40 * a + i) = J1 from if_neg (fun z => c1 z.1)]; exact h)
    exact key (J 20 a).toNat 0 (by omega) I h vJ rfl
  · have z := k2 q1
    by_cases q2 : J 7 a = 0
    · have q3 : J 6 a = 0 := by omega
      simp (disch := first | omega | assumption | rfl) only [in_FB_repair, b_FB_repair_0, b_FB_repair_5, b_FB_repair_24, b_FB_repair_25, b_FB_repair_28, x_houseOf_yes h.g ha, x_rS, x_rS1, i11, i12, Option.toList_some, Option.toList_none, List.cons_append, List.nil_append, ↓if_pos, ↓if_neg, ↓and_t, ↓ck, ↓ex_some, true_and, and_true, not_true_eq_false, not_false_eq_true, if_true, if_false, or_true, true_or, w32_id, reduceCtorEq, ne_eq, wr_4]
      first | exact z | exact z.2
    · simp (disch := first | omega | assumption | rfl) only [in_FB_repair, b_FB_repair_0, b_FB_repair_5, b_FB_repair_24, b_FB_repair_25, b_FB_repair_28, x_houseOf_yes h.g ha, x_rS, x_rS1, i11, i12, Option.toList_some, Option.toList_none, List.cons_append, List.nil_append, ↓if_pos, ↓if_neg, ↓and_t, ↓ck, ↓ex_some, true_and, and_true, not_true_eq_false, not_false_eq_true, if_true, if_false, or_true, true_or, w32_id, reduceCtorEq, ne_eq, wr_4]
      first | exact z | exact z.2
