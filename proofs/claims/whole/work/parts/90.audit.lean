/-! ===== the class on the relation: push, audit ===== -/
theorem VI.plB {J : Int → Int → Int} {a s : Int} (h : VI J) (ha : 0 ≤ a ∧ a ≤ 9) (hs : 0 ≤ s ∧ s < 40 ∧ s < J 20 a) : ∀ n : Nat, (n : Int) ≤ J (-1) 3 → n ≤ 12 → VI (plA J a (40 * a + s) n).2
  | 0, _, _ => h
  | n + 1, hn, hn2 => by
    have ih := VI.plB h ha hs n (by omega) (by omega)
    by_cases q : (plA J a (40 * a + s) n).2 25 (12 * (40 * a + s) + n) < 0
    · rw [show plA J a (40 * a + s) (n + 1) = ((plA J a (40 * a + s) n).1 + (if bestJ (plA J a (40 * a + s) n).2 a (40 * a + s) 10 < 0 then 0 else 1), plJ (plA J a (40 * a + s) n).2 a (40 * a + s) n) from if_pos q]
      exact ih.pl ha (by rw [plA_o (by decide)]; exact hs) (by rw [plA_o (by decide)]; omega)
    · rw [show plA J a (40 * a + s) (n + 1) = plA J a (40 * a + s) n from if_neg q]
      exact ih
theorem piJ_c {J J' : Int → Int → Int} {a s j : Int} (h : piJ J a s j) (e1 : J' 5 a = J 5 a) (e2 : J' 20 a = J 20 a) (e3 : J' (-1) 3 = J (-1) 3) : piJ J' a s j := by
  rw [piJ, e1, e2, e3]; exact h
theorem hsJ_c {J J' : Int → Int → Int} {a : Int} (h : hsJ J a) (e1 : J' 5 a = J 5 a) : hsJ J' a := by
  rw [hsJ, e1]; exact h
theorem sgJ_c {J J' : Int → Int → Int} {a s : Int} (h : sgJ J a s) (e1 : J' 5 a = J 5 a) (e2 : J' 20 a = J 20 a) : sgJ J' a s := by
  rw [sgJ, e1, e2]; exact h
theorem VI.unb {J : Int → Int → Int} {a p : Int} (h : VI J) : VI (uJ (loseJ J a p) 25 p (-1)) := by
  refine h.lost (fun k x hk => by rw [uJ_ne (by omega), loseJ_o ⟨by omega, by omega⟩]) (fun x _ => by rw [uJ_ne (by decide), loseJ_m]) (fun q q0 q1 => ?_)
  by_cases e : q = p
  · right
    subst e
    rw [uJ_self, upI_self, uJ_ne (by decide)]
    refine ⟨?_, Or.inr (by decide)⟩
    unfold loseJ
    by_cases z : 0 ≤ J 25 q ∧ J 26 q ≠ 0
    · rw [if_pos z, uJ_ne (by decide), uJ_self, upI_self]
    · rw [if_neg z]
      by_cases y : 0 ≤ J 25 q
      · by_cases x : J 26 q = 0
        · exact x
        · exact absurd ⟨y, x⟩ z
      · exact (h.pi q q0 q1).1 (by omega)
  · left
    rw [uJ_self, upI_ne _ _ e, uJ_ne (by decide), loseJ_o (by decide)]
    refine ⟨rfl, ?_⟩
    unfold loseJ
    split
    · rw [uJ_ne (by decide), uJ_self, upI_ne _ _ e]
    · rfl
theorem VI.au {J : Int → Int → Int} {a s j : Int} (h : VI J) : VI (auP J a s j).2 := by
  have hm : VI (mpJ J 24 s j) := h.lost (fun k x hk => mpJ_o (by omega)) (fun x _ => mpJ_o (by decide)) (fun p _ _ => Or.inl ⟨mpJ_o (by decide), mpJ_o (by decide)⟩)
  unfold auP
  split
  · split
    · exact h.unb
    · split
      · exact hm
      · exact hm.unb
  · exact h
theorem VI.auS {J : Int → Int → Int} {a s : Int} (h : VI J) : ∀ n : Nat, VI (auA J a s n).2
  | 0 => h
  | n + 1 => (VI.auS h n).au
set_option maxHeartbeats 1000000 in
theorem y_placeMissing {d : Nat} {K : Kt} {X : Xt} {J : Int → Int → Int} {E : Nm → Int → Int} {ty : Nm → Nat} {ln : Nm → Int} {I : Nm → Int → Int} {R : Nm → Int → Option Nm} {c w : Nat} {a s : Int} (h : RC J E ty ln I R) (hG : GI J) (hV : VI J) (hs : sgJ J a s) (k : ∀ I', RC (plA J a (40 * a + s) (J (-1) 3).toNat).2 E ty ln I' R → K (some (vI (plA J a (40 * a + s) (J (-1) 3).toNat).1)) (ty, ln, I', R, c, w)) :
    Mth (d + 4) M_FB_placeMissing [vR (some [1]), vR (some [4, a]), vR (some [4, a, 8, s])] (ty, ln, I, R, c, w) K X := by
  have ha := hs.1
  obtain ⟨g0, ⟨gr0, gt0, gl0⟩, ⟨gr1, gt1, gl1⟩, ⟨gr2, gt2, gl2⟩, gp⟩ := h.sg a s hs
  obtain ⟨f1, fr0, fr1, fr2, fr3, fr4, fr5, ⟨ft0, fl0⟩, ⟨ft3, fl3⟩, ⟨ft4, fl4⟩, ⟨ft5, fl5⟩, ft16, fr160, fr161, ⟨ft160, fl160⟩, ⟨ft161, fl161⟩⟩ := id h.g.1
  have sc := h.g.2.2.2.2.2.2.2
  have key : ∀ q i : Nat, i + q = (J (-1) 3).toNat → ∀ I, RC (plA J a (40 * a + s) i).2 E ty ln I R → Rn (d + 3) M_FB_placeMissing K X 5 [vR (some [1]), vR (some [4, a]), vR (some [4, a, 8, s]), vI (plA J a (40 * a + s) i).1, vI (i : Int)] [] (ty, ln, I, R, c, w) := by
    intro q
    induction q with
    | zero =>
      intro i hi I h
      rw [b_FB_placeMissing_5, ex_some, and_t g0, gr2, ex_some, and_t (Or.inl (by omega)), if_pos (by omega), show i = (J (-1) 3).toNat by omega]
      exact k I (by rw [← show i = (J (-1) 3).toNat by omega]; exact h)
    | succ q ih =>
      intro i hi I h
      have ih' := ih (i + 1) (by omega)
      obtain ⟨pr, pt, -⟩ := gp i (by omega) (by omega)
      have hp : piJ (plA J a (40 * a + s) i).2 a s i := piJ_c (J := J) ⟨hs, by omega, by omega, by omega⟩ (plA_o (by decide) i) (plA_o (by decide) i) (plA_o (by decide) i)
      have hGi := plA_g (s := 40 * a + s) hG ha.1 (by omega) i (by omega)
      have hVi := hV.plB ha.1 hs.2 i (by omega) (by omega)
      have pi := plA_i (a := a) (s := 40 * a + s) hG.1 hG.2.1 i
      rw [b_FB_placeMissing_5, ex_some, and_t g0, gr2, ex_some, and_t (Or.inl (by omega)), if_neg (by omega), ex_some, and_t g0, gr2, ex_some, and_t ⟨⟨by omega, by omega⟩, by omega, by omega⟩, pr, ex_some, and_t pt, s_Piece_isPlaced pt, h.ri _ _ _ _ (l25 hp)]
      show Rn (d + 3) M_FB_placeMissing K X 25 [vR (some [1]), vR (some [4, a]), vR (some [4, a, 8, s]), vI (plA J a (40 * a + s) i).1, vI (i : Int)] [vI (if (plA J a (40 * a + s) i).2 25 (12 * (40 * a + s) + i) = -1 then 0 else 1)] (ty, ln, I, R, c, w)
      have k25 := hGi.1.k25 (12 * (40 * a + s) + i)
      rw [b_FB_placeMissing_25]
      by_cases c1 : (plA J a (40 * a + s) i).2 25 (12 * (40 * a + s) + i) = -1
      · rw [show plA J a (40 * a + s) (i + 1) = ((plA J a (40 * a + s) i).1 + (if bestJ (plA J a (40 * a + s) i).2 a (40 * a + s) 10 < 0 then 0 else 1), plJ (plA J a (40 * a + s) i).2 a (40 * a + s) i) from if_pos (by omega)] at ih'
        rw [if_pos c1, if_neg (fun z => z rfl), and_t f1]
        refine y_place h hGi hVi hp ?_
        intro I' h'
        have z := ih' I' h'
        show Rn (d + 3) M_FB_placeMissing K X 36 [vR (some [1]), vR (some [4, a]), vR (some [4, a, 8, s]), vI (plA J a (40 * a + s) i).1, vI (i : Int)] [vI (if bestJ (plA J a (40 * a + s) i).2 a (40 * a + s) 10 < 0 then 0 else 1)] (ty, ln, I', R, c, w)
        rw [b_FB_placeMissing_36]
        by_cases c2 : bestJ (plA J a (40 * a + s) i).2 a (40 * a + s) 10 < 0
        · rw [if_pos c2] at z ⊢
          rw [if_pos rfl, b_FB_placeMissing_42, w32_id (by omega) (by omega)]
          rw [show (plA J a (40 * a + s) i).1 + 0 = (plA J a (40 * a + s) i).1 by omega] at z
          exact z
        · rw [if_neg c2] at z ⊢
          rw [if_neg (by decide), b_FB_placeMissing_42, w32_id (x := (plA J a (40 * a + s) i).1 + 1) (by omega) (by omega), w32_id (by omega) (by omega)]
          exact z
      · rw [show plA J a (40 * a + s) (i + 1) = plA J a (40 * a + s) i from if_neg (by omega)] at ih'
        rw [if_neg c1, if_pos (by decide), b_FB_placeMissing_42, w32_id (by omega) (by omega)]
        exact ih' I h
  rw [in_FB_placeMissing, b_FB_placeMissing_0]
  exact key (J (-1) 3).toNat 0 (by omega) I h
set_option maxHeartbeats 1000000 in
theorem y_takeBack {d : Nat} {K : Kt} {X : Xt} {J : Int → Int → Int} {E : Nm → Int → Int} {ty : Nm → Nat} {ln : Nm → Int} {I : Nm → Int → Int} {R : Nm → Int → Option Nm} {c w : Nat} {a s j : Int} (h : RC J E ty ln I R) (hG : GI J) (hV : VI J) (hp : piJ J a s j) (k : ∀ I', RC (uJ (loseJ J a (12 * (40 * a + s) + j)) 25 (12 * (40 * a + s) + j) (-1)) E ty ln I' R → K none (ty, ln, I', R, c, w)) :
    Mth (d + 1) M_FB_takeBack [vR (some [1]), vR (some [4, a]), vR (some [4, a, 8, s, 3, j])] (ty, ln, I, R, c, w) K X := by
  have hs := hp.1
  have ha := hs.1
  obtain ⟨g0, ⟨gr0, gt0, gl0⟩, ⟨gr1, gt1, gl1⟩, ⟨gr2, gt2, gl2⟩, gp⟩ := h.sg a s hs
  obtain ⟨f1, fr0, fr1, fr2, fr3, fr4, fr5, ⟨ft0, fl0⟩, ⟨ft3, fl3⟩, ⟨ft4, fl4⟩, ⟨ft5, fl5⟩, ft16, fr160, fr161, ⟨ft160, fl160⟩, ⟨ft161, fl161⟩⟩ := id h.g.1
  obtain ⟨t0, ⟨r2, t2, ll2⟩, ⟨r3, t3, ll3⟩, ⟨r4, t4, ll4⟩, ⟨r5, t5, ll5⟩, rw5, ⟨r6, t6, ll6⟩, ⟨r7, t7⟩, ⟨r8, t8⟩, ⟨r9, t9⟩⟩ := h.hs a ha
  obtain ⟨pr, pt, -⟩ := gp j hp.2.1 hp.2.2.2
  have fin : ∀ (J' : Int → Int → Int) (I' : Nm → Int → Int), RC J' E ty ln I' R → piJ J' a s j → uJ (uJ J' 26 (12 * (40 * a + s) + j) 0) 25 (12 * (40 * a + s) + j) (-1) = uJ (loseJ J a (12 * (40 * a + s) + j)) 25 (12 * (40 * a + s) + j) (-1) → Rn d M_FB_takeBack K X 40 [vR (some [1]), vR (some [4, a]), vR (some [4, a, 8, s, 3, j])] [] (ty, ln, I', R, c, w) := by
    intro J' I' h' hp' e
    rw [b_FB_takeBack_40, ex_some, and_t ⟨Or.inl rfl, pt, rfl⟩, ex_some, and_t ⟨pt, rfl⟩]
    have z := (h'.up (v := 0) (l26 hp') (by decide)).up (v := -1) (l25 (piJ_c hp' (by rw [uJ_ne (by decide)]) (by rw [uJ_ne (by decide)]) (by rw [uJ_ne (by decide)]))) (by decide)
    rw [e] at z
    exact k _ z
  rw [in_FB_takeBack, b_FB_takeBack_0, ex_some, and_t pt, h.ri _ _ _ _ (l26 hp)]
  by_cases c1 : J 26 (12 * (40 * a + s) + j) = 0
  · rw [if_pos c1]
    refine fin J I h hp ?_
    rw [uJ_same (J := J) c1.symm]
    unfold loseJ
    rw [if_neg (fun z => z.2 c1)]
  · have b0 : 0 ≤ J 25 (12 * (40 * a + s) + j) := by
      by_cases z : 0 ≤ J 25 (12 * (40 * a + s) + j)
      · exact z
      · exact absurd ((hV.pi _ (by omega) (by omega)).1 (by omega)) c1
    have b1 := hG.1.k25 (12 * (40 * a + s) + j)
    have b2 := (hV.pi (12 * (40 * a + s) + j) (by omega) (by omega)).2 b0
    obtain ⟨b, hb⟩ : ∃ b, b = J 25 (12 * (40 * a + s) + j) := ⟨_, rfl⟩
    rw [← hb] at b0 b1 b2
    have hkb : hsJ J b := ⟨⟨b0, b1.2⟩, b2⟩
    obtain ⟨tb, -, ⟨rb3, tb3, lb3⟩, -⟩ := h.hs b hkb
    have hr := h.g.2.2.2.2.2.2.1 b b0 b1.2
    rw [if_pos b2] at hr
    have b10 := hG.1.k10 (10 * b + a)
    rw [if_neg c1, and_t f1, ex_some, and_t pt, fr0, ex_some, h.ri _ _ _ _ (l25 hp), ← hb, and_t ⟨⟨by omega, by omega⟩, by omega, by omega⟩, if_neg (by rw [hr]; simp), and_t f1, ex_some, and_t pt, ex_some, h.ri _ _ _ _ (l25 hp), ← hb, and_t ⟨⟨by omega, by omega⟩, by omega, by omega⟩, hr, ex_some, and_t tb, ex_some, and_t t0, rb3, ex_some, h.nm a ha, and_t ⟨Or.inl tb3, by omega, by omega⟩, ex_some, and_t ⟨tb3, rfl, by omega, by omega⟩, h.ri _ _ _ _ (l10 ⟨hkb, ha.1⟩), w32_id (by omega) (by omega)]
    refine fin _ _ (h.up (v := J 10 (10 * b + a) - 1) (l10 ⟨hkb, ha.1⟩) (by decide)) (piJ_c hp (by rw [uJ_ne (by decide)]) (by rw [uJ_ne (by decide)]) (by rw [uJ_ne (by decide)])) ?_
    unfold loseJ
    rw [if_pos ⟨by omega, c1⟩, ← hb, uJ_comm (k := 10) (k' := 26) (by decide)]
set_option maxHeartbeats 1000000 in
theorem y_auditSegment {d : Nat} {K : Kt} {X : Xt} {J : Int → Int → Int} {E : Nm → Int → Int} {ty : Nm → Nat} {ln : Nm → Int} {I : Nm → Int → Int} {R : Nm → Int → Option Nm} {c w : Nat} {a s : Int} (h : RC J E ty ln I R) (hG : GI J) (hV : VI J) (hs : sgJ J a s) (k : ∀ I', RC (auA J a (40 * a + s) (J (-1) 3).toNat).2 E ty ln I' R → K (some (vI (auA J a (40 * a + s) (J (-1) 3).toNat).1)) (ty, ln, I', R, c, w)) :
    Mth (d + 4) M_FB_auditSegment [vR (some [1]), vR (some [4, a]), vR (some [4, a, 8, s])] (ty, ln, I, R, c, w) K X := by
  have ha := hs.1
  obtain ⟨g0, ⟨gr0, gt0, gl0⟩, ⟨gr1, gt1, gl1⟩, ⟨gr2, gt2, gl2⟩, gp⟩ := h.sg a s hs
  obtain ⟨f1, fr0, fr1, fr2, fr3, fr4, fr5, ⟨ft0, fl0⟩, ⟨ft3, fl3⟩, ⟨ft4, fl4⟩, ⟨ft5, fl5⟩, ft16, fr160, fr161, ⟨ft160, fl160⟩, ⟨ft161, fl161⟩⟩ := id h.g.1
  have sc := h.g.2.2.2.2.2.2.2
  have key : ∀ q i : Nat, i + q = (J (-1) 3).toNat → ∀ I, RC (auA J a (40 * a + s) i).2 E ty ln I R → ∀ u5 : Vl, isLg u5 = false → Rn (d + 3) M_FB_auditSegment K X 5 [vR (some [1]), vR (some [4, a]), vR (some [4, a, 8, s]), vI (auA J a (40 * a + s) i).1, vI (i : Int), u5] [] (ty, ln, I, R, c, w) := by
    intro q
    induction q with
    | zero =>
      intro i hi I h u5 v5
      rw [b_FB_auditSegment_5 v5, ex_some, and_t g0, gr2, ex_some, and_t (Or.inl (by omega)), if_pos (by omega), show i = (J (-1) 3).toNat by omega]
      exact k I (by rw [← show i = (J (-1) 3).toNat by omega]; exact h)
    | succ q ih =>
      intro i hi I h u5 v5
      have ih' := ih (i + 1) (by omega)
      obtain ⟨pr, pt, -⟩ := gp i (by omega) (by omega)
      obtain ⟨hGi, i2, i3, i4, i5⟩ := auA_i (s := 40 * a + s) hG ha.1 (by omega) i (by omega)
      have hp : piJ (auA J a (40 * a + s) i).2 a s i := piJ_c (J := J) ⟨hs, by omega, by omega, by omega⟩ (i3 5 _ (by decide) (by decide) (by decide) (by decide)) (i3 20 _ (by decide) (by decide) (by decide) (by decide)) (i3 (-1) _ (by decide) (by decide) (by decide) (by decide))
      have hVi := hV.auS (a := a) (s := 40 * a + s) i
      rw [show auA J a (40 * a + s) (i + 1) = ((auA J a (40 * a + s) i).1 + (auP (auA J a (40 * a + s) i).2 a (40 * a + s) i).1, (auP (auA J a (40 * a + s) i).2 a (40 * a + s) i).2) from rfl] at ih'
      generalize (auA J a (40 * a + s) i).2 = J1 at h hGi hp hVi ih'
      generalize (auA J a (40 * a + s) i).1 = n1 at i4 i5 ih' ⊢
      have k25 := hGi.1.k25 (12 * (40 * a + s) + i)
      rw [b_FB_auditSegment_5 v5, ex_some, and_t g0, gr2, ex_some, and_t (Or.inl (by omega)), if_neg (by omega), ex_some, and_t g0, gr2, ex_some, and_t ⟨⟨by omega, by omega⟩, by omega, by omega⟩, pr, ex_some, and_t pt, and_t f1, h.ri _ _ _ _ (l25 hp), y_isUp h (hVi.pb hGi.1 _ (by omega) (by omega))]
      show Rn (d + 3) M_FB_auditSegment K X 33 [vR (some [1]), vR (some [4, a]), vR (some [4, a, 8, s]), vI n1, vI (i : Int), vR (some [4, a, 8, s, 3, (i : Int)])] [vI (if 0 ≤ J1 25 (12 * (40 * a + s) + i) ∧ J1 6 (J1 25 (12 * (40 * a + s) + i)) ≠ 0 then 1 else 0)] (ty, ln, I, R, c, w)
      rw [b_FB_auditSegment_33]
      have nx : ∀ (v : Int) (I' : Nm → Int → Int), RC (auP J1 a (40 * a + s) i).2 E ty ln I' R → v = n1 + (auP J1 a (40 * a + s) i).1 → Rn (d + 3) M_FB_auditSegment K X 69 [vR (some [1]), vR (some [4, a]), vR (some [4, a, 8, s]), vI v, vI (i : Int), vR (some [4, a, 8, s, 3, (i : Int)])] [] (ty, ln, I', R, c, w) := by
        intro v I' h' e
        rw [b_FB_auditSegment_69, w32_id (by omega) (by omega), e]
        exact ih' I' h' _ rfl
      by_cases c1 : 0 ≤ J1 25 (12 * (40 * a + s) + i) ∧ J1 6 (J1 25 (12 * (40 * a + s) + i)) ≠ 0
      · rw [if_pos c1, if_neg (by decide), ex_some, and_t pt, h.ri _ _ _ _ (l26 hp)]
        have tb : ∀ (J' : Int → Int → Int) (I' : Nm → Int → Int), RC J' E ty ln I' R → GI J' → VI J' → piJ J' a s i → auP J1 a (40 * a + s) i = (1, uJ (loseJ J' a (12 * (40 * a + s) + i)) 25 (12 * (40 * a + s) + i) (-1)) → Rn (d + 3) M_FB_auditSegment K X 59 [vR (some [1]), vR (some [4, a]), vR (some [4, a, 8, s]), vI n1, vI (i : Int), vR (some [4, a, 8, s, 3, (i : Int)])] [] (ty, ln, I', R, c, w) := by
          intro J' I' h' g' v' p' e
          rw [b_FB_auditSegment_59, and_t f1]
          refine y_takeBack h' g' v' p' ?_
          intro I2 h2
          show Rn (d + 3) M_FB_auditSegment K X 66 [vR (some [1]), vR (some [4, a]), vR (some [4, a, 8, s]), vI n1, vI (i : Int), vR (some [4, a, 8, s, 3, (i : Int)])] [] (ty, ln, I2, R, c, w)
          rw [b_FB_auditSegment_66, w32_id (by omega) (by omega)]
          exact nx _ _ (by rw [e]; exact h2) (by rw [e])
        by_cases c2 : J1 26 (12 * (40 * a + s) + i) = 0
        · rw [if_pos c2]
          refine tb J1 I h hGi hVi hp ?_
          unfold auP
          rw [if_pos c1, if_pos c2]
        · rw [if_neg c2, ex_some, and_t g0, and_t f1, gr1, y_isPieceOf h hGi.1 hp (Or.inr rfl)]
          have hm : RC (mpJ J1 24 (40 * a + s) i) E ty ln (duI J1 I (23 + 1) (40 * a + s) i) R := h.du.js (fun k x _ k1 _ _ _ _ => mpJ_o k1) (fun x _ _ => mpJ_o (by decide))
          show Rn (d + 3) M_FB_auditSegment K X 56 [vR (some [1]), vR (some [4, a]), vR (some [4, a, 8, s]), vI n1, vI (i : Int), vR (some [4, a, 8, s, 3, (i : Int)])] [vI (rtJ J1 24 (40 * a + s) i)] (ty, ln, duI J1 I (23 + 1) (40 * a + s) i, R, c, w)
          rw [b_FB_auditSegment_56]
          by_cases c3 : rtJ J1 24 (40 * a + s) i = 0
          · rw [if_neg (fun z => z c3)]
            refine tb _ _ hm hGi.mp (hVi.lost (fun k x hk => mpJ_o (by omega)) (fun x _ => mpJ_o (by decide)) (fun p _ _ => Or.inl ⟨mpJ_o (by decide), mpJ_o (by decide)⟩)) (piJ_c hp (mpJ_o (by decide)) (mpJ_o (by decide)) (mpJ_o (by decide))) ?_
            unfold auP
            rw [if_pos c1, if_neg c2, if_neg (fun z => z c3)]
          · have e : auP J1 a (40 * a + s) i = (0, mpJ J1 24 (40 * a + s) i) := by
              unfold auP
              rw [if_pos c1, if_neg c2, if_pos c3]
            rw [if_pos c3]
            exact nx _ _ (by rw [e]; exact hm) (by rw [e]; exact (Int.add_zero _).symm)
      · have e : auP J1 a (40 * a + s) i = (0, J1) := by
          unfold auP
          rw [if_neg c1]
        rw [if_neg c1, if_pos rfl]
        exact nx _ _ (by rw [e]; exact h) (by rw [e]; exact (Int.add_zero _).symm)
  rw [in_FB_auditSegment, b_FB_auditSegment_0]
  exact key (J (-1) 3).toNat 0 (by omega) I h vJ rfl
