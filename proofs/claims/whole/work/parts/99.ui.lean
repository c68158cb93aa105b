/-! ===== the roads of the law where the house is there ===== -/
theorem rmA_c {J J' : Int → Int → Int} {a : Int} (h : ∀ x, J' 13 x = J 13 x) : ∀ q : Nat, rmA J' a q = rmA J a q
  | 0 => rfl
  | q + 1 => by
    show rmA J' a q + _ = rmA J a q + _
    rw [rmA_c h q, h]
theorem slS_0 {J : Int → Int → Int} {a : Int} (h : JI J) (ha : 0 ≤ a ∧ a ≤ 9) : (slS J a).2 (-1) 0 = 0 := by
  unfold slS
  split
  · show uJ J (-1) 0 0 (-1) 0 = 0
    rw [uJ_self, upI_self]
  · obtain ⟨sl, hsl⟩ : ∃ sl, sl = frJ J a 6 := ⟨_, rfl⟩
    rw [← hsl]
    obtain ⟨J2, hJ2⟩ : ∃ x, x = wJ (uJ (uJ J (-1) 0 0) (-1) 30 60) 17 (10 * sl) (10 * sl + 10) (fun _ => -1) := ⟨_, rfl⟩
    rw [← hJ2]
    have j2o : ∀ k x, k ≠ -1 → k ≠ 17 → J2 k x = J k x := fun k x k1 k2 => by rw [hJ2, wJ_ne k2, uJ_ne k1, uJ_ne k1]
    have m30 : J2 (-1) 30 = 60 := by rw [hJ2, wJ_ne (by decide), uJ_self, upI_self]
    have m0 : J2 (-1) 0 = 0 := by rw [hJ2, wJ_ne (by decide), uJ_self, upI_ne _ _ (by decide), uJ_self, upI_self]
    have hSI : SI J2 a := by
      refine ⟨?_, fun c => by rw [j2o 18 c (by decide) (by decide), j2o 19 c (by decide) (by decide)]; exact h.2.2.1 c, by rw [m30]; decide, Or.inl m30⟩
      rw [hJ2]
      exact ((h.1.1.u (Or.inl rfl)).u (Or.inl rfl)).w (fun _ _ _ => ⟨by decide, by decide⟩)
    obtain ⟨t1, t2, t3, t4, t5, t6, t7⟩ := tgL_i (sl := sl) hSI ha 10 (Nat.le_refl _)
    have e : (tgL J2 a sl 10).2.2 (-1) 0 = 0 := by rw [t4 0 (by decide)]; exact m0
    have q1 : ∀ T : Int → Int → Int, uJ T 20 a (J 20 a) (-1) 0 = T (-1) 0 := fun T => by rw [uJ_ne (by decide)]
    have q2 : ∀ T : Int → Int → Int, sdJ T a sl (J 20 a) (-1) 0 = T (-1) 0 := fun T => by rw [sdJ_m, if_neg (by decide)]
    split
    · exact (q1 _).trans e
    · exact (q2 _).trans e
theorem slS_20 {J : Int → Int → Int} {a : Int} (h : JI J) (ha : 0 ≤ a ∧ a ≤ 9) : J 20 a ≤ (slS J a).2 20 a := by
  unfold slS
  split
  · show J 20 a ≤ uJ J (-1) 0 0 20 a
    rw [uJ_ne (by decide)]; exact Int.le_refl _
  · obtain ⟨sl, hsl⟩ : ∃ sl, sl = frJ J a 6 := ⟨_, rfl⟩
    rw [← hsl]
    obtain ⟨J2, hJ2⟩ : ∃ x, x = wJ (uJ (uJ J (-1) 0 0) (-1) 30 60) 17 (10 * sl) (10 * sl + 10) (fun _ => -1) := ⟨_, rfl⟩
    rw [← hJ2]
    have j2o : ∀ k x, k ≠ -1 → k ≠ 17 → J2 k x = J k x := fun k x k1 k2 => by rw [hJ2, wJ_ne k2, uJ_ne k1, uJ_ne k1]
    have m30 : J2 (-1) 30 = 60 := by rw [hJ2, wJ_ne (by decide), uJ_self, upI_self]
    have hSI : SI J2 a := by
      refine ⟨?_, fun c => by rw [j2o 18 c (by decide) (by decide), j2o 19 c (by decide) (by decide)]; exact h.2.2.1 c, by rw [m30]; decide, Or.inl m30⟩
      rw [hJ2]
      exact ((h.1.1.u (Or.inl rfl)).u (Or.inl rfl)).w (fun _ _ _ => ⟨by decide, by decide⟩)
    obtain ⟨t1, t2, t3, t4, t5, t6, t7⟩ := tgL_i (sl := sl) hSI ha 10 (Nat.le_refl _)
    rw [j2o 20 a (by decide) (by decide)] at t7
    have q1 : ∀ T : Int → Int → Int, uJ T 20 a (J 20 a) 20 a = J 20 a := fun T => by rw [uJ_self, upI_self]
    have q2 : ∀ T : Int → Int → Int, sdJ T a sl (J 20 a) 20 a = T 20 a := fun T => sdJ_o (by decide)
    split
    · exact Int.le_of_eq (q1 _).symm
    · exact Int.le_trans t7 (Int.le_of_eq (q2 _).symm)
theorem q_push {d : Nat} {K : Kt} {X : Xt} {S : Int → Int} {L t : Int} {J : Int → Int → Int} {ty : Nm → Nat} {ln : Nm → Int} {I : Nm → Int → Int} {R : Nm → Int → Option Nm} {c w : Nat} {i : Int} {u5 u6 : Vl} (q5 : isLg u5 = false) (q6 : isLg u6 = false) (h : LV S L t J ty ln I R c w) (hi : HI t i L) (ha : hsJ J (S (i + 1))) (k : NX d K X S L t i) : Rn (d + 11) M_La_law K X 570 [vR (some [-3]), vR (some [1]), vR (some [2]), vR (some [18]), vI i, u5, u6] [] (ty, ln, I, R, c, w) := by
  obtain ⟨l1, l2, l3, l4, l5, ⟨x1, x2, x3, x4, x5⟩, l7, l8, l9⟩ := id h
  have f1 : ty [1] = 100 := l3.g.1.1
  have hln := x2.2
  have hS : ty [-3] = 20 ∧ 0 ≤ i ∧ i + 6 ≤ ln [-3] ∧ ln [-3] ≤ 3072 := ⟨x2.1, by omega, by omega, by omega⟩
  have hcw := h.cw hi.1
  have eI : I = pJ I J := pJ_of x4 x5
  obtain ⟨a1, e1⟩ : ∃ a, a = S (i + 1) := ⟨_, rfl⟩
  have y1 : I [-3] (i + 1) = a1 := by rw [x3, e1]
  rw [← e1] at ha
  obtain ⟨J1, eJ⟩ : ∃ J1, J1 = uJ J (-1) 0 0 := ⟨_, rfl⟩
  have jf : ∀ k, k ≠ -1 → J1 k = J k := fun k hk => by rw [eJ, uJ_ne hk]
  have j : ∀ k x, k ≠ -1 → J1 k x = J k x := fun k x hk => by rw [jf k hk]
  have jm : ∀ x, x ≠ 0 → J1 (-1) x = J (-1) x := fun x hx => by rw [eJ, uJ_self, upI_ne _ _ hx]
  have j0 : J1 (-1) 0 = 0 := by rw [eJ, uJ_self, upI_self]
  have g1 : JI J1 := by rw [eJ]; exact l1.rf
  have c1 : RC J1 I ty ln I R := by rw [eJ]; exact h.j1
  have b1 : hsJ J1 a1 := by unfold hsJ; rw [jf 5 (by decide)]; exact ha
  have nh1 : NH J1 := l2.same (fun k x hk => j k x (by omega))
  rw [b_La_law_570 q5 q6, w32_id (x := i + 1) (by omega) (by omega), and_t ⟨Or.inr x2.1, by omega, by omega⟩, y1]
  refine w_push f1 ?_
  have no : ∀ kk : Int, kk ≠ 0 → (∀ (K' : Kt) (X' : Xt), Mth (d + 11) M_Mo_push [vR (some [2]), vI a1] (ty, ln, pJ I J, R, c - 1, w - 6) K' X' = K' (some (vI 0)) (ty, ln, pJ I (uJ J (-1) 0 kk), R, c - 1, w - 6)) → Rn (d + 11) M_La_law K X 581 [vR (some [-3]), vR (some [1]), vR (some [2]), vR (some [18]), vI i, u5, u6] [vI kk] (ty, ln, I, R, c - 1, w - 6) := fun kk hkk hm => by
    rw [eI]
    refine Eq.mpr (t_push (J' := uJ J (-1) 0 kk) (v := 0) q5 q6 hS l5 x1 y1 hm (by rw [uJ_self, upI_self]) (fun z => absurd z hkk)) ?_
    exact k _ _ _ _ _ _ _ _ _ rfl rfl (h.no hi.1.2)
  have ok : ∀ (y : Int) (J' : Int → Int → Int) (I1 : Nm → Int → Int), RC J' I ty ln I1 R → JI J' → NH J' → (∀ k x, k = 5 ∨ k = 15 ∨ k = 16 ∨ k = 17 ∨ k = 18 ∨ k = 19 ∨ k = 20 ∨ k = 23 → J' k x = J k x) → (∀ a, 0 ≤ a → a ≤ 9 → s10 (fun x => J' 13 (10 * a + x)) ≤ t + 1) → J' (-1) 0 = 0 → (∀ (K' : Kt) (X' : Xt), Mth (d + 11) M_Mo_push [vR (some [2]), vI a1] (ty, ln, pJ (up2 I1 [18] 0 y) J, R, c, w) K' X' = K' (some (vI y)) (ty, ln, pJ (up2 I1 [18] 0 y) J', R, c, w)) → kW (fun v h' => Rn (d + 11) M_La_law K X 581 [vR (some [-3]), vR (some [1]), vR (some [2]), vR (some [18]), vI i, u5, u6] (v.toList ++ []) h') (some (vI y)) (ty, ln, I1, R, c, w) := fun y J' I1 hc hJ hN hj hb h0 hm => by
    refine ⟨y, rfl, x1, ?_⟩
    show Rn (d + 11) M_La_law K X 581 [vR (some [-3]), vR (some [1]), vR (some [2]), vR (some [18]), vI i, u5, u6] [vI 0] (ty, ln, up2 I1 [18] 0 y, R, c, w)
    rw [pJ_e x4 x5 hc.ev]
    refine Eq.mpr (t_push (J' := J') (v := y) q5 q6 hS l5 x1 (yS hc.ev y1) hm h0 (fun _ => by rw [up2_self, upI_self])) ?_
    exact k _ _ _ _ _ _ _ _ _ rfl rfl (h.ok hJ hN hc hj hb hi.1.2)
  have k20 := l1.1.1.k20 a1
  refine z_push c1 g1.1 g1.2.1 b1 (fun p I1 hc => ?_) (fun p => ⟨hcw, Or.inr ⟨rfl, ?_⟩⟩)
  · have o : ∀ k x, k ≠ 31 ∧ k ≠ 27 ∧ k ≠ 29 ∧ k ≠ 28 ∧ k ≠ 25 ∧ k ≠ 26 ∧ k ≠ 10 ∧ k ≠ 8 → k ≠ -1 → (puA J1 a1 (J1 20 a1).toNat).2 k x = J k x := fun k x hk hk1 => by rw [puA_o hk, j k x hk1]
    refine ok _ _ I1 hc (g1.pu ha.1) (nh1.kw (a := a1) ⟨fun x => puA_o (by decide) _, fun k x hk hx => ?_, fun k x hk _ => puA_o (by omega) _, fun x _ => puA_o (by decide) _⟩ b1.2) (fun k x hk => o k x (by omega) (by omega)) (h.b13 (fun x => o 13 x (by decide) (by decide))) (by rw [(puA_i g1.1.1 g1.1.2.1 _).2.1]; exact j0) (fun K' X' => ?_)
    · by_cases z : k = 8
      · rw [z]; exact puA_8 hx _
      · exact puA_o (by omega) _
    · rw [jf 7 (by decide), jf 6 (by decide)] at p
      rw [m_push l5 l1.1.1 l1.1.2.1, if_pos ha, if_pos p, ← eJ, jf 20 (by decide)]
  · rw [jf 7 (by decide), jf 6 (by decide)] at p
    exact no 2 (by decide) (fun K' X' => by rw [m_push l5 l1.1.1 l1.1.2.1, if_pos ha, if_neg p])
theorem q_audit {d : Nat} {K : Kt} {X : Xt} {S : Int → Int} {L t : Int} {J : Int → Int → Int} {ty : Nm → Nat} {ln : Nm → Int} {I : Nm → Int → Int} {R : Nm → Int → Option Nm} {c w : Nat} {i : Int} {u5 u6 : Vl} (q5 : isLg u5 = false) (q6 : isLg u6 = false) (h : LV S L t J ty ln I R c w) (hi : HI t i L) (ha : hsJ J (S (i + 1))) (k : NX d K X S L t i) : Rn (d + 11) M_La_law K X 1007 [vR (some [-3]), vR (some [1]), vR (some [2]), vR (some [18]), vI i, u5, u6] [] (ty, ln, I, R, c, w) := by
  obtain ⟨l1, l2, l3, l4, l5, ⟨x1, x2, x3, x4, x5⟩, l7, l8, l9⟩ := id h
  have f1 : ty [1] = 100 := l3.g.1.1
  have hln := x2.2
  have hS : ty [-3] = 20 ∧ 0 ≤ i ∧ i + 6 ≤ ln [-3] ∧ ln [-3] ≤ 3072 := ⟨x2.1, by omega, by omega, by omega⟩
  have hcw := h.cw hi.1
  have eI : I = pJ I J := pJ_of x4 x5
  obtain ⟨a1, e1⟩ : ∃ a, a = S (i + 1) := ⟨_, rfl⟩
  have y1 : I [-3] (i + 1) = a1 := by rw [x3, e1]
  rw [← e1] at ha
  obtain ⟨J1, eJ⟩ : ∃ J1, J1 = uJ J (-1) 0 0 := ⟨_, rfl⟩
  have jf : ∀ k, k ≠ -1 → J1 k = J k := fun k hk => by rw [eJ, uJ_ne hk]
  have j : ∀ k x, k ≠ -1 → J1 k x = J k x := fun k x hk => by rw [jf k hk]
  have jm : ∀ x, x ≠ 0 → J1 (-1) x = J (-1) x := fun x hx => by rw [eJ, uJ_self, upI_ne _ _ hx]
  have j0 : J1 (-1) 0 = 0 := by rw [eJ, uJ_self, upI_self]
  have g1 : JI J1 := by rw [eJ]; exact l1.rf
  have c1 : RC J1 I ty ln I R := by rw [eJ]; exact h.j1
  have b1 : hsJ J1 a1 := by unfold hsJ; rw [jf 5 (by decide)]; exact ha
  have nh1 : NH J1 := l2.same (fun k x hk => j k x (by omega))
  rw [b_La_law_1007 q5 q6, w32_id (x := i + 1) (by omega) (by omega), and_t ⟨Or.inr x2.1, by omega, by omega⟩, y1]
  refine w_audit f1 ?_
  have no : ∀ kk : Int, kk ≠ 0 → (∀ (K' : Kt) (X' : Xt), Mth (d + 11) M_Mo_audit [vR (some [2]), vI a1] (ty, ln, pJ I J, R, c - 1, w - 6) K' X' = K' (some (vI 0)) (ty, ln, pJ I (uJ J (-1) 0 kk), R, c - 1, w - 6)) → Rn (d + 11) M_La_law K X 1018 [vR (some [-3]), vR (some [1]), vR (some [2]), vR (some [18]), vI i, u5, u6] [vI kk] (ty, ln, I, R, c - 1, w - 6) := fun kk hkk hm => by
    rw [eI]
    refine Eq.mpr (t_audit (J' := uJ J (-1) 0 kk) (v := 0) q5 q6 hS l5 x1 y1 hm (by rw [uJ_self, upI_self]) (fun z => absurd z hkk)) ?_
    exact k _ _ _ _ _ _ _ _ _ rfl rfl (h.no hi.1.2)
  have ok : ∀ (y : Int) (J' : Int → Int → Int) (I1 : Nm → Int → Int), RC J' I ty ln I1 R → JI J' → NH J' → (∀ k x, k = 5 ∨ k = 15 ∨ k = 16 ∨ k = 17 ∨ k = 18 ∨ k = 19 ∨ k = 20 ∨ k = 23 → J' k x = J k x) → (∀ a, 0 ≤ a → a ≤ 9 → s10 (fun x => J' 13 (10 * a + x)) ≤ t + 1) → J' (-1) 0 = 0 → (∀ (K' : Kt) (X' : Xt), Mth (d + 11) M_Mo_audit [vR (some [2]), vI a1] (ty, ln, pJ (up2 I1 [18] 0 y) J, R, c, w) K' X' = K' (some (vI y)) (ty, ln, pJ (up2 I1 [18] 0 y) J', R, c, w)) → kW (fun v h' => Rn (d + 11) M_La_law K X 1018 [vR (some [-3]), vR (some [1]), vR (some [2]), vR (some [18]), vI i, u5, u6] (v.toList ++ []) h') (some (vI y)) (ty, ln, I1, R, c, w) := fun y J' I1 hc hJ hN hj hb h0 hm => by
    refine ⟨y, rfl, x1, ?_⟩
    show Rn (d + 11) M_La_law K X 1018 [vR (some [-3]), vR (some [1]), vR (some [2]), vR (some [18]), vI i, u5, u6] [vI 0] (ty, ln, up2 I1 [18] 0 y, R, c, w)
    rw [pJ_e x4 x5 hc.ev]
    refine Eq.mpr (t_audit (J' := J') (v := y) q5 q6 hS l5 x1 (yS hc.ev y1) hm h0 (fun _ => by rw [up2_self, upI_self])) ?_
    exact k _ _ _ _ _ _ _ _ _ rfl rfl (h.ok hJ hN hc hj hb hi.1.2)
  have k20 := l1.1.1.k20 a1
  refine z_audit c1 g1.1 g1.2.1 b1 (fun p I1 hc => ?_) (fun p => ⟨hcw, Or.inr ⟨rfl, ?_⟩⟩)
  · obtain ⟨ag, am, ao, -, -⟩ := auB_i (a := a1) g1.1 ha.1 (J1 20 a1).toNat (by rw [jf 20 (by decide)]; omega)
    have o : ∀ k x, k ≠ 31 → k ≠ 26 → k ≠ 25 → k ≠ 10 → k ≠ -1 → (auB J1 a1 (J1 20 a1).toNat).2 k x = J k x := fun k x q1 q2 q3 q4 q5 => by rw [ao k x q1 q2 q3 q4, j k x q5]
    refine ok _ _ I1 hc (g1.aB ha.1) (nh1.same (fun k x hk => ao k x (by omega) (by omega) (by omega) (by omega))) (fun k x hk => o k x (by omega) (by omega) (by omega) (by omega) (by omega)) (h.b13 (fun x => o 13 x (by decide) (by decide) (by decide) (by decide) (by decide))) (by rw [am]; exact j0) (fun K' X' => ?_)
    rw [jf 7 (by decide)] at p
    rw [m_audit l5 l1.1, if_pos ha, if_pos p, ← eJ, jf 20 (by decide)]
  · rw [jf 7 (by decide)] at p
    exact no 2 (by decide) (fun K' X' => by rw [m_audit l5 l1.1, if_pos ha, if_neg p])
theorem q_repair {d : Nat} {K : Kt} {X : Xt} {S : Int → Int} {L t : Int} {J : Int → Int → Int} {ty : Nm → Nat} {ln : Nm → Int} {I : Nm → Int → Int} {R : Nm → Int → Option Nm} {c w : Nat} {i : Int} {u5 u6 : Vl} (q5 : isLg u5 = false) (q6 : isLg u6 = false) (h : LV S L t J ty ln I R c w) (hi : HI t i L) (ha : hsJ J (S (i + 1))) (k : NX d K X S L t i) : Rn (d + 11) M_La_law K X 1063 [vR (some [-3]), vR (some [1]), vR (some [2]), vR (some [18]), vI i, u5, u6] [] (ty, ln, I, R, c, w) := by
  obtain ⟨l1, l2, l3, l4, l5, ⟨x1, x2, x3, x4, x5⟩, l7, l8, l9⟩ := id h
  have f1 : ty [1] = 100 := l3.g.1.1
  have hln := x2.2
  have hS : ty [-3] = 20 ∧ 0 ≤ i ∧ i + 6 ≤ ln [-3] ∧ ln [-3] ≤ 3072 := ⟨x2.1, by omega, by omega, by omega⟩
  have hcw := h.cw hi.1
  have eI : I = pJ I J := pJ_of x4 x5
  obtain ⟨a1, e1⟩ : ∃ a, a = S (i + 1) := ⟨_, rfl⟩
  have y1 : I [-3] (i + 1) = a1 := by rw [x3, e1]
  rw [← e1] at ha
  obtain ⟨J1, eJ⟩ : ∃ J1, J1 = uJ J (-1) 0 0 := ⟨_, rfl⟩
  have jf : ∀ k, k ≠ -1 → J1 k = J k := fun k hk => by rw [eJ, uJ_ne hk]
  have j : ∀ k x, k ≠ -1 → J1 k x = J k x := fun k x hk => by rw [jf k hk]
  have jm : ∀ x, x ≠ 0 → J1 (-1) x = J (-1) x := fun x hx => by rw [eJ, uJ_self, upI_ne _ _ hx]
  have j0 : J1 (-1) 0 = 0 := by rw [eJ, uJ_self, upI_self]
  have g1 : JI J1 := by rw [eJ]; exact l1.rf
  have c1 : RC J1 I ty ln I R := by rw [eJ]; exact h.j1
  have b1 : hsJ J1 a1 := by unfold hsJ; rw [jf 5 (by decide)]; exact ha
  have nh1 : NH J1 := l2.same (fun k x hk => j k x (by omega))
  rw [b_La_law_1063 q5 q6, w32_id (x := i + 1) (by omega) (by omega), and_t ⟨Or.inr x2.1, by omega, by omega⟩, y1]
  refine w_repair f1 ?_
  have no : ∀ kk : Int, kk ≠ 0 → (∀ (K' : Kt) (X' : Xt), Mth (d + 11) M_Mo_repair [vR (some [2]), vI a1] (ty, ln, pJ I J, R, c - 1, w - 6) K' X' = K' (some (vI 0)) (ty, ln, pJ I (uJ J (-1) 0 kk), R, c - 1, w - 6)) → Rn (d + 11) M_La_law K X 1074 [vR (some [-3]), vR (some [1]), vR (some [2]), vR (some [18]), vI i, u5, u6] [vI kk] (ty, ln, I, R, c - 1, w - 6) := fun kk hkk hm => by
    rw [eI]
    refine Eq.mpr (t_repair (J' := uJ J (-1) 0 kk) (v := 0) q5 q6 hS l5 x1 y1 hm (by rw [uJ_self, upI_self]) (fun z => absurd z hkk)) ?_
    exact k _ _ _ _ _ _ _ _ _ rfl rfl (h.no hi.1.2)
  have ok : ∀ (y : Int) (J' : Int → Int → Int) (I1 : Nm → Int → Int), RC J' I ty ln I1 R → JI J' → NH J' → (∀ k x, k = 5 ∨ k = 15 ∨ k = 16 ∨ k = 17 ∨ k = 18 ∨ k = 19 ∨ k = 20 ∨ k = 23 → J' k x = J k x) → (∀ a, 0 ≤ a → a ≤ 9 → s10 (fun x => J' 13 (10 * a + x)) ≤ t + 1) → J' (-1) 0 = 0 → (∀ (K' : Kt) (X' : Xt), Mth (d + 11) M_Mo_repair [vR (some [2]), vI a1] (ty, ln, pJ (up2 I1 [18] 0 y) J, R, c, w) K' X' = K' (some (vI y)) (ty, ln, pJ (up2 I1 [18] 0 y) J', R, c, w)) → kW (fun v h' => Rn (d + 11) M_La_law K X 1074 [vR (some [-3]), vR (some [1]), vR (some [2]), vR (some [18]), vI i, u5, u6] (v.toList ++ []) h') (some (vI y)) (ty, ln, I1, R, c, w) := fun y J' I1 hc hJ hN hj hb h0 hm => by
    refine ⟨y, rfl, x1, ?_⟩
    show Rn (d + 11) M_La_law K X 1074 [vR (some [-3]), vR (some [1]), vR (some [2]), vR (some [18]), vI i, u5, u6] [vI 0] (ty, ln, up2 I1 [18] 0 y, R, c, w)
    rw [pJ_e x4 x5 hc.ev]
    refine Eq.mpr (t_repair (J' := J') (v := y) q5 q6 hS l5 x1 (yS hc.ev y1) hm h0 (fun _ => by rw [up2_self, upI_self])) ?_
    exact k _ _ _ _ _ _ _ _ _ rfl rfl (h.ok hJ hN hc hj hb hi.1.2)
  have k20 := l1.1.1.k20 a1
  refine z_repair c1 g1.1 g1.2.1 pv_ok b1 (fun p I1 hc => ?_) (fun p => ⟨hcw, Or.inr ⟨rfl, ?_⟩⟩)
  · have am := (rpA_i (a := a1) g1.1 ha.1 (J1 20 a1).toNat (by rw [jf 20 (by decide)]; omega)).2.1
    refine ok _ _ I1 hc (g1.rp ha.1) (nh1.kw (a := a1) ⟨fun x => rpA_w (Or.inl (by unfold rpK; omega)) _, fun k x hk hx => rpA_w (by unfold rpK; omega) _, fun k x hk _ => rpA_w (Or.inl (by unfold rpK; omega)) _, fun x _ => rpA_w (Or.inl (by unfold rpK; omega)) _⟩ b1.2) (fun k x hk => by rw [rpA_w (Or.inl (by unfold rpK; omega)), j k x (by omega)]) (h.b13 (fun x => by rw [rpA_w (Or.inl (by unfold rpK; omega)), j 13 x (by decide)])) (by rw [am]; exact j0) (fun K' X' => ?_)
    rw [jf 7 (by decide), jf 6 (by decide)] at p
    rw [m_repair l5 pv_ok l1.1, if_pos ha, if_pos p, ← eJ, jf 20 (by decide)]
  · rw [jf 7 (by decide), jf 6 (by decide)] at p
    exact no 2 (by decide) (fun K' X' => by rw [m_repair l5 pv_ok l1.1, if_pos ha, if_neg p])
theorem q_up {d : Nat} {K : Kt} {X : Xt} {S : Int → Int} {L t : Int} {J : Int → Int → Int} {ty : Nm → Nat} {ln : Nm → Int} {I : Nm → Int → Int} {R : Nm → Int → Option Nm} {c w : Nat} {i : Int} {u5 u6 : Vl} (q5 : isLg u5 = false) (q6 : isLg u6 = false) (h : LV S L t J ty ln I R c w) (hi : HI t i L) (ha : hsJ J (S (i + 1))) (k : NX d K X S L t i) : Rn (d + 11) M_La_law K X 626 [vR (some [-3]), vR (some [1]), vR (some [2]), vR (some [18]), vI i, u5, u6] [] (ty, ln, I, R, c, w) := by
  obtain ⟨l1, l2, l3, l4, l5, ⟨x1, x2, x3, x4, x5⟩, l7, l8, l9⟩ := id h
  have f1 : ty [1] = 100 := l3.g.1.1
  have hln := x2.2
  have hS : ty [-3] = 20 ∧ 0 ≤ i ∧ i + 6 ≤ ln [-3] ∧ ln [-3] ≤ 3072 := ⟨x2.1, by omega, by omega, by omega⟩
  have hcw := h.cw hi.1
  have eI : I = pJ I J := pJ_of x4 x5
  obtain ⟨a1, e1⟩ : ∃ a, a = S (i + 1) := ⟨_, rfl⟩
  have y1 : I [-3] (i + 1) = a1 := by rw [x3, e1]
  obtain ⟨z2, e2⟩ : ∃ a, a = S (i + 2) := ⟨_, rfl⟩
  have y2 : I [-3] (i + 2) = z2 := by rw [x3, e2]
  obtain ⟨a2, ea⟩ : ∃ a, a = if z2 = 0 then (0 : Int) else 1 := ⟨_, rfl⟩
  have hx : a2 = 0 ∨ a2 = 1 := by rw [ea]; split <;> decide
  rw [← e1] at ha
  obtain ⟨J1, eJ⟩ : ∃ J1, J1 = uJ J (-1) 0 0 := ⟨_, rfl⟩
  have jf : ∀ k, k ≠ -1 → J1 k = J k := fun k hk => by rw [eJ, uJ_ne hk]
  have j : ∀ k x, k ≠ -1 → J1 k x = J k x := fun k x hk => by rw [jf k hk]
  have jm : ∀ x, x ≠ 0 → J1 (-1) x = J (-1) x := fun x hx => by rw [eJ, uJ_self, upI_ne _ _ hx]
  have j0 : J1 (-1) 0 = 0 := by rw [eJ, uJ_self, upI_self]
  have g1 : JI J1 := by rw [eJ]; exact l1.rf
  have c1 : RC J1 I ty ln I R := by rw [eJ]; exact h.j1
  have b1 : hsJ J1 a1 := by unfold hsJ; rw [jf 5 (by decide)]; exact ha
  have nh1 : NH J1 := l2.same (fun k x hk => j k x (by omega))
  rw [b_La_law_626 q5 q6, w32_id (x := i + 1) (by omega) (by omega), w32_id (x := i + 2) (by omega) (by omega), and_t ⟨Or.inr x2.1, by omega, by omega⟩, and_t ⟨Or.inr x2.1, by omega, by omega⟩, y1, y2]
  suffices hh : Mth (d + 11) M_La_up [vR (some [1]), vI a1, vI a2, vR (some [18])] (ty, ln, I, R, c, w) (fun v h' => Rn (d + 11) M_La_law K X 651 [vR (some [-3]), vR (some [1]), vR (some [2]), vR (some [18]), vI i, u5, u6] (v.toList ++ []) h') X by
    by_cases z : z2 = 0
    · rw [if_pos z] at ea
      rw [ea] at hh
      rw [if_pos z, b_La_law_647 q5 q6]; exact hh
    · rw [if_neg z] at ea
      rw [ea] at hh
      rw [if_neg z, b_La_law_647 q5 q6]; exact hh
  refine w_up f1 ?_
  have no : ∀ kk : Int, kk ≠ 0 → (∀ (K' : Kt) (X' : Xt), Mth (d + 11) M_Mo_up [vR (some [2]), vI a1, vI a2] (ty, ln, pJ I J, R, c - 1, w - 6) K' X' = K' (some (vI 0)) (ty, ln, pJ I (uJ J (-1) 0 kk), R, c - 1, w - 6)) → Rn (d + 11) M_La_law K X 651 [vR (some [-3]), vR (some [1]), vR (some [2]), vR (some [18]), vI i, u5, u6] [vI kk] (ty, ln, I, R, c - 1, w - 6) := fun kk hkk hm => by
    rw [eI]
    refine Eq.mpr (t_up (J' := uJ J (-1) 0 kk) (v := 0) q5 q6 hS l5 x1 y1 y2 (fun K' X' => by rw [← ea]; exact hm K' X') (by rw [uJ_self, upI_self]) (fun z => absurd z hkk)) ?_
    exact k _ _ _ _ _ _ _ _ _ rfl rfl (h.no hi.1.2)
  have ok : ∀ (y : Int) (J' : Int → Int → Int) (I1 : Nm → Int → Int), RC J' I ty ln I1 R → JI J' → NH J' → (∀ k x, k = 5 ∨ k = 15 ∨ k = 16 ∨ k = 17 ∨ k = 18 ∨ k = 19 ∨ k = 20 ∨ k = 23 → J' k x = J k x) → (∀ a, 0 ≤ a → a ≤ 9 → s10 (fun x => J' 13 (10 * a + x)) ≤ t + 1) → J' (-1) 0 = 0 → (y = 0 ∨ y = 1) → (∀ (K' : Kt) (X' : Xt), Mth (d + 11) M_Mo_up [vR (some [2]), vI a1, vI a2] (ty, ln, pJ (up2 I1 [18] 0 y) J, R, c, w) K' X' = K' (some (vI y)) (ty, ln, pJ (up2 I1 [18] 0 y) J', R, c, w)) → kB (fun v h' => Rn (d + 11) M_La_law K X 651 [vR (some [-3]), vR (some [1]), vR (some [2]), vR (some [18]), vI i, u5, u6] (v.toList ++ []) h') (some (vI y)) (ty, ln, I1, R, c, w) := fun y J' I1 hc hJ hN hj hb h0 hy hm => by
    refine ⟨y, rfl, hy, x1, ?_⟩
    show Rn (d + 11) M_La_law K X 651 [vR (some [-3]), vR (some [1]), vR (some [2]), vR (some [18]), vI i, u5, u6] [vI 0] (ty, ln, up2 I1 [18] 0 y, R, c, w)
    rw [pJ_e x4 x5 hc.ev]
    refine Eq.mpr (t_up (J' := J') (v := y) q5 q6 hS l5 x1 (yS hc.ev y1) (yS hc.ev y2) (fun K' X' => by rw [← ea]; exact hm K' X') h0 (fun _ => ⟨by rw [up2_self, upI_self], hy⟩)) ?_
    exact k _ _ _ _ _ _ _ _ _ rfl rfl (h.ok hJ hN hc hj hb hi.1.2)
  have k6 : ∀ x, J 6 x = 0 ∨ J 6 x = 1 := fun x => by have := l1.1.1.k6 x; omega
  refine z_up c1 g1.1 g1.2.1 b1 hx (fun I1 hc => ?_)
  have o : ∀ k x, k ≠ 6 → k ≠ -1 → uJ J1 6 a1 a2 k x = J k x := fun k x h1 h2 => by rw [uJ_ne h1, j k x h2]
  refine ok _ _ I1 hc (g1.one (by decide) (by rcases hx with z | z <;> rw [z] <;> exact ⟨by decide, by decide⟩)) (nh1.same (fun k x hk => by rw [uJ_ne (by omega)])) (fun k x hk => o k x (by omega) (by omega)) (h.b13 (fun x => o 13 x (by decide) (by decide))) (by rw [uJ_ne (by decide)]; exact j0) (by rw [jf 6 (by decide)]; exact k6 a1) (fun K' X' => ?_)
  rw [m_up l5 k6 hx, if_pos ha, ← eJ, jf 6 (by decide)]
theorem q_loseDisk {d : Nat} {K : Kt} {X : Xt} {S : Int → Int} {L t : Int} {J : Int → Int → Int} {ty : Nm → Nat} {ln : Nm → Int} {I : Nm → Int → Int} {R : Nm → Int → Option Nm} {c w : Nat} {i : Int} {u5 u6 : Vl} (q5 : isLg u5 = false) (q6 : isLg u6 = false) (h : LV S L t J ty ln I R c w) (hi : HI t i L) (ha : hsJ J (S (i + 1))) (k : NX d K X S L t i) : Rn (d + 11) M_La_law K X 717 [vR (some [-3]), vR (some [1]), vR (some [2]), vR (some [18]), vI i, u5, u6] [] (ty, ln, I, R, c, w) := by
  obtain ⟨l1, l2, l3, l4, l5, ⟨x1, x2, x3, x4, x5⟩, l7, l8, l9⟩ := id h
  have f1 : ty [1] = 100 := l3.g.1.1
  have hln := x2.2
  have hS : ty [-3] = 20 ∧ 0 ≤ i ∧ i + 6 ≤ ln [-3] ∧ ln [-3] ≤ 3072 := ⟨x2.1, by omega, by omega, by omega⟩
  have hcw := h.cw hi.1
  have eI : I = pJ I J := pJ_of x4 x5
  obtain ⟨a1, e1⟩ : ∃ a, a = S (i + 1) := ⟨_, rfl⟩
  have y1 : I [-3] (i + 1) = a1 := by rw [x3, e1]
  rw [← e1] at ha
  obtain ⟨J1, eJ⟩ : ∃ J1, J1 = uJ J (-1) 0 0 := ⟨_, rfl⟩
  have jf : ∀ k, k ≠ -1 → J1 k = J k := fun k hk => by rw [eJ, uJ_ne hk]
  have j : ∀ k x, k ≠ -1 → J1 k x = J k x := fun k x hk => by rw [jf k hk]
  have jm : ∀ x, x ≠ 0 → J1 (-1) x = J (-1) x := fun x hx => by rw [eJ, uJ_self, upI_ne _ _ hx]
  have j0 : J1 (-1) 0 = 0 := by rw [eJ, uJ_self, upI_self]
  have g1 : JI J1 := by rw [eJ]; exact l1.rf
  have c1 : RC J1 I ty ln I R := by rw [eJ]; exact h.j1
  have b1 : hsJ J1 a1 := by unfold hsJ; rw [jf 5 (by decide)]; exact ha
  have nh1 : NH J1 := l2.same (fun k x hk => j k x (by omega))
  rw [b_La_law_717 q5 q6, w32_id (x := i + 1) (by omega) (by omega), and_t ⟨Or.inr x2.1, by omega, by omega⟩, y1]
  refine w_loseDisk f1 ?_
  have no : ∀ kk : Int, kk ≠ 0 → (∀ (K' : Kt) (X' : Xt), Mth (d + 11) M_Mo_loseDisk [vR (some [2]), vI a1] (ty, ln, pJ I J, R, c - 1, w - 6) K' X' = K' none (ty, ln, pJ I (uJ J (-1) 0 kk), R, c - 1, w - 6)) → Rn (d + 11) M_La_law K X 727 [vR (some [-3]), vR (some [1]), vR (some [2]), vR (some [18]), vI i, u5, u6] [vI kk] (ty, ln, I, R, c - 1, w - 6) := fun kk hkk hm => by
    rw [eI]
    refine Eq.mpr (t_loseDisk (J' := uJ J (-1) 0 kk) q5 q6 hS l5 x1 y1 hm (by rw [uJ_self, upI_self])) ?_
    exact k _ _ _ _ _ _ _ _ _ rfl q6 (h.no hi.1.2)
  refine z_loseDisk c1 g1.1 g1.2.1 b1 (fun I1 hc => ⟨rfl, ?_⟩)
  show Rn (d + 11) M_La_law K X 727 [vR (some [-3]), vR (some [1]), vR (some [2]), vR (some [18]), vI i, u5, u6] [vI 0] (ty, ln, I1, R, c, w)
  have eI1 : I1 = pJ I1 J := pJ_of (by rw [← x4]; funext x; exact hc.ev _ _ (Or.inl (by decide))) (fun k hk => by rw [← x5 k hk]; funext x; exact hc.ev _ _ (Or.inl (Or.inr (Or.inl rfl))))
  rw [eI1]
  refine Eq.mpr (t_loseDisk (J' := lsJ J1 a1) (x1 := a1) q5 q6 hS l5 x1 (by rw [hc.ev _ _ (Or.inl (by decide))]; exact y1) (fun K' X' => by rw [m_loseDisk l5 l1.1, if_pos ha, ← eJ]) ?_) ?_
  · unfold lsJ
    rw [uJ_ne (by decide), wJ_ne (by decide), wJ_ne (by decide), (ldJ_i (a := a1) g1.1 4800 (Nat.le_refl _)).2.1]
    exact j0
  · exact k _ _ _ _ _ _ _ _ _ rfl q6 (h.go (g1.ls ha.1) (nh1.kw (a := a1) ⟨fun x => lsJ_w g1.1 (by omega), fun k x hk hx => lsJ_w g1.1 (by omega), fun k x hk hx => lsJ_w g1.1 (by omega), fun x _ => lsJ_w g1.1 (by omega)⟩ b1.2) hc (fun n x h2 h3 _ => by rw [pJ_o h2 h3]) ⟨pJ_m, fun k hk => pJ_a hk⟩ (fun k x hk => by rw [lsJ_w g1.1 (by omega), j k x (by omega)]) (h.b13 (fun x => by rw [lsJ_w g1.1 (by omega), j 13 x (by decide)])) (Or.inl rfl) (Or.inl rfl) hi.1.2)
theorem q_stored {d : Nat} {K : Kt} {X : Xt} {S : Int → Int} {L t : Int} {J : Int → Int → Int} {ty : Nm → Nat} {ln : Nm → Int} {I : Nm → Int → Int} {R : Nm → Int → Option Nm} {c w : Nat} {i : Int} {u5 u6 : Vl} (q5 : isLg u5 = false) (q6 : isLg u6 = false) (h : LV S L t J ty ln I R c w) (hi : HI t i L) (ha : hsJ J (S (i + 1))) (k : NX d K X S L t i) : Rn (d + 11) M_La_law K X 1508 [vR (some [-3]), vR (some [1]), vR (some [2]), vR (some [18]), vI i, u5, u6] [] (ty, ln, I, R, c, w) := by
  obtain ⟨l1, l2, l3, l4, l5, ⟨x1, x2, x3, x4, x5⟩, l7, l8, l9⟩ := id h
  have f1 : ty [1] = 100 := l3.g.1.1
  have hln := x2.2
  have hS : ty [-3] = 20 ∧ 0 ≤ i ∧ i + 6 ≤ ln [-3] ∧ ln [-3] ≤ 3072 := ⟨x2.1, by omega, by omega, by omega⟩
  have hcw := h.cw hi.1
  have eI : I = pJ I J := pJ_of x4 x5
  obtain ⟨a1, e1⟩ : ∃ a, a = S (i + 1) := ⟨_, rfl⟩
  have y1 : I [-3] (i + 1) = a1 := by rw [x3, e1]
  obtain ⟨a2, e2⟩ : ∃ a, a = S (i + 2) := ⟨_, rfl⟩
  have y2 : I [-3] (i + 2) = a2 := by rw [x3, e2]
  rw [← e1] at ha
  obtain ⟨J1, eJ⟩ : ∃ J1, J1 = uJ J (-1) 0 0 := ⟨_, rfl⟩
  have jf : ∀ k, k ≠ -1 → J1 k = J k := fun k hk => by rw [eJ, uJ_ne hk]
  have j : ∀ k x, k ≠ -1 → J1 k x = J k x := fun k x hk => by rw [jf k hk]
  have jm : ∀ x, x ≠ 0 → J1 (-1) x = J (-1) x := fun x hx => by rw [eJ, uJ_self, upI_ne _ _ hx]
  have j0 : J1 (-1) 0 = 0 := by rw [eJ, uJ_self, upI_self]
  have g1 : JI J1 := by rw [eJ]; exact l1.rf
  have c1 : RC J1 I ty ln I R := by rw [eJ]; exact h.j1
  have b1 : hsJ J1 a1 := by unfold hsJ; rw [jf 5 (by decide)]; exact ha
  have nh1 : NH J1 := l2.same (fun k x hk => j k x (by omega))
  rw [b_La_law_1508 q5 q6, w32_id (x := i + 1) (by omega) (by omega), w32_id (x := i + 2) (by omega) (by omega), and_t ⟨Or.inr x2.1, by omega, by omega⟩, and_t ⟨Or.inr x2.1, by omega, by omega⟩, y1, y2]
  refine w_stored f1 ?_
  have no : ∀ kk : Int, kk ≠ 0 → (∀ (K' : Kt) (X' : Xt), Mth (d + 11) M_Mo_stored [vR (some [2]), vI a1, vI a2] (ty, ln, pJ I J, R, c - 1, w - 6) K' X' = K' (some (vI 0)) (ty, ln, pJ I (uJ J (-1) 0 kk), R, c - 1, w - 6)) → Rn (d + 11) M_La_law K X 1525 [vR (some [-3]), vR (some [1]), vR (some [2]), vR (some [18]), vI i, u5, u6] [vI kk] (ty, ln, I, R, c - 1, w - 6) := fun kk hkk hm => by
    rw [eI]
    refine Eq.mpr (t_stored (J' := uJ J (-1) 0 kk) (v := 0) q5 q6 hS l5 x1 y1 y2 hm (by rw [uJ_self, upI_self]) (fun z => absurd z hkk)) ?_
    exact k _ _ _ _ _ _ _ _ _ rfl rfl (h.no hi.1.2)
  have ok : ∀ (y : Int) (J' : Int → Int → Int) (I1 : Nm → Int → Int), RC J' I ty ln I1 R → JI J' → NH J' → (∀ k x, k = 5 ∨ k = 15 ∨ k = 16 ∨ k = 17 ∨ k = 18 ∨ k = 19 ∨ k = 20 ∨ k = 23 → J' k x = J k x) → (∀ a, 0 ≤ a → a ≤ 9 → s10 (fun x => J' 13 (10 * a + x)) ≤ t + 1) → J' (-1) 0 = 0 → (∀ (K' : Kt) (X' : Xt), Mth (d + 11) M_Mo_stored [vR (some [2]), vI a1, vI a2] (ty, ln, pJ (up2 I1 [18] 0 y) J, R, c, w) K' X' = K' (some (vI y)) (ty, ln, pJ (up2 I1 [18] 0 y) J', R, c, w)) → kW (fun v h' => Rn (d + 11) M_La_law K X 1525 [vR (some [-3]), vR (some [1]), vR (some [2]), vR (some [18]), vI i, u5, u6] (v.toList ++ []) h') (some (vI y)) (ty, ln, I1, R, c, w) := fun y J' I1 hc hJ hN hj hb h0 hm => by
    refine ⟨y, rfl, x1, ?_⟩
    show Rn (d + 11) M_La_law K X 1525 [vR (some [-3]), vR (some [1]), vR (some [2]), vR (some [18]), vI i, u5, u6] [vI 0] (ty, ln, up2 I1 [18] 0 y, R, c, w)
    rw [pJ_e x4 x5 hc.ev]
    refine Eq.mpr (t_stored (J' := J') (v := y) q5 q6 hS l5 x1 (yS hc.ev y1) (yS hc.ev y2) hm h0 (fun _ => by rw [up2_self, upI_self])) ?_
    exact k _ _ _ _ _ _ _ _ _ rfl rfl (h.ok hJ hN hc hj hb hi.1.2)
  refine z_stored c1 g1.1 g1.2.1 b1 (fun p => ?_) (fun p => ⟨hcw, rfl, ?_⟩)
  · unfold hsJ at p
    rw [jf 5 (by decide)] at p
    refine ok _ J1 I c1 g1 nh1 (fun k x hk => j k x (by omega)) (h.b13 (fun x => j 13 x (by decide))) j0 (fun K' X' => ?_)
    rw [m_stored l5, if_pos ⟨ha, p⟩, ← eJ, jf 10 (by decide)]
  · rw [jf 5 (by decide)] at p
    exact no 1 (by decide) (fun K' X' => by rw [m_stored l5, if_neg (fun z => p z.2)])
theorem q_balance {d : Nat} {K : Kt} {X : Xt} {S : Int → Int} {L t : Int} {J : Int → Int → Int} {ty : Nm → Nat} {ln : Nm → Int} {I : Nm → Int → Int} {R : Nm → Int → Option Nm} {c w : Nat} {i : Int} {u5 u6 : Vl} (q5 : isLg u5 = false) (q6 : isLg u6 = false) (h : LV S L t J ty ln I R c w) (hi : HI t i L) (ha : hsJ J (S (i + 1))) (k : NX d K X S L t i) : Rn (d + 11) M_La_law K X 1612 [vR (some [-3]), vR (some [1]), vR (some [2]), vR (some [18]), vI i, u5, u6] [] (ty, ln, I, R, c, w) := by
  obtain ⟨l1, l2, l3, l4, l5, ⟨x1, x2, x3, x4, x5⟩, l7, l8, l9⟩ := id h
  have f1 : ty [1] = 100 := l3.g.1.1
  have hln := x2.2
  have hS : ty [-3] = 20 ∧ 0 ≤ i ∧ i + 6 ≤ ln [-3] ∧ ln [-3] ≤ 3072 := ⟨x2.1, by omega, by omega, by omega⟩
  have hcw := h.cw hi.1
  have eI : I = pJ I J := pJ_of x4 x5
  obtain ⟨a1, e1⟩ : ∃ a, a = S (i + 1) := ⟨_, rfl⟩
  have y1 : I [-3] (i + 1) = a1 := by rw [x3, e1]
  obtain ⟨a2, e2⟩ : ∃ a, a = S (i + 2) := ⟨_, rfl⟩
  have y2 : I [-3] (i + 2) = a2 := by rw [x3, e2]
  rw [← e1] at ha
  obtain ⟨J1, eJ⟩ : ∃ J1, J1 = uJ J (-1) 0 0 := ⟨_, rfl⟩
  have jf : ∀ k, k ≠ -1 → J1 k = J k := fun k hk => by rw [eJ, uJ_ne hk]
  have j : ∀ k x, k ≠ -1 → J1 k x = J k x := fun k x hk => by rw [jf k hk]
  have jm : ∀ x, x ≠ 0 → J1 (-1) x = J (-1) x := fun x hx => by rw [eJ, uJ_self, upI_ne _ _ hx]
  have j0 : J1 (-1) 0 = 0 := by rw [eJ, uJ_self, upI_self]
  have g1 : JI J1 := by rw [eJ]; exact l1.rf
  have c1 : RC J1 I ty ln I R := by rw [eJ]; exact h.j1
  have b1 : hsJ J1 a1 := by unfold hsJ; rw [jf 5 (by decide)]; exact ha
  have nh1 : NH J1 := l2.same (fun k x hk => j k x (by omega))
  rw [b_La_law_1612 q5 q6, w32_id (x := i + 1) (by omega) (by omega), w32_id (x := i + 2) (by omega) (by omega), and_t ⟨Or.inr x2.1, by omega, by omega⟩, and_t ⟨Or.inr x2.1, by omega, by omega⟩, y1, y2]
  refine w_balance f1 ?_
  have no : ∀ kk : Int, kk ≠ 0 → (∀ (K' : Kt) (X' : Xt), Mth (d + 11) M_Mo_balance [vR (some [2]), vI a1, vI a2] (ty, ln, pJ I J, R, c - 1, w - 6) K' X' = K' (some (vI 0)) (ty, ln, pJ I (uJ J (-1) 0 kk), R, c - 1, w - 6)) → Rn (d + 11) M_La_law K X 1629 [vR (some [-3]), vR (some [1]), vR (some [2]), vR (some [18]), vI i, u5, u6] [vI kk] (ty, ln, I, R, c - 1, w - 6) := fun kk hkk hm => by
    rw [eI]
    refine Eq.mpr (t_balance (J' := uJ J (-1) 0 kk) (v := 0) q5 q6 hS l5 x1 y1 y2 hm (by rw [uJ_self, upI_self]) (fun z => absurd z hkk)) ?_
    exact k _ _ _ _ _ _ _ _ _ rfl rfl (h.no hi.1.2)
  have ok : ∀ (y : Int) (J' : Int → Int → Int) (I1 : Nm → Int → Int), RC J' I ty ln I1 R → JI J' → NH J' → (∀ k x, k = 5 ∨ k = 15 ∨ k = 16 ∨ k = 17 ∨ k = 18 ∨ k = 19 ∨ k = 20 ∨ k = 23 → J' k x = J k x) → (∀ a, 0 ≤ a → a ≤ 9 → s10 (fun x => J' 13 (10 * a + x)) ≤ t + 1) → J' (-1) 0 = 0 → (∀ (K' : Kt) (X' : Xt), Mth (d + 11) M_Mo_balance [vR (some [2]), vI a1, vI a2] (ty, ln, pJ (up2 I1 [18] 0 y) J, R, c, w) K' X' = K' (some (vI y)) (ty, ln, pJ (up2 I1 [18] 0 y) J', R, c, w)) → kW (fun v h' => Rn (d + 11) M_La_law K X 1629 [vR (some [-3]), vR (some [1]), vR (some [2]), vR (some [18]), vI i, u5, u6] (v.toList ++ []) h') (some (vI y)) (ty, ln, I1, R, c, w) := fun y J' I1 hc hJ hN hj hb h0 hm => by
    refine ⟨y, rfl, x1, ?_⟩
    show Rn (d + 11) M_La_law K X 1629 [vR (some [-3]), vR (some [1]), vR (some [2]), vR (some [18]), vI i, u5, u6] [vI 0] (ty, ln, up2 I1 [18] 0 y, R, c, w)
    rw [pJ_e x4 x5 hc.ev]
    refine Eq.mpr (t_balance (J' := J') (v := y) q5 q6 hS l5 x1 (yS hc.ev y1) (yS hc.ev y2) hm h0 (fun _ => by rw [up2_self, upI_self])) ?_
    exact k _ _ _ _ _ _ _ _ _ rfl rfl (h.ok hJ hN hc hj hb hi.1.2)
  refine z_balance c1 g1.1 g1.2.1 b1 (fun p => ?_) (fun p => ⟨hcw, rfl, ?_⟩)
  · unfold hsJ at p
    rw [jf 5 (by decide)] at p
    refine ok _ J1 I c1 g1 nh1 (fun k x hk => j k x (by omega)) (h.b13 (fun x => j 13 x (by decide))) j0 (fun K' X' => ?_)
    rw [m_balance l5 (fun x => l1.1.1.k11 x), if_pos ⟨ha, p⟩, ← eJ, jf 11 (by decide)]
  · rw [jf 5 (by decide)] at p
    exact no 1 (by decide) (fun K' X' => by rw [m_balance l5 (fun x => l1.1.1.k11 x), if_neg (fun z => p z.2)])
theorem q_keeper {d : Nat} {K : Kt} {X : Xt} {S : Int → Int} {L t : Int} {J : Int → Int → Int} {ty : Nm → Nat} {ln : Nm → Int} {I : Nm → Int → Int} {R : Nm → Int → Option Nm} {c w : Nat} {i : Int} {u5 u6 : Vl} (q5 : isLg u5 = false) (q6 : isLg u6 = false) (h : LV S L t J ty ln I R c w) (hi : HI t i L) (ha : hsJ J (S (i + 1))) (k : NX d K X S L t i) : Rn (d + 11) M_La_law K X 1360 [vR (some [-3]), vR (some [1]), vR (some [2]), vR (some [18]), vI i, u5, u6] [] (ty, ln, I, R, c, w) := by
  obtain ⟨l1, l2, l3, l4, l5, ⟨x1, x2, x3, x4, x5⟩, l7, l8, l9⟩ := id h
  have f1 : ty [1] = 100 := l3.g.1.1
  have hln := x2.2
  have hS : ty [-3] = 20 ∧ 0 ≤ i ∧ i + 6 ≤ ln [-3] ∧ ln [-3] ≤ 3072 := ⟨x2.1, by omega, by omega, by omega⟩
  have hcw := h.cw hi.1
  have eI : I = pJ I J := pJ_of x4 x5
  obtain ⟨a1, e1⟩ : ∃ a, a = S (i + 1) := ⟨_, rfl⟩
  have y1 : I [-3] (i + 1) = a1 := by rw [x3, e1]
  obtain ⟨a2, e2⟩ : ∃ a, a = S (i + 2) := ⟨_, rfl⟩
  have y2 : I [-3] (i + 2) = a2 := by rw [x3, e2]
  obtain ⟨a3, e3⟩ : ∃ a, a = S (i + 3) := ⟨_, rfl⟩
  have y3 : I [-3] (i + 3) = a3 := by rw [x3, e3]
  rw [← e1] at ha
  obtain ⟨J1, eJ⟩ : ∃ J1, J1 = uJ J (-1) 0 0 := ⟨_, rfl⟩
  have jf : ∀ k, k ≠ -1 → J1 k = J k := fun k hk => by rw [eJ, uJ_ne hk]
  have j : ∀ k x, k ≠ -1 → J1 k x = J k x := fun k x hk => by rw [jf k hk]
  have jm : ∀ x, x ≠ 0 → J1 (-1) x = J (-1) x := fun x hx => by rw [eJ, uJ_self, upI_ne _ _ hx]
  have j0 : J1 (-1) 0 = 0 := by rw [eJ, uJ_self, upI_self]
  have g1 : JI J1 := by rw [eJ]; exact l1.rf
  have c1 : RC J1 I ty ln I R := by rw [eJ]; exact h.j1
  have b1 : hsJ J1 a1 := by unfold hsJ; rw [jf 5 (by decide)]; exact ha
  have nh1 : NH J1 := l2.same (fun k x hk => j k x (by omega))
  rw [b_La_law_1360 q5 q6, w32_id (x := i + 1) (by omega) (by omega), w32_id (x := i + 2) (by omega) (by omega), w32_id (x := i + 3) (by omega) (by omega), and_t ⟨Or.inr x2.1, by omega, by omega⟩, and_t ⟨Or.inr x2.1, by omega, by omega⟩, and_t ⟨Or.inr x2.1, by omega, by omega⟩, y1, y2, y3]
  refine w_keeper f1 ?_
  have no : ∀ kk : Int, kk ≠ 0 → (∀ (K' : Kt) (X' : Xt), Mth (d + 11) M_Mo_keeper [vR (some [2]), vI a1, vI a2, vI a3] (ty, ln, pJ I J, R, c - 1, w - 6) K' X' = K' (some (vI 0)) (ty, ln, pJ I (uJ J (-1) 0 kk), R, c - 1, w - 6)) → Rn (d + 11) M_La_law K X 1383 [vR (some [-3]), vR (some [1]), vR (some [2]), vR (some [18]), vI i, u5, u6] [vI kk] (ty, ln, I, R, c - 1, w - 6) := fun kk hkk hm => by
    rw [eI]
    refine Eq.mpr (t_keeper (J' := uJ J (-1) 0 kk) (v := 0) q5 q6 hS l5 x1 y1 y2 y3 hm (by rw [uJ_self, upI_self]) (fun z => absurd z hkk)) ?_
    exact k _ _ _ _ _ _ _ _ _ rfl rfl (h.no hi.1.2)
  have ok : ∀ (y : Int) (J' : Int → Int → Int) (I1 : Nm → Int → Int), RC J' I ty ln I1 R → JI J' → NH J' → (∀ k x, k = 5 ∨ k = 15 ∨ k = 16 ∨ k = 17 ∨ k = 18 ∨ k = 19 ∨ k = 20 ∨ k = 23 → J' k x = J k x) → (∀ a, 0 ≤ a → a ≤ 9 → s10 (fun x => J' 13 (10 * a + x)) ≤ t + 1) → J' (-1) 0 = 0 → (∀ (K' : Kt) (X' : Xt), Mth (d + 11) M_Mo_keeper [vR (some [2]), vI a1, vI a2, vI a3] (ty, ln, pJ (up2 I1 [18] 0 y) J, R, c, w) K' X' = K' (some (vI y)) (ty, ln, pJ (up2 I1 [18] 0 y) J', R, c, w)) → kW (fun v h' => Rn (d + 11) M_La_law K X 1383 [vR (some [-3]), vR (some [1]), vR (some [2]), vR (some [18]), vI i, u5, u6] (v.toList ++ []) h') (some (vI y)) (ty, ln, I1, R, c, w) := fun y J' I1 hc hJ hN hj hb h0 hm => by
    refine ⟨y, rfl, x1, ?_⟩
    show Rn (d + 11) M_La_law K X 1383 [vR (some [-3]), vR (some [1]), vR (some [2]), vR (some [18]), vI i, u5, u6] [vI 0] (ty, ln, up2 I1 [18] 0 y, R, c, w)
    rw [pJ_e x4 x5 hc.ev]
    refine Eq.mpr (t_keeper (J' := J') (v := y) q5 q6 hS l5 x1 (yS hc.ev y1) (yS hc.ev y2) (yS hc.ev y3) hm h0 (fun _ => by rw [up2_self, upI_self])) ?_
    exact k _ _ _ _ _ _ _ _ _ rfl rfl (h.ok hJ hN hc hj hb hi.1.2)
  have hN : 0 ≤ J (-1) 3 ∧ J (-1) 3 ≤ 12 := by have := l1.1.2.1.1; have := l1.1.2.1.2.1; omega
  refine z_keeper c1 g1.1 g1.2.1 b1 (fun p => ?_) (fun p => ⟨hcw, rfl, ?_⟩)
  · rw [jf 20 (by decide), jf 21 (by decide), jm 3 (by decide)] at p
    refine ok _ J1 I c1 g1 nh1 (fun k x hk => j k x (by omega)) (h.b13 (fun x => j 13 x (by decide))) j0 (fun K' X' => ?_)
    rw [m_keeper l5 (fun x => l1.1.1.k20 x) hN, if_pos ⟨⟨ha, p.1⟩, p.2⟩, ← eJ, jf 25 (by decide)]
  · rw [jf 20 (by decide), jf 21 (by decide), jm 3 (by decide)] at p
    exact no 1 (by decide) (fun K' X' => by rw [m_keeper l5 (fun x => l1.1.1.k20 x) hN, if_neg (fun z => p ⟨z.1.2, z.2⟩)])
theorem q_sample {d : Nat} {K : Kt} {X : Xt} {S : Int → Int} {L t : Int} {J : Int → Int → Int} {ty : Nm → Nat} {ln : Nm → Int} {I : Nm → Int → Int} {R : Nm → Int → Option Nm} {c w : Nat} {i : Int} {u5 u6 : Vl} (q5 : isLg u5 = false) (q6 : isLg u6 = false) (h : LV S L t J ty ln I R c w) (hi : HI t i L) (ha : hsJ J (S (i + 1))) (k : NX d K X S L t i) : Rn (d + 11) M_La_law K X 927 [vR (some [-3]), vR (some [1]), vR (some [2]), vR (some [18]), vI i, u5, u6] [] (ty, ln, I, R, c, w) := by
  obtain ⟨l1, l2, l3, l4, l5, ⟨x1, x2, x3, x4, x5⟩, l7, l8, l9⟩ := id h
  have f1 : ty [1] = 100 := l3.g.1.1
  have hln := x2.2
  have hS : ty [-3] = 20 ∧ 0 ≤ i ∧ i + 6 ≤ ln [-3] ∧ ln [-3] ≤ 3072 := ⟨x2.1, by omega, by omega, by omega⟩
  have hcw := h.cw hi.1
  have eI : I = pJ I J := pJ_of x4 x5
  obtain ⟨a1, e1⟩ : ∃ a, a = S (i + 1) := ⟨_, rfl⟩
  have y1 : I [-3] (i + 1) = a1 := by rw [x3, e1]
  obtain ⟨a2, e2⟩ : ∃ a, a = S (i + 2) := ⟨_, rfl⟩
  have y2 : I [-3] (i + 2) = a2 := by rw [x3, e2]
  obtain ⟨a3, e3⟩ : ∃ a, a = S (i + 3) := ⟨_, rfl⟩
  have y3 : I [-3] (i + 3) = a3 := by rw [x3, e3]
  rw [← e1] at ha
  obtain ⟨J1, eJ⟩ : ∃ J1, J1 = uJ J (-1) 0 0 := ⟨_, rfl⟩
  have jf : ∀ k, k ≠ -1 → J1 k = J k := fun k hk => by rw [eJ, uJ_ne hk]
  have j : ∀ k x, k ≠ -1 → J1 k x = J k x := fun k x hk => by rw [jf k hk]
  have jm : ∀ x, x ≠ 0 → J1 (-1) x = J (-1) x := fun x hx => by rw [eJ, uJ_self, upI_ne _ _ hx]
  have j0 : J1 (-1) 0 = 0 := by rw [eJ, uJ_self, upI_self]
  have g1 : JI J1 := by rw [eJ]; exact l1.rf
  have c1 : RC J1 I ty ln I R := by rw [eJ]; exact h.j1
  have b1 : hsJ J1 a1 := by unfold hsJ; rw [jf 5 (by decide)]; exact ha
  have nh1 : NH J1 := l2.same (fun k x hk => j k x (by omega))
  rw [b_La_law_927 q5 q6, w32_id (x := i + 1) (by omega) (by omega), w32_id (x := i + 2) (by omega) (by omega), w32_id (x := i + 3) (by omega) (by omega), and_t ⟨Or.inr x2.1, by omega, by omega⟩, and_t ⟨Or.inr x2.1, by omega, by omega⟩, and_t ⟨Or.inr x2.1, by omega, by omega⟩, y1, y2, y3]
  refine w_sample f1 ?_
  have no : ∀ kk : Int, kk ≠ 0 → (∀ (K' : Kt) (X' : Xt), Mth (d + 11) M_Mo_sample [vR (some [2]), vI a1, vI a2, vI a3] (ty, ln, pJ I J, R, c - 1, w - 6) K' X' = K' (some (vI 0)) (ty, ln, pJ I (uJ J (-1) 0 kk), R, c - 1, w - 6)) → Rn (d + 11) M_La_law K X 950 [vR (some [-3]), vR (some [1]), vR (some [2]), vR (some [18]), vI i, u5, u6] [vI kk] (ty, ln, I, R, c - 1, w - 6) := fun kk hkk hm => by
    rw [eI]
    refine Eq.mpr (t_sample (J' := uJ J (-1) 0 kk) (v := 0) q5 q6 hS l5 x1 y1 y2 y3 hm (by rw [uJ_self, upI_self]) (fun z => absurd z hkk)) ?_
    exact k _ _ _ _ _ _ _ _ _ rfl rfl (h.no hi.1.2)
  have ok : ∀ (y : Int) (J' : Int → Int → Int) (I1 : Nm → Int → Int), RC J' I ty ln I1 R → JI J' → NH J' → (∀ k x, k = 5 ∨ k = 15 ∨ k = 16 ∨ k = 17 ∨ k = 18 ∨ k = 19 ∨ k = 20 ∨ k = 23 → J' k x = J k x) → (∀ a, 0 ≤ a → a ≤ 9 → s10 (fun x => J' 13 (10 * a + x)) ≤ t + 1) → J' (-1) 0 = 0 → (∀ (K' : Kt) (X' : Xt), Mth (d + 11) M_Mo_sample [vR (some [2]), vI a1, vI a2, vI a3] (ty, ln, pJ (up2 I1 [18] 0 y) J, R, c, w) K' X' = K' (some (vI y)) (ty, ln, pJ (up2 I1 [18] 0 y) J', R, c, w)) → kW (fun v h' => Rn (d + 11) M_La_law K X 950 [vR (some [-3]), vR (some [1]), vR (some [2]), vR (some [18]), vI i, u5, u6] (v.toList ++ []) h') (some (vI y)) (ty, ln, I1, R, c, w) := fun y J' I1 hc hJ hN hj hb h0 hm => by
    refine ⟨y, rfl, x1, ?_⟩
    show Rn (d + 11) M_La_law K X 950 [vR (some [-3]), vR (some [1]), vR (some [2]), vR (some [18]), vI i, u5, u6] [vI 0] (ty, ln, up2 I1 [18] 0 y, R, c, w)
    rw [pJ_e x4 x5 hc.ev]
    refine Eq.mpr (t_sample (J' := J') (v := y) q5 q6 hS l5 x1 (yS hc.ev y1) (yS hc.ev y2) (yS hc.ev y3) hm h0 (fun _ => by rw [up2_self, upI_self])) ?_
    exact k _ _ _ _ _ _ _ _ _ rfl rfl (h.ok hJ hN hc hj hb hi.1.2)
  have hN := l1.1.2.1.2.1
  have k20 := l1.1.1.k20 a1
  refine z_sample c1 g1.1 g1.2.1 b1 (fun p p7 pn => ?_) (fun p p7 pn I1 hc => ?_) (fun p => ⟨hcw, Or.inl ⟨rfl, ?_⟩⟩) (fun p p7 => ⟨hcw, Or.inr ⟨rfl, ?_⟩⟩)
  · rw [jf 20 (by decide), jf 21 (by decide), jm 3 (by decide)] at p
    rw [jf 7 (by decide)] at p7
    rw [jf 25 (by decide), jf 28 (by decide)] at pn
    refine ok _ J1 I c1 g1 nh1 (fun k x hk => j k x (by omega)) (h.b13 (fun x => j 13 x (by decide))) j0 (fun K' X' => ?_)
    rw [m_sample l5 l1.1.1 l1.1.2.1, if_pos ⟨⟨ha, p.1⟩, p.2⟩, if_pos p7, if_pos pn, ← eJ]
  · have p' := p
    rw [jf 20 (by decide), jf 21 (by decide), jm 3 (by decide)] at p
    rw [jf 7 (by decide)] at p7
    have pn' := pn
    rw [jf 25 (by decide), jf 28 (by decide)] at pn
    have o : ∀ k x, k ≠ 28 → k ≠ -1 → uJ J1 28 (12 * (40 * a1 + a2) + a3) (J1 28 (12 * (40 * a1 + a2) + a3) + 1) k x = J k x := fun k x h1 h2 => by rw [uJ_ne h1, j k x h2]
    refine ok _ _ I1 hc (g1.sm ha.1 p'.1.1 p'.2 (fun z => pn' (Or.inr z))) (nh1.same (fun k x hk => by rw [uJ_ne (by omega)])) (fun k x hk => o k x (by omega) (by omega)) (h.b13 (fun x => o 13 x (by decide) (by decide))) (by rw [uJ_ne (by decide)]; exact j0) (fun K' X' => ?_)
    rw [m_sample l5 l1.1.1 l1.1.2.1, if_pos ⟨⟨ha, p.1⟩, p.2⟩, if_pos p7, if_neg pn, ← eJ, jf 6 (by decide), jf 25 (by decide), jf 26 (by decide), jf 27 (by decide), jf 28 (by decide), jf 29 (by decide), jm 2 (by decide)]
    by_cases z : J 6 (J 25 (12 * (40 * a1 + a2) + a3)) = 0
    · rw [if_pos z, if_pos z]
    · rw [if_neg z, if_neg z]
  · rw [jf 20 (by decide), jf 21 (by decide), jm 3 (by decide)] at p
    exact no 1 (by decide) (fun K' X' => by rw [m_sample l5 l1.1.1 l1.1.2.1, if_neg (fun z => p ⟨z.1.2, z.2⟩)])
  · rw [jf 20 (by decide), jf 21 (by decide), jm 3 (by decide)] at p
    rw [jf 7 (by decide)] at p7
    exact no 2 (by decide) (fun K' X' => by rw [m_sample l5 l1.1.1 l1.1.2.1, if_pos ⟨⟨ha, p.1⟩, p.2⟩, if_neg p7])
theorem q_health {d : Nat} {K : Kt} {X : Xt} {S : Int → Int} {L t : Int} {J : Int → Int → Int} {ty : Nm → Nat} {ln : Nm → Int} {I : Nm → Int → Int} {R : Nm → Int → Option Nm} {c w : Nat} {i : Int} {u5 u6 : Vl} (q5 : isLg u5 = false) (q6 : isLg u6 = false) (h : LV S L t J ty ln I R c w) (hi : HI t i L) (ha : hsJ J (S (i + 1))) (k : NX d K X S L t i) : Rn (d + 11) M_La_law K X 1292 [vR (some [-3]), vR (some [1]), vR (some [2]), vR (some [18]), vI i, u5, u6] [] (ty, ln, I, R, c, w) := by
  obtain ⟨l1, l2, l3, l4, l5, ⟨x1, x2, x3, x4, x5⟩, l7, l8, l9⟩ := id h
  have f1 : ty [1] = 100 := l3.g.1.1
  have hln := x2.2
  have hS : ty [-3] = 20 ∧ 0 ≤ i ∧ i + 6 ≤ ln [-3] ∧ ln [-3] ≤ 3072 := ⟨x2.1, by omega, by omega, by omega⟩
  have hcw := h.cw hi.1
  have eI : I = pJ I J := pJ_of x4 x5
  obtain ⟨a1, e1⟩ : ∃ a, a = S (i + 1) := ⟨_, rfl⟩
  have y1 : I [-3] (i + 1) = a1 := by rw [x3, e1]
  obtain ⟨a2, e2⟩ : ∃ a, a = S (i + 2) := ⟨_, rfl⟩
  have y2 : I [-3] (i + 2) = a2 := by rw [x3, e2]
  rw [← e1] at ha
  obtain ⟨J1, eJ⟩ : ∃ J1, J1 = uJ J (-1) 0 0 := ⟨_, rfl⟩
  have jf : ∀ k, k ≠ -1 → J1 k = J k := fun k hk => by rw [eJ, uJ_ne hk]
  have j : ∀ k x, k ≠ -1 → J1 k x = J k x := fun k x hk => by rw [jf k hk]
  have jm : ∀ x, x ≠ 0 → J1 (-1) x = J (-1) x := fun x hx => by rw [eJ, uJ_self, upI_ne _ _ hx]
  have j0 : J1 (-1) 0 = 0 := by rw [eJ, uJ_self, upI_self]
  have g1 : JI J1 := by rw [eJ]; exact l1.rf
  have c1 : RC J1 I ty ln I R := by rw [eJ]; exact h.j1
  have b1 : hsJ J1 a1 := by unfold hsJ; rw [jf 5 (by decide)]; exact ha
  have nh1 : NH J1 := l2.same (fun k x hk => j k x (by omega))
  rw [b_La_law_1292 q5 q6, w32_id (x := i + 1) (by omega) (by omega), w32_id (x := i + 2) (by omega) (by omega), and_t ⟨Or.inr x2.1, by omega, by omega⟩, and_t ⟨Or.inr x2.1, by omega, by omega⟩, y1, y2]
  refine w_health f1 ?_
  have no : ∀ kk : Int, kk ≠ 0 → (∀ (K' : Kt) (X' : Xt), Mth (d + 11) M_Mo_health [vR (some [2]), vI a1, vI a2] (ty, ln, pJ I J, R, c - 1, w - 6) K' X' = K' (some (vI 0)) (ty, ln, pJ I (uJ J (-1) 0 kk), R, c - 1, w - 6)) → Rn (d + 11) M_La_law K X 1309 [vR (some [-3]), vR (some [1]), vR (some [2]), vR (some [18]), vI i, u5, u6] [vI kk] (ty, ln, I, R, c - 1, w - 6) := fun kk hkk hm => by
    rw [eI]
    refine Eq.mpr (t_health (J' := uJ J (-1) 0 kk) (v := 0) q5 q6 hS l5 x1 y1 y2 hm (by rw [uJ_self, upI_self]) (fun z => absurd z hkk)) ?_
    exact k _ _ _ _ _ _ _ _ _ rfl rfl (h.no hi.1.2)
  have ok : ∀ (y : Int) (J' : Int → Int → Int) (I1 : Nm → Int → Int), RC J' I ty ln I1 R → JI J' → NH J' → (∀ k x, k = 5 ∨ k = 15 ∨ k = 16 ∨ k = 17 ∨ k = 18 ∨ k = 19 ∨ k = 20 ∨ k = 23 → J' k x = J k x) → (∀ a, 0 ≤ a → a ≤ 9 → s10 (fun x => J' 13 (10 * a + x)) ≤ t + 1) → J' (-1) 0 = 0 → (∀ (K' : Kt) (X' : Xt), Mth (d + 11) M_Mo_health [vR (some [2]), vI a1, vI a2] (ty, ln, pJ (up2 I1 [18] 0 y) J, R, c, w) K' X' = K' (some (vI y)) (ty, ln, pJ (up2 I1 [18] 0 y) J', R, c, w)) → kW (fun v h' => Rn (d + 11) M_La_law K X 1309 [vR (some [-3]), vR (some [1]), vR (some [2]), vR (some [18]), vI i, u5, u6] (v.toList ++ []) h') (some (vI y)) (ty, ln, I1, R, c, w) := fun y J' I1 hc hJ hN hj hb h0 hm => by
    refine ⟨y, rfl, x1, ?_⟩
    show Rn (d + 11) M_La_law K X 1309 [vR (some [-3]), vR (some [1]), vR (some [2]), vR (some [18]), vI i, u5, u6] [vI 0] (ty, ln, up2 I1 [18] 0 y, R, c, w)
    rw [pJ_e x4 x5 hc.ev]
    refine Eq.mpr (t_health (J' := J') (v := y) q5 q6 hS l5 x1 (yS hc.ev y1) (yS hc.ev y2) hm h0 (fun _ => by rw [up2_self, upI_self])) ?_
    exact k _ _ _ _ _ _ _ _ _ rfl rfl (h.ok hJ hN hc hj hb hi.1.2)
  refine z_health c1 g1.1 g1.2.1 b1 (fun p I1 hc => ?_) (fun p => ⟨hcw, rfl, ?_⟩)
  · rw [jf 20 (by decide), jf 21 (by decide)] at p
    obtain ⟨ag, am, ao, -, -⟩ := heA_i (s := 40 * a1 + a2) g1.1.1 (J1 (-1) 3).toNat
    refine ok _ _ I1 hc g1.he (nh1.same (fun k x hk => ao k x (by omega))) (fun k x hk => by rw [ao k x (by omega), j k x (by omega)]) (h.b13 (fun x => by rw [ao 13 x (by decide), j 13 x (by decide)])) (by rw [am]; exact j0) (fun K' X' => ?_)
    rw [m_health l5 l1.1.1 l1.1.2.1, if_pos ⟨ha, p⟩, ← eJ, jm 3 (by decide)]
  · rw [jf 20 (by decide), jf 21 (by decide)] at p
    exact no 1 (by decide) (fun K' X' => by rw [m_health l5 l1.1.1 l1.1.2.1, if_neg (fun z => p z.2)])
theorem q_recover {d : Nat} {K : Kt} {X : Xt} {S : Int → Int} {L t : Int} {J : Int → Int → Int} {ty : Nm → Nat} {ln : Nm → Int} {I : Nm → Int → Int} {R : Nm → Int → Option Nm} {c w : Nat} {i : Int} {u5 u6 : Vl} (q5 : isLg u5 = false) (q6 : isLg u6 = false) (h : LV S L t J ty ln I R c w) (hi : HI t i L) (ha : hsJ J (S (i + 1))) (k : NX d K X S L t i) : Rn (d + 11) M_La_law K X 864 [vR (some [-3]), vR (some [1]), vR (some [2]), vR (some [18]), vI i, u5, u6] [] (ty, ln, I, R, c, w) := by
  obtain ⟨l1, l2, l3, l4, l5, ⟨x1, x2, x3, x4, x5⟩, l7, l8, l9⟩ := id h
  have f1 : ty [1] = 100 := l3.g.1.1
  have hln := x2.2
  have hS : ty [-3] = 20 ∧ 0 ≤ i ∧ i + 6 ≤ ln [-3] ∧ ln [-3] ≤ 3072 := ⟨x2.1, by omega, by omega, by omega⟩
  have hcw := h.cw hi.1
  have eI : I = pJ I J := pJ_of x4 x5
  obtain ⟨a1, e1⟩ : ∃ a, a = S (i + 1) := ⟨_, rfl⟩
  have y1 : I [-3] (i + 1) = a1 := by rw [x3, e1]
  rw [← e1] at ha
  obtain ⟨J1, eJ⟩ : ∃ J1, J1 = uJ J (-1) 0 0 := ⟨_, rfl⟩
  have jf : ∀ k, k ≠ -1 → J1 k = J k := fun k hk => by rw [eJ, uJ_ne hk]
  have j : ∀ k x, k ≠ -1 → J1 k x = J k x := fun k x hk => by rw [jf k hk]
  have jm : ∀ x, x ≠ 0 → J1 (-1) x = J (-1) x := fun x hx => by rw [eJ, uJ_self, upI_ne _ _ hx]
  have j0 : J1 (-1) 0 = 0 := by rw [eJ, uJ_self, upI_self]
  have g1 : JI J1 := by rw [eJ]; exact l1.rf
  have c1 : RC J1 I ty ln I R := by rw [eJ]; exact h.j1
  have b1 : hsJ J1 a1 := by unfold hsJ; rw [jf 5 (by decide)]; exact ha
  have nh1 : NH J1 := l2.same (fun k x hk => j k x (by omega))
  rw [b_La_law_864 q5 q6, w32_id (x := i + 1) (by omega) (by omega), and_t ⟨Or.inr x2.1, by omega, by omega⟩, y1]
  refine w_recover f1 ?_
  have no : ∀ kk : Int, kk ≠ 0 → (∀ (K' : Kt) (X' : Xt), Mth (d + 11) M_Mo_recover [vR (some [2]), vI a1] (ty, ln, pJ I J, R, c - 1, w - 6) K' X' = K' (some (vI 0)) (ty, ln, pJ I (uJ J (-1) 0 kk), R, c - 1, w - 6)) → Rn (d + 11) M_La_law K X 875 [vR (some [-3]), vR (some [1]), vR (some [2]), vR (some [18]), vI i, u5, u6] [vI kk] (ty, ln, I, R, c - 1, w - 6) := fun kk hkk hm => by
    rw [eI]
    refine Eq.mpr (t_recover (J' := uJ J (-1) 0 kk) (v := 0) q5 q6 hS l5 x1 y1 hm (by rw [uJ_self, upI_self]) (fun z => absurd z hkk)) ?_
    exact k _ _ _ _ _ _ _ _ _ rfl rfl (h.no hi.1.2)
  have ok : ∀ (y : Int) (J' : Int → Int → Int) (I1 : Nm → Int → Int), RC J' I ty ln I1 R → JI J' → NH J' → (∀ k x, k = 5 ∨ k = 15 ∨ k = 16 ∨ k = 17 ∨ k = 18 ∨ k = 19 ∨ k = 20 ∨ k = 23 → J' k x = J k x) → (∀ a, 0 ≤ a → a ≤ 9 → s10 (fun x => J' 13 (10 * a + x)) ≤ t + 1) → J' (-1) 0 = 0 → (y = 0 ∨ y = 1) → (∀ (K' : Kt) (X' : Xt), Mth (d + 11) M_Mo_recover [vR (some [2]), vI a1] (ty, ln, pJ (up2 I1 [18] 0 y) J, R, c, w) K' X' = K' (some (vI y)) (ty, ln, pJ (up2 I1 [18] 0 y) J', R, c, w)) → kB (fun v h' => Rn (d + 11) M_La_law K X 875 [vR (some [-3]), vR (some [1]), vR (some [2]), vR (some [18]), vI i, u5, u6] (v.toList ++ []) h') (some (vI y)) (ty, ln, I1, R, c, w) := fun y J' I1 hc hJ hN hj hb h0 hy hm => by
    refine ⟨y, rfl, hy, x1, ?_⟩
    show Rn (d + 11) M_La_law K X 875 [vR (some [-3]), vR (some [1]), vR (some [2]), vR (some [18]), vI i, u5, u6] [vI 0] (ty, ln, up2 I1 [18] 0 y, R, c, w)
    rw [pJ_e x4 x5 hc.ev]
    refine Eq.mpr (t_recover (J' := J') (v := y) q5 q6 hS l5 x1 (yS hc.ev y1) hm h0 (fun _ => ⟨by rw [up2_self, upI_self], hy⟩)) ?_
    exact k _ _ _ _ _ _ _ _ _ rfl rfl (h.ok hJ hN hc hj hb hi.1.2)
  have rr : rcB J1 a1 = rcB J a1 := by rw [eJ, rcB_1]
  have rb : rcB J1 a1 = 0 ∨ rcB J1 a1 = 1 := by unfold rcB; split <;> decide
  refine z_recover c1 g1.1 g1.2.1 b1 (fun I1 hc => ?_)
  have o : ∀ k x, k ≠ 7 → k ≠ -1 → uJ J1 7 a1 (rcB J1 a1) k x = J k x := fun k x h1 h2 => by rw [uJ_ne h1, j k x h2]
  refine ok _ _ I1 hc (g1.one (by decide) (by rcases rb with z | z <;> rw [z] <;> exact ⟨by decide, by decide⟩)) (nh1.kw (a := a1) (KW.u (by omega)) b1.2) (fun k x hk => o k x (by omega) (by omega)) (h.b13 (fun x => o 13 x (by decide) (by decide))) (by rw [uJ_ne (by decide)]; exact j0) (by split <;> decide) (fun K' X' => ?_)
  rw [m_recover l5 l1.1.1, if_pos ha, ← eJ, rr]
theorem q_harm {d : Nat} {K : Kt} {X : Xt} {S : Int → Int} {L t : Int} {J : Int → Int → Int} {ty : Nm → Nat} {ln : Nm → Int} {I : Nm → Int → Int} {R : Nm → Int → Option Nm} {c w : Nat} {i : Int} {u5 u6 : Vl} (q5 : isLg u5 = false) (q6 : isLg u6 = false) (h : LV S L t J ty ln I R c w) (hi : HI t i L) (ha : hsJ J (S (i + 1))) (k : NX d K X S L t i) : Rn (d + 11) M_La_law K X 753 [vR (some [-3]), vR (some [1]), vR (some [2]), vR (some [18]), vI i, u5, u6] [] (ty, ln, I, R, c, w) := by
  obtain ⟨l1, l2, l3, l4, l5, ⟨x1, x2, x3, x4, x5⟩, l7, l8, l9⟩ := id h
  have f1 : ty [1] = 100 := l3.g.1.1
  have hln := x2.2
  have hS : ty [-3] = 20 ∧ 0 ≤ i ∧ i + 6 ≤ ln [-3] ∧ ln [-3] ≤ 3072 := ⟨x2.1, by omega, by omega, by omega⟩
  have hcw := h.cw hi.1
  have eI : I = pJ I J := pJ_of x4 x5
  obtain ⟨a1, e1⟩ : ∃ a, a = S (i + 1) := ⟨_, rfl⟩
  have y1 : I [-3] (i + 1) = a1 := by rw [x3, e1]
  obtain ⟨a2, e2⟩ : ∃ a, a = S (i + 2) := ⟨_, rfl⟩
  have y2 : I [-3] (i + 2) = a2 := by rw [x3, e2]
  obtain ⟨a3, e3⟩ : ∃ a, a = S (i + 3) := ⟨_, rfl⟩
  have y3 : I [-3] (i + 3) = a3 := by rw [x3, e3]
  obtain ⟨a4, e4⟩ : ∃ a, a = S (i + 4) := ⟨_, rfl⟩
  have y4 : I [-3] (i + 4) = a4 := by rw [x3, e4]
  obtain ⟨a5, e5⟩ : ∃ a, a = S (i + 5) := ⟨_, rfl⟩
  have y5 : I [-3] (i + 5) = a5 := by rw [x3, e5]
  rw [← e1] at ha
  obtain ⟨J1, eJ⟩ : ∃ J1, J1 = uJ J (-1) 0 0 := ⟨_, rfl⟩
  have jf : ∀ k, k ≠ -1 → J1 k = J k := fun k hk => by rw [eJ, uJ_ne hk]
  have j : ∀ k x, k ≠ -1 → J1 k x = J k x := fun k x hk => by rw [jf k hk]
  have jm : ∀ x, x ≠ 0 → J1 (-1) x = J (-1) x := fun x hx => by rw [eJ, uJ_self, upI_ne _ _ hx]
  have j0 : J1 (-1) 0 = 0 := by rw [eJ, uJ_self, upI_self]
  have g1 : JI J1 := by rw [eJ]; exact l1.rf
  have c1 : RC J1 I ty ln I R := by rw [eJ]; exact h.j1
  have b1 : hsJ J1 a1 := by unfold hsJ; rw [jf 5 (by decide)]; exact ha
  have nh1 : NH J1 := l2.same (fun k x hk => j k x (by omega))
  rw [b_La_law_753 q5 q6, w32_id (x := i + 1) (by omega) (by omega), w32_id (x := i + 2) (by omega) (by omega), w32_id (x := i + 3) (by omega) (by omega), w32_id (x := i + 4) (by omega) (by omega), w32_id (x := i + 5) (by omega) (by omega), and_t ⟨Or.inr x2.1, by omega, by omega⟩, and_t ⟨Or.inr x2.1, by omega, by omega⟩, and_t ⟨Or.inr x2.1, by omega, by omega⟩, and_t ⟨Or.inr x2.1, by omega, by omega⟩, and_t ⟨Or.inr x2.1, by omega, by omega⟩, y1, y2, y3, y4, y5]
  refine w_harm f1 ?_
  have no : ∀ kk : Int, kk ≠ 0 → (∀ (K' : Kt) (X' : Xt), Mth (d + 11) M_Mo_harm [vR (some [2]), vI a1, vI a2, vI a3, vI a4, vI a5] (ty, ln, pJ I J, R, c - 1, w - 6) K' X' = K' (some (vI 0)) (ty, ln, pJ I (uJ J (-1) 0 kk), R, c - 1, w - 6)) → Rn (d + 11) M_La_law K X 788 [vR (some [-3]), vR (some [1]), vR (some [2]), vR (some [18]), vI i, u5, u6] [vI kk] (ty, ln, I, R, c - 1, w - 6) := fun kk hkk hm => by
    rw [eI]
    refine Eq.mpr (t_harm (J' := uJ J (-1) 0 kk) (v := 0) q5 q6 hS l5 x1 y1 y2 y3 y4 y5 hm (by rw [uJ_self, upI_self]) (fun z => absurd z hkk)) ?_
    exact k _ _ _ _ _ _ _ _ _ rfl rfl (h.no hi.1.2)
  have ok : ∀ (y : Int) (J' : Int → Int → Int) (I1 : Nm → Int → Int), RC J' I ty ln I1 R → JI J' → NH J' → (∀ k x, k = 5 ∨ k = 15 ∨ k = 16 ∨ k = 17 ∨ k = 18 ∨ k = 19 ∨ k = 20 ∨ k = 23 → J' k x = J k x) → (∀ a, 0 ≤ a → a ≤ 9 → s10 (fun x => J' 13 (10 * a + x)) ≤ t + 1) → J' (-1) 0 = 0 → (y = 0 ∨ y = 1) → (∀ (K' : Kt) (X' : Xt), Mth (d + 11) M_Mo_harm [vR (some [2]), vI a1, vI a2, vI a3, vI a4, vI a5] (ty, ln, pJ (up2 I1 [18] 0 y) J, R, c, w) K' X' = K' (some (vI y)) (ty, ln, pJ (up2 I1 [18] 0 y) J', R, c, w)) → kB (fun v h' => Rn (d + 11) M_La_law K X 788 [vR (some [-3]), vR (some [1]), vR (some [2]), vR (some [18]), vI i, u5, u6] (v.toList ++ []) h') (some (vI y)) (ty, ln, I1, R, c, w) := fun y J' I1 hc hJ hN hj hb h0 hy hm => by
    refine ⟨y, rfl, hy, x1, ?_⟩
    show Rn (d + 11) M_La_law K X 788 [vR (some [-3]), vR (some [1]), vR (some [2]), vR (some [18]), vI i, u5, u6] [vI 0] (ty, ln, up2 I1 [18] 0 y, R, c, w)
    rw [pJ_e x4 x5 hc.ev]
    refine Eq.mpr (t_harm (J' := J') (v := y) q5 q6 hS l5 x1 (yS hc.ev y1) (yS hc.ev y2) (yS hc.ev y3) (yS hc.ev y4) (yS hc.ev y5) hm h0 (fun _ => ⟨by rw [up2_self, upI_self], hy⟩)) ?_
    exact k _ _ _ _ _ _ _ _ _ rfl rfl (h.ok hJ hN hc hj hb hi.1.2)
  have hN := l1.1.2.1.2.1
  have lk := lK l1.1.2.1.1
  refine z_harm c1 g1.1 g1.2.1 b1 (fun p I1 hc => ?_) (fun p => ⟨hcw, rfl, ?_⟩)
  · have k20 := g1.1.1.k20 a2
    obtain ⟨ag, ao⟩ := hmJ_gi (k := a1) (o := a2) (s := 40 * a2 + a3) (b := a4) (x := a5) (n := (J1 (-1) 3).toNat) g1.1 p.1.1.1 (by omega) (by rw [jm 3 (by decide)]; omega) p.2.2 (J1 (-1) 3).toNat (Nat.le_refl _)
    have p' := p
    unfold hsJ at p
    rw [jf 5 (by decide), jf 20 (by decide), jf 21 (by decide), jm 2 (by decide)] at p
    refine ok _ _ I1 hc (g1.hm p'.1.1.1 p'.1.2.1 p'.2.1 p'.2.2) (nh1.same (fun k x hk => ao k x (by omega) (by omega) (by omega))) (fun k x hk => by rw [ao k x (by omega) (by omega) (by omega), j k x (by omega)]) (h.b13 (fun x => by rw [ao 13 x (by decide) (by decide) (by decide), j 13 x (by decide)])) (by rw [ao (-1) 0 (by decide) (by decide) (by decide)]; exact j0) (hmJ_b _) (fun K' X' => ?_)
    rw [m_harm l5 l1.1, if_pos ⟨ha, p.1, p.2⟩, ← eJ, jm 3 (by decide)]
  · unfold hsJ at p
    rw [jf 5 (by decide), jf 20 (by decide), jf 21 (by decide), jm 2 (by decide)] at p
    exact no 1 (by decide) (fun K' X' => by rw [m_harm l5 l1.1, if_neg (fun z => p ⟨z.2.1, z.2.2⟩)])
theorem q_contract {d : Nat} {K : Kt} {X : Xt} {S : Int → Int} {L t : Int} {J : Int → Int → Int} {ty : Nm → Nat} {ln : Nm → Int} {I : Nm → Int → Int} {R : Nm → Int → Option Nm} {c w : Nat} {i : Int} {u5 u6 : Vl} (q5 : isLg u5 = false) (q6 : isLg u6 = false) (h : LV S L t J ty ln I R c w) (hi : HI t i L) (ha : hsJ J (S (i + 1))) (k : NX d K X S L t i) : Rn (d + 11) M_La_law K X 244 [vR (some [-3]), vR (some [1]), vR (some [2]), vR (some [18]), vI i, u5, u6] [] (ty, ln, I, R, c, w) := by
  obtain ⟨l1, l2, l3, l4, l5, ⟨x1, x2, x3, x4, x5⟩, l7, l8, l9⟩ := id h
  have f1 : ty [1] = 100 := l3.g.1.1
  have hln := x2.2
  have hS : ty [-3] = 20 ∧ 0 ≤ i ∧ i + 6 ≤ ln [-3] ∧ ln [-3] ≤ 3072 := ⟨x2.1, by omega, by omega, by omega⟩
  have hcw := h.cw hi.1
  have eI : I = pJ I J := pJ_of x4 x5
  obtain ⟨a1, e1⟩ : ∃ a, a = S (i + 1) := ⟨_, rfl⟩
  have y1 : I [-3] (i + 1) = a1 := by rw [x3, e1]
  obtain ⟨a2, e2⟩ : ∃ a, a = S (i + 2) := ⟨_, rfl⟩
  have y2 : I [-3] (i + 2) = a2 := by rw [x3, e2]
  obtain ⟨a3, e3⟩ : ∃ a, a = S (i + 3) := ⟨_, rfl⟩
  have y3 : I [-3] (i + 3) = a3 := by rw [x3, e3]
  rw [← e1] at ha
  obtain ⟨J1, eJ⟩ : ∃ J1, J1 = uJ J (-1) 0 0 := ⟨_, rfl⟩
  have jf : ∀ k, k ≠ -1 → J1 k = J k := fun k hk => by rw [eJ, uJ_ne hk]
  have j : ∀ k x, k ≠ -1 → J1 k x = J k x := fun k x hk => by rw [jf k hk]
  have jm : ∀ x, x ≠ 0 → J1 (-1) x = J (-1) x := fun x hx => by rw [eJ, uJ_self, upI_ne _ _ hx]
  have j0 : J1 (-1) 0 = 0 := by rw [eJ, uJ_self, upI_self]
  have g1 : JI J1 := by rw [eJ]; exact l1.rf
  have c1 : RC J1 I ty ln I R := by rw [eJ]; exact h.j1
  have b1 : hsJ J1 a1 := by unfold hsJ; rw [jf 5 (by decide)]; exact ha
  have nh1 : NH J1 := l2.same (fun k x hk => j k x (by omega))
  rw [b_La_law_244 q5 q6, w32_id (x := i + 1) (by omega) (by omega), w32_id (x := i + 2) (by omega) (by omega), w32_id (x := i + 3) (by omega) (by omega), and_t ⟨Or.inr x2.1, by omega, by omega⟩, and_t ⟨Or.inr x2.1, by omega, by omega⟩, and_t ⟨Or.inr x2.1, by omega, by omega⟩, y1, y2, y3]
  refine w_contract f1 ?_
  have no : ∀ kk : Int, kk ≠ 0 → (∀ (K' : Kt) (X' : Xt), Mth (d + 11) M_Mo_contract [vR (some [2]), vI a1, vI a2, vI a3] (ty, ln, pJ I J, R, c - 1, w - 6) K' X' = K' (some (vI 0)) (ty, ln, pJ I (uJ J (-1) 0 kk), R, c - 1, w - 6)) → Rn (d + 11) M_La_law K X 267 [vR (some [-3]), vR (some [1]), vR (some [2]), vR (some [18]), vI i, u5, u6] [vI kk] (ty, ln, I, R, c - 1, w - 6) := fun kk hkk hm => by
    rw [eI]
    refine Eq.mpr (t_contract (J' := uJ J (-1) 0 kk) (v := 0) q5 q6 hS l5 x1 y1 y2 y3 hm (by rw [uJ_self, upI_self]) (fun z => absurd z hkk)) ?_
    exact k _ _ _ _ _ _ _ _ _ rfl rfl (h.no hi.1.2)
  have ok : ∀ (y : Int) (J' : Int → Int → Int) (I1 : Nm → Int → Int), RC J' I ty ln I1 R → JI J' → NH J' → (∀ k x, k = 5 ∨ k = 15 ∨ k = 16 ∨ k = 17 ∨ k = 18 ∨ k = 19 ∨ k = 20 ∨ k = 23 → J' k x = J k x) → (∀ a, 0 ≤ a → a ≤ 9 → s10 (fun x => J' 13 (10 * a + x)) ≤ t + 1) → J' (-1) 0 = 0 → (y = 0 ∨ y = 1) → (∀ (K' : Kt) (X' : Xt), Mth (d + 11) M_Mo_contract [vR (some [2]), vI a1, vI a2, vI a3] (ty, ln, pJ (up2 I1 [18] 0 y) J, R, c, w) K' X' = K' (some (vI y)) (ty, ln, pJ (up2 I1 [18] 0 y) J', R, c, w)) → kB (fun v h' => Rn (d + 11) M_La_law K X 267 [vR (some [-3]), vR (some [1]), vR (some [2]), vR (some [18]), vI i, u5, u6] (v.toList ++ []) h') (some (vI y)) (ty, ln, I1, R, c, w) := fun y J' I1 hc hJ hN hj hb h0 hy hm => by
    refine ⟨y, rfl, hy, x1, ?_⟩
    show Rn (d + 11) M_La_law K X 267 [vR (some [-3]), vR (some [1]), vR (some [2]), vR (some [18]), vI i, u5, u6] [vI 0] (ty, ln, up2 I1 [18] 0 y, R, c, w)
    rw [pJ_e x4 x5 hc.ev]
    refine Eq.mpr (t_contract (J' := J') (v := y) q5 q6 hS l5 x1 (yS hc.ev y1) (yS hc.ev y2) (yS hc.ev y3) hm h0 (fun _ => ⟨by rw [up2_self, upI_self], hy⟩)) ?_
    exact k _ _ _ _ _ _ _ _ _ rfl rfl (h.ok hJ hN hc hj hb hi.1.2)
  refine z_contract c1 g1.1 g1.2.1 b1 (fun p p2 I1 hc => ?_) (fun p p2 => ?_) (fun p => ⟨hcw, rfl, ?_⟩)
  · have p' := p
    unfold hsJ at p
    rw [jf 5 (by decide)] at p
    rw [jf 9 (by decide), jf 5 (by decide), jf 10 (by decide)] at p2
    have hab := p.1.1
    have o : ∀ k x, k ≠ 9 → k ≠ -1 → uJ (uJ J1 9 (10 * a1 + a2) a3) 9 (10 * a2 + a1) a3 k x = J k x := fun k x h1 h2 => by rw [uJ_ne h1, uJ_ne h1, j k x h2]
    have n2 : NH (uJ J1 9 (10 * a1 + a2) a3) := nh1.kw (a := a1) (KW.u (by omega)) b1.2
    refine ok _ _ I1 hc (g1.co ha.1 p.1.1 p.2.1 p.2.2) (n2.kw (a := a2) (KW.u (by have := ha.1; omega)) (by rw [uJ_ne (by decide)]; exact p'.1.2)) (fun k x hk => o k x (by omega) (by omega)) (h.b13 (fun x => o 13 x (by decide) (by decide))) (by rw [uJ_ne (by decide), uJ_ne (by decide)]; exact j0) (by decide) (fun K' X' => ?_)
    rw [m_contract l5 (fun x => l1.1.1.k9 x), if_pos ⟨ha, p.1, p.2⟩, if_pos p2, ← eJ]
  · unfold hsJ at p
    rw [jf 5 (by decide)] at p
    rw [jf 9 (by decide), jf 5 (by decide), jf 10 (by decide)] at p2
    refine ok _ J1 I c1 g1 nh1 (fun k x hk => j k x (by omega)) (h.b13 (fun x => j 13 x (by decide))) j0 (by decide) (fun K' X' => ?_)
    rw [m_contract l5 (fun x => l1.1.1.k9 x), if_pos ⟨ha, p.1, p.2⟩, if_neg p2, ← eJ]
  · unfold hsJ at p
    rw [jf 5 (by decide)] at p
    exact no 1 (by decide) (fun K' X' => by rw [m_contract l5 (fun x => l1.1.1.k9 x), if_neg (fun z => p ⟨z.2.1, z.2.2⟩)])
theorem q_file {d : Nat} {K : Kt} {X : Xt} {S : Int → Int} {L t : Int} {J : Int → Int → Int} {ty : Nm → Nat} {ln : Nm → Int} {I : Nm → Int → Int} {R : Nm → Int → Option Nm} {c w : Nat} {i : Int} {u5 u6 : Vl} (q5 : isLg u5 = false) (q6 : isLg u6 = false) (h : LV S L t J ty ln I R c w) (hi : HI t i L) (ha : hsJ J (S (i + 1))) (k : NX d K X S L t i) : Rn (d + 11) M_La_law K X 411 [vR (some [-3]), vR (some [1]), vR (some [2]), vR (some [18]), vI i, u5, u6] [] (ty, ln, I, R, c, w) := by
  obtain ⟨l1, l2, l3, l4, l5, ⟨x1, x2, x3, x4, x5⟩, l7, l8, l9⟩ := id h
  have f1 : ty [1] = 100 := l3.g.1.1
  have hln := x2.2
  have hS : ty [-3] = 20 ∧ 0 ≤ i ∧ i + 6 ≤ ln [-3] ∧ ln [-3] ≤ 3072 := ⟨x2.1, by omega, by omega, by omega⟩
  have hcw := h.cw hi.1
  have eI : I = pJ I J := pJ_of x4 x5
  obtain ⟨a1, e1⟩ : ∃ a, a = S (i + 1) := ⟨_, rfl⟩
  have y1 : I [-3] (i + 1) = a1 := by rw [x3, e1]
  obtain ⟨a2, e2⟩ : ∃ a, a = S (i + 2) := ⟨_, rfl⟩
  have y2 : I [-3] (i + 2) = a2 := by rw [x3, e2]
  obtain ⟨z3, e3⟩ : ∃ a, a = S (i + 3) := ⟨_, rfl⟩
  have y3 : I [-3] (i + 3) = z3 := by rw [x3, e3]
  obtain ⟨a3, ea⟩ : ∃ a, a = if z3 = 0 then (0 : Int) else 1 := ⟨_, rfl⟩
  have hx : a3 = 0 ∨ a3 = 1 := by rw [ea]; split <;> decide
  rw [← e1] at ha
  obtain ⟨J1, eJ⟩ : ∃ J1, J1 = uJ J (-1) 0 0 := ⟨_, rfl⟩
  have jf : ∀ k, k ≠ -1 → J1 k = J k := fun k hk => by rw [eJ, uJ_ne hk]
  have j : ∀ k x, k ≠ -1 → J1 k x = J k x := fun k x hk => by rw [jf k hk]
  have jm : ∀ x, x ≠ 0 → J1 (-1) x = J (-1) x := fun x hx => by rw [eJ, uJ_self, upI_ne _ _ hx]
  have j0 : J1 (-1) 0 = 0 := by rw [eJ, uJ_self, upI_self]
  have g1 : JI J1 := by rw [eJ]; exact l1.rf
  have c1 : RC J1 I ty ln I R := by rw [eJ]; exact h.j1
  have b1 : hsJ J1 a1 := by unfold hsJ; rw [jf 5 (by decide)]; exact ha
  have nh1 : NH J1 := l2.same (fun k x hk => j k x (by omega))
  rw [b_La_law_411 q5 q6, w32_id (x := i + 1) (by omega) (by omega), w32_id (x := i + 2) (by omega) (by omega), w32_id (x := i + 3) (by omega) (by omega), and_t ⟨Or.inr x2.1, by omega, by omega⟩, and_t ⟨Or.inr x2.1, by omega, by omega⟩, and_t ⟨Or.inr x2.1, by omega, by omega⟩, y1, y2, y3]
  suffices hh : Mth (d + 11) M_La_file [vR (some [1]), vI a1, vI a2, vI a3, vR (some [18])] (ty, ln, I, R, c, w) (fun v h' => Rn (d + 11) M_La_law K X 442 [vR (some [-3]), vR (some [1]), vR (some [2]), vR (some [18]), vI i, u5, u6] (v.toList ++ []) h') X by
    by_cases z : z3 = 0
    · rw [if_pos z] at ea
      rw [ea] at hh
      rw [if_pos z, b_La_law_438 q5 q6]; exact hh
    · rw [if_neg z] at ea
      rw [ea] at hh
      rw [if_neg z, b_La_law_438 q5 q6]; exact hh
  refine w_file f1 ?_
  have no : ∀ kk : Int, kk ≠ 0 → (∀ (K' : Kt) (X' : Xt), Mth (d + 11) M_Mo_file [vR (some [2]), vI a1, vI a2, vI a3] (ty, ln, pJ I J, R, c - 1, w - 6) K' X' = K' (some (vI 0)) (ty, ln, pJ I (uJ J (-1) 0 kk), R, c - 1, w - 6)) → Rn (d + 11) M_La_law K X 442 [vR (some [-3]), vR (some [1]), vR (some [2]), vR (some [18]), vI i, u5, u6] [vI kk] (ty, ln, I, R, c - 1, w - 6) := fun kk hkk hm => by
    rw [eI]
    refine Eq.mpr (t_file (J' := uJ J (-1) 0 kk) (v := 0) q5 q6 hS l5 x1 y1 y2 y3 (fun K' X' => by rw [← ea]; exact hm K' X') (by rw [uJ_self, upI_self]) (fun z => absurd z hkk)) ?_
    exact k _ _ _ _ _ _ _ _ _ rfl rfl (h.no hi.1.2)
  have ok : ∀ (y : Int) (J' : Int → Int → Int) (I1 : Nm → Int → Int), RC J' I ty ln I1 R → JI J' → NH J' → (∀ k x, k = 5 ∨ k = 15 ∨ k = 16 ∨ k = 17 ∨ k = 18 ∨ k = 19 ∨ k = 20 ∨ k = 23 → J' k x = J k x) → (∀ a, 0 ≤ a → a ≤ 9 → s10 (fun x => J' 13 (10 * a + x)) ≤ t + 1) → J' (-1) 0 = 0 → (y = 0 ∨ y = 1) → (∀ (K' : Kt) (X' : Xt), Mth (d + 11) M_Mo_file [vR (some [2]), vI a1, vI a2, vI a3] (ty, ln, pJ (up2 I1 [18] 0 y) J, R, c, w) K' X' = K' (some (vI y)) (ty, ln, pJ (up2 I1 [18] 0 y) J', R, c, w)) → kB (fun v h' => Rn (d + 11) M_La_law K X 442 [vR (some [-3]), vR (some [1]), vR (some [2]), vR (some [18]), vI i, u5, u6] (v.toList ++ []) h') (some (vI y)) (ty, ln, I1, R, c, w) := fun y J' I1 hc hJ hN hj hb h0 hy hm => by
    refine ⟨y, rfl, hy, x1, ?_⟩
    show Rn (d + 11) M_La_law K X 442 [vR (some [-3]), vR (some [1]), vR (some [2]), vR (some [18]), vI i, u5, u6] [vI 0] (ty, ln, up2 I1 [18] 0 y, R, c, w)
    rw [pJ_e x4 x5 hc.ev]
    refine Eq.mpr (t_file (J' := J') (v := y) q5 q6 hS l5 x1 (yS hc.ev y1) (yS hc.ev y2) (yS hc.ev y3) (fun K' X' => by rw [← ea]; exact hm K' X') h0 (fun _ => ⟨by rw [up2_self, upI_self], hy⟩)) ?_
    exact k _ _ _ _ _ _ _ _ _ rfl rfl (h.ok hJ hN hc hj hb hi.1.2)
  have k12 : ∀ x, J 12 x = 0 ∨ J 12 x = 1 := fun x => by have := l1.1.1.k12 x; omega
  refine z_file c1 g1.1 g1.2.1 b1 hx (fun p p7 I1 hc => ?_) (fun p => ⟨hcw, Or.inl ⟨rfl, ?_⟩⟩) (fun p p7 => ⟨hcw, Or.inr ⟨rfl, ?_⟩⟩)
  · rw [jf 7 (by decide)] at p7
    have o : ∀ k x, k ≠ 12 → k ≠ 13 → k ≠ -1 → uJ (uJ J1 12 (10 * a1 + a2) a3) 13 (10 * a1 + a2) 0 k x = J k x := fun k x h1 h2 h3 => by rw [uJ_ne h2, uJ_ne h1, j k x h3]
    refine ok _ _ I1 hc ((g1.one (by decide) (by rcases hx with z | z <;> rw [z] <;> exact ⟨by decide, by decide⟩)).one (by decide) ⟨by decide, by decide⟩) ((nh1.kw (a := a1) (KW.u (k := 12) (y := 10 * a1 + a2) (by omega)) b1.2).same (fun k x hk => by rw [uJ_ne (by omega)])) (fun k x hk => o k x (by omega) (by omega) (by omega)) (h.b13u (a := a1) (u := a2) p (fun x hx => by rw [uJ_self, upI_ne _ _ hx, uJ_ne (by decide), j 13 x (by decide)]) (by rw [uJ_self, upI_self]; have := l1.1.1.k13 (10 * a1 + a2); omega)) (by rw [uJ_ne (by decide), uJ_ne (by decide)]; exact j0) (by rw [jf 12 (by decide)]; exact k12 _) (fun K' X' => ?_)
    rw [m_file l5 k12 hx, if_pos ⟨ha, p⟩, if_pos p7, ← eJ, jf 12 (by decide)]
  · exact no 1 (by decide) (fun K' X' => by rw [m_file l5 k12 hx, if_neg (fun z => p z.2)])
  · rw [jf 7 (by decide)] at p7
    exact no 2 (by decide) (fun K' X' => by rw [m_file l5 k12 hx, if_pos ⟨ha, p⟩, if_neg p7])
theorem q_write {d : Nat} {K : Kt} {X : Xt} {S : Int → Int} {L t : Int} {J : Int → Int → Int} {ty : Nm → Nat} {ln : Nm → Int} {I : Nm → Int → Int} {R : Nm → Int → Option Nm} {c w : Nat} {i : Int} {u5 u6 : Vl} (q5 : isLg u5 = false) (q6 : isLg u6 = false) (h : LV S L t J ty ln I R c w) (hi : HI t i L) (ha : hsJ J (S (i + 1))) (k : NX d K X S L t i) : Rn (d + 11) M_La_law K X 331 [vR (some [-3]), vR (some [1]), vR (some [2]), vR (some [18]), vI i, u5, u6] [] (ty, ln, I, R, c, w) := by
  obtain ⟨l1, l2, l3, l4, l5, ⟨x1, x2, x3, x4, x5⟩, l7, l8, l9⟩ := id h
  have f1 : ty [1] = 100 := l3.g.1.1
  have hln := x2.2
  have hS : ty [-3] = 20 ∧ 0 ≤ i ∧ i + 6 ≤ ln [-3] ∧ ln [-3] ≤ 3072 := ⟨x2.1, by omega, by omega, by omega⟩
  have hcw := h.cw hi.1
  have eI : I = pJ I J := pJ_of x4 x5
  obtain ⟨a1, e1⟩ : ∃ a, a = S (i + 1) := ⟨_, rfl⟩
  have y1 : I [-3] (i + 1) = a1 := by rw [x3, e1]
  obtain ⟨a2, e2⟩ : ∃ a, a = S (i + 2) := ⟨_, rfl⟩
  have y2 : I [-3] (i + 2) = a2 := by rw [x3, e2]
  obtain ⟨a3, e3⟩ : ∃ a, a = S (i + 3) := ⟨_, rfl⟩
  have y3 : I [-3] (i + 3) = a3 := by rw [x3, e3]
  rw [← e1] at ha
  obtain ⟨J1, eJ⟩ : ∃ J1, J1 = uJ J (-1) 0 0 := ⟨_, rfl⟩
  have jf : ∀ k, k ≠ -1 → J1 k = J k := fun k hk => by rw [eJ, uJ_ne hk]
  have j : ∀ k x, k ≠ -1 → J1 k x = J k x := fun k x hk => by rw [jf k hk]
  have jm : ∀ x, x ≠ 0 → J1 (-1) x = J (-1) x := fun x hx => by rw [eJ, uJ_self, upI_ne _ _ hx]
  have j0 : J1 (-1) 0 = 0 := by rw [eJ, uJ_self, upI_self]
  have g1 : JI J1 := by rw [eJ]; exact l1.rf
  have c1 : RC J1 I ty ln I R := by rw [eJ]; exact h.j1
  have b1 : hsJ J1 a1 := by unfold hsJ; rw [jf 5 (by decide)]; exact ha
  have nh1 : NH J1 := l2.same (fun k x hk => j k x (by omega))
  rw [b_La_law_331 q5 q6, w32_id (x := i + 1) (by omega) (by omega), w32_id (x := i + 2) (by omega) (by omega), w32_id (x := i + 3) (by omega) (by omega), and_t ⟨Or.inr x2.1, by omega, by omega⟩, and_t ⟨Or.inr x2.1, by omega, by omega⟩, and_t ⟨Or.inr x2.1, by omega, by omega⟩, y1, y2, y3]
  refine w_write f1 ?_
  have no : ∀ kk : Int, kk ≠ 0 → (∀ (K' : Kt) (X' : Xt), Mth (d + 11) M_Mo_write [vR (some [2]), vI a1, vI a2, vI a3] (ty, ln, pJ I J, R, c - 1, w - 6) K' X' = K' (some (vI 0)) (ty, ln, pJ I (uJ J (-1) 0 kk), R, c - 1, w - 6)) → Rn (d + 11) M_La_law K X 354 [vR (some [-3]), vR (some [1]), vR (some [2]), vR (some [18]), vI i, u5, u6] [vI kk] (ty, ln, I, R, c - 1, w - 6) := fun kk hkk hm => by
    rw [eI]
    refine Eq.mpr (t_write (J' := uJ J (-1) 0 kk) (v := 0) q5 q6 hS l5 x1 y1 y2 y3 hm (by rw [uJ_self, upI_self]) (fun z => absurd z hkk)) ?_
    exact k _ _ _ _ _ _ _ _ _ rfl rfl (h.no hi.1.2)
  have ok : ∀ (y : Int) (J' : Int → Int → Int) (I1 : Nm → Int → Int), RC J' I ty ln I1 R → JI J' → NH J' → (∀ k x, k = 5 ∨ k = 15 ∨ k = 16 ∨ k = 17 ∨ k = 18 ∨ k = 19 ∨ k = 20 ∨ k = 23 → J' k x = J k x) → (∀ a, 0 ≤ a → a ≤ 9 → s10 (fun x => J' 13 (10 * a + x)) ≤ t + 1) → J' (-1) 0 = 0 → (∀ (K' : Kt) (X' : Xt), Mth (d + 11) M_Mo_write [vR (some [2]), vI a1, vI a2, vI a3] (ty, ln, pJ (up2 I1 [18] 0 y) J, R, c, w) K' X' = K' (some (vI y)) (ty, ln, pJ (up2 I1 [18] 0 y) J', R, c, w)) → kW (fun v h' => Rn (d + 11) M_La_law K X 354 [vR (some [-3]), vR (some [1]), vR (some [2]), vR (some [18]), vI i, u5, u6] (v.toList ++ []) h') (some (vI y)) (ty, ln, I1, R, c, w) := fun y J' I1 hc hJ hN hj hb h0 hm => by
    refine ⟨y, rfl, x1, ?_⟩
    show Rn (d + 11) M_La_law K X 354 [vR (some [-3]), vR (some [1]), vR (some [2]), vR (some [18]), vI i, u5, u6] [vI 0] (ty, ln, up2 I1 [18] 0 y, R, c, w)
    rw [pJ_e x4 x5 hc.ev]
    refine Eq.mpr (t_write (J' := J') (v := y) q5 q6 hS l5 x1 (yS hc.ev y1) (yS hc.ev y2) (yS hc.ev y3) hm h0 (fun _ => by rw [up2_self, upI_self])) ?_
    exact k _ _ _ _ _ _ _ _ _ rfl rfl (h.ok hJ hN hc hj hb hi.1.2)
  have k13 := l1.1.1.k13 (10 * a1 + a2)
  refine z_write c1 g1.1 g1.2.1 b1 (fun p p7 p12 I1 hc => ?_) (fun p p7 p12 p13 I1 hc => ?_) (fun p => ⟨hcw, Or.inl ⟨rfl, ?_⟩⟩) (fun p p7 => ⟨hcw, Or.inr ⟨rfl, ?_⟩⟩)
  · rw [jf 7 (by decide)] at p7
    rw [jf 12 (by decide)] at p12
    have o : ∀ k x, k ≠ 12 → k ≠ 13 → k ≠ 14 → k ≠ -1 → uJ (uJ (uJ (uJ J1 12 (10 * a1 + a2) 1) 13 (10 * a1 + a2) 0) 14 (200 * (10 * a1 + a2)) a3) 13 (10 * a1 + a2) 1 k x = J k x := fun k x h1 h2 h3 h4 => by rw [uJ_ne h2, uJ_ne h3, uJ_ne h2, uJ_ne h1, j k x h4]
    refine ok _ _ I1 hc ((((g1.one (by decide) ⟨by decide, by decide⟩).one (by decide) ⟨by decide, by decide⟩).one (by decide) ⟨by show (0 : Int) ≤ _; omega, by show _ ≤ (255 : Int); omega⟩).one (by decide) ⟨by decide, by decide⟩) ((nh1.kw (a := a1) (KW.u (k := 12) (y := 10 * a1 + a2) (by omega)) b1.2).same (fun k x hk => by rw [uJ_ne (by omega), uJ_ne (by omega), uJ_ne (by omega)])) (fun k x hk => o k x (by omega) (by omega) (by omega) (by omega)) (h.b13u (a := a1) (u := a2) p.1 (fun x hx => by rw [uJ_self, upI_ne _ _ hx, uJ_ne (by decide), uJ_self, upI_ne _ _ hx, uJ_ne (by decide), j 13 x (by decide)]) (by rw [uJ_self, upI_self]; omega)) (by rw [uJ_ne (by decide), uJ_ne (by decide), uJ_ne (by decide), uJ_ne (by decide)]; exact j0) (fun K' X' => ?_)
    rw [m_write l5 (fun x => l1.1.1.k13 x), if_pos ⟨ha, p⟩, if_pos p7, if_pos p12, ← eJ]
  · rw [jf 7 (by decide)] at p7
    rw [jf 12 (by decide)] at p12
    rw [jf 13 (by decide)] at p13
    have o : ∀ k x, k ≠ 13 → k ≠ 14 → k ≠ -1 → uJ (uJ J1 14 (200 * (10 * a1 + a2) + J1 13 (10 * a1 + a2)) a3) 13 (10 * a1 + a2) (J1 13 (10 * a1 + a2) + 1) k x = J k x := fun k x h1 h2 h4 => by rw [uJ_ne h1, uJ_ne h2, j k x h4]
    refine ok _ _ I1 hc ((g1.one (by decide) ⟨by show (0 : Int) ≤ _; omega, by show _ ≤ (255 : Int); omega⟩).one (by decide) ⟨by rw [jf 13 (by decide)]; show (0 : Int) ≤ _; omega, by rw [jf 13 (by decide)]; show _ ≤ (200 : Int); omega⟩) (nh1.same (fun k x hk => by rw [uJ_ne (by omega), uJ_ne (by omega)])) (fun k x hk => o k x (by omega) (by omega) (by omega)) (h.b13u (a := a1) (u := a2) p.1 (fun x hx => by rw [uJ_self, upI_ne _ _ hx, uJ_ne (by decide), j 13 x (by decide)]) (by rw [uJ_self, upI_self, jf 13 (by decide)]; omega)) (by rw [uJ_ne (by decide), uJ_ne (by decide)]; exact j0) (fun K' X' => ?_)
    rw [m_write l5 (fun x => l1.1.1.k13 x), if_pos ⟨ha, p⟩, if_pos p7, if_neg p12, if_neg p13, ← eJ, jf 13 (by decide)]
  · exact no 1 (by decide) (fun K' X' => by rw [m_write l5 (fun x => l1.1.1.k13 x), if_neg (fun z => p z.2)])
  · rw [jf 7 (by decide), jf 12 (by decide), jf 13 (by decide)] at p7
    refine no 2 (by decide) (fun K' X' => ?_)
    rw [m_write l5 (fun x => l1.1.1.k13 x), if_pos ⟨ha, p⟩]
    by_cases z : J 7 a1 = 0
    · have z2 := p7.elim (fun y => absurd z y) id
      rw [if_pos z, if_neg z2.1, if_pos z2.2]
    · rw [if_neg z]
theorem q_count {d : Nat} {K : Kt} {X : Xt} {S : Int → Int} {L t : Int} {J : Int → Int → Int} {ty : Nm → Nat} {ln : Nm → Int} {I : Nm → Int → Int} {R : Nm → Int → Option Nm} {c w : Nat} {i : Int} {u5 u6 : Vl} (q5 : isLg u5 = false) (q6 : isLg u6 = false) (h : LV S L t J ty ln I R c w) (hi : HI t i L) (ha : hsJ J (S (i + 1))) (k : NX d K X S L t i) : Rn (d + 11) M_La_law K X 1440 [vR (some [-3]), vR (some [1]), vR (some [2]), vR (some [18]), vI i, u5, u6] [] (ty, ln, I, R, c, w) := by
  obtain ⟨l1, l2, l3, l4, l5, ⟨x1, x2, x3, x4, x5⟩, l7, l8, l9⟩ := id h
  have f1 : ty [1] = 100 := l3.g.1.1
  have hln := x2.2
  have hS : ty [-3] = 20 ∧ 0 ≤ i ∧ i + 6 ≤ ln [-3] ∧ ln [-3] ≤ 3072 := ⟨x2.1, by omega, by omega, by omega⟩
  have hcw := h.cw hi.1
  have eI : I = pJ I J := pJ_of x4 x5
  obtain ⟨a1, e1⟩ : ∃ a, a = S (i + 1) := ⟨_, rfl⟩
  have y1 : I [-3] (i + 1) = a1 := by rw [x3, e1]
  obtain ⟨a2, e2⟩ : ∃ a, a = S (i + 2) := ⟨_, rfl⟩
  have y2 : I [-3] (i + 2) = a2 := by rw [x3, e2]
  rw [← e1] at ha
  obtain ⟨J1, eJ⟩ : ∃ J1, J1 = uJ J (-1) 0 0 := ⟨_, rfl⟩
  have jf : ∀ k, k ≠ -1 → J1 k = J k := fun k hk => by rw [eJ, uJ_ne hk]
  have j : ∀ k x, k ≠ -1 → J1 k x = J k x := fun k x hk => by rw [jf k hk]
  have jm : ∀ x, x ≠ 0 → J1 (-1) x = J (-1) x := fun x hx => by rw [eJ, uJ_self, upI_ne _ _ hx]
  have j0 : J1 (-1) 0 = 0 := by rw [eJ, uJ_self, upI_self]
  have g1 : JI J1 := by rw [eJ]; exact l1.rf
  have c1 : RC J1 I ty ln I R := by rw [eJ]; exact h.j1
  have b1 : hsJ J1 a1 := by unfold hsJ; rw [jf 5 (by decide)]; exact ha
  have nh1 : NH J1 := l2.same (fun k x hk => j k x (by omega))
  rw [b_La_law_1440 q5 q6, w32_id (x := i + 1) (by omega) (by omega), w32_id (x := i + 2) (by omega) (by omega), and_t ⟨Or.inr x2.1, by omega, by omega⟩, and_t ⟨Or.inr x2.1, by omega, by omega⟩, y1, y2]
  refine w_count f1 ?_
  have no : ∀ kk : Int, kk ≠ 0 → (∀ (K' : Kt) (X' : Xt), Mth (d + 11) M_Mo_count [vR (some [2]), vI a1, vI a2] (ty, ln, pJ I J, R, c - 1, w - 6) K' X' = K' (some (vI 0)) (ty, ln, pJ I (uJ J (-1) 0 kk), R, c - 1, w - 6)) → Rn (d + 11) M_La_law K X 1457 [vR (some [-3]), vR (some [1]), vR (some [2]), vR (some [18]), vI i, u5, u6] [vI kk] (ty, ln, I, R, c - 1, w - 6) := fun kk hkk hm => by
    rw [eI]
    refine Eq.mpr (t_count (J' := uJ J (-1) 0 kk) (v := 0) q5 q6 hS l5 x1 y1 y2 hm (by rw [uJ_self, upI_self]) (fun z => absurd z hkk)) ?_
    exact k _ _ _ _ _ _ _ _ _ rfl rfl (h.no hi.1.2)
  have ok : ∀ (y : Int) (J' : Int → Int → Int) (I1 : Nm → Int → Int), RC J' I ty ln I1 R → JI J' → NH J' → (∀ k x, k = 5 ∨ k = 15 ∨ k = 16 ∨ k = 17 ∨ k = 18 ∨ k = 19 ∨ k = 20 ∨ k = 23 → J' k x = J k x) → (∀ a, 0 ≤ a → a ≤ 9 → s10 (fun x => J' 13 (10 * a + x)) ≤ t + 1) → J' (-1) 0 = 0 → (∀ (K' : Kt) (X' : Xt), Mth (d + 11) M_Mo_count [vR (some [2]), vI a1, vI a2] (ty, ln, pJ (up2 I1 [18] 0 y) J, R, c, w) K' X' = K' (some (vI y)) (ty, ln, pJ (up2 I1 [18] 0 y) J', R, c, w)) → kW (fun v h' => Rn (d + 11) M_La_law K X 1457 [vR (some [-3]), vR (some [1]), vR (some [2]), vR (some [18]), vI i, u5, u6] (v.toList ++ []) h') (some (vI y)) (ty, ln, I1, R, c, w) := fun y J' I1 hc hJ hN hj hb h0 hm => by
    refine ⟨y, rfl, x1, ?_⟩
    show Rn (d + 11) M_La_law K X 1457 [vR (some [-3]), vR (some [1]), vR (some [2]), vR (some [18]), vI i, u5, u6] [vI 0] (ty, ln, up2 I1 [18] 0 y, R, c, w)
    rw [pJ_e x4 x5 hc.ev]
    refine Eq.mpr (t_count (J' := J') (v := y) q5 q6 hS l5 x1 (yS hc.ev y1) (yS hc.ev y2) hm h0 (fun _ => by rw [up2_self, upI_self])) ?_
    exact k _ _ _ _ _ _ _ _ _ rfl rfl (h.ok hJ hN hc hj hb hi.1.2)
  have r1 : RLs J1 I ty ln R := by rw [eJ]; exact h.r1
  obtain ⟨LL, hL⟩ := r1 a1 b1
  refine z_count c1 g1.1 hL b1 (fun p => ?_) (fun p => ⟨hcw, rfl, ?_⟩)
  · refine ok _ J1 I c1 g1 nh1 (fun k x hk => j k x (by omega)) (h.b13 (fun x => j 13 x (by decide))) j0 (fun K' X' => ?_)
    rw [m_count l5 l1.1.1, if_pos ⟨ha, p⟩, ← eJ]
  · exact no 1 (by decide) (fun K' X' => by rw [m_count l5 l1.1.1, if_neg (fun z => p z.2)])
theorem q_restore {d : Nat} {K : Kt} {X : Xt} {S : Int → Int} {L t : Int} {J : Int → Int → Int} {ty : Nm → Nat} {ln : Nm → Int} {I : Nm → Int → Int} {R : Nm → Int → Option Nm} {c w : Nat} {i : Int} {u5 u6 : Vl} (q5 : isLg u5 = false) (q6 : isLg u6 = false) (h : LV S L t J ty ln I R c w) (hi : HI t i L) (ha : hsJ J (S (i + 1))) (k : NX d K X S L t i) : Rn (d + 11) M_La_law K X 1119 [vR (some [-3]), vR (some [1]), vR (some [2]), vR (some [18]), vI i, u5, u6] [] (ty, ln, I, R, c, w) := by
  obtain ⟨l1, l2, l3, l4, l5, ⟨x1, x2, x3, x4, x5⟩, l7, l8, l9⟩ := id h
  have f1 : ty [1] = 100 := l3.g.1.1
  have hln := x2.2
  have hS : ty [-3] = 20 ∧ 0 ≤ i ∧ i + 6 ≤ ln [-3] ∧ ln [-3] ≤ 3072 := ⟨x2.1, by omega, by omega, by omega⟩
  have hcw := h.cw hi.1
  have eI : I = pJ I J := pJ_of x4 x5
  obtain ⟨a1, e1⟩ : ∃ a, a = S (i + 1) := ⟨_, rfl⟩
  have y1 : I [-3] (i + 1) = a1 := by rw [x3, e1]
  obtain ⟨a2, e2⟩ : ∃ a, a = S (i + 2) := ⟨_, rfl⟩
  have y2 : I [-3] (i + 2) = a2 := by rw [x3, e2]
  obtain ⟨a3, e3⟩ : ∃ a, a = S (i + 3) := ⟨_, rfl⟩
  have y3 : I [-3] (i + 3) = a3 := by rw [x3, e3]
  rw [← e1] at ha
  obtain ⟨J1, eJ⟩ : ∃ J1, J1 = uJ J (-1) 0 0 := ⟨_, rfl⟩
  have jf : ∀ k, k ≠ -1 → J1 k = J k := fun k hk => by rw [eJ, uJ_ne hk]
  have j : ∀ k x, k ≠ -1 → J1 k x = J k x := fun k x hk => by rw [jf k hk]
  have jm : ∀ x, x ≠ 0 → J1 (-1) x = J (-1) x := fun x hx => by rw [eJ, uJ_self, upI_ne _ _ hx]
  have j0 : J1 (-1) 0 = 0 := by rw [eJ, uJ_self, upI_self]
  have g1 : JI J1 := by rw [eJ]; exact l1.rf
  have c1 : RC J1 I ty ln I R := by rw [eJ]; exact h.j1
  have b1 : hsJ J1 a1 := by unfold hsJ; rw [jf 5 (by decide)]; exact ha
  have nh1 : NH J1 := l2.same (fun k x hk => j k x (by omega))
  rw [b_La_law_1119 q5 q6, w32_id (x := i + 1) (by omega) (by omega), w32_id (x := i + 2) (by omega) (by omega), w32_id (x := i + 3) (by omega) (by omega), and_t ⟨Or.inr x2.1, by omega, by omega⟩, and_t ⟨Or.inr x2.1, by omega, by omega⟩, and_t ⟨Or.inr x2.1, by omega, by omega⟩, y1, y2, y3]
  refine w_restore f1 ?_
  have no : ∀ kk : Int, kk ≠ 0 → (∀ (K' : Kt) (X' : Xt), Mth (d + 11) M_Mo_restore [vR (some [2]), vI a1, vI a2, vI a3] (ty, ln, pJ I J, R, c - 1, w - 6) K' X' = K' (some (vI 0)) (ty, ln, pJ I (uJ J (-1) 0 kk), R, c - 1, w - 6)) → Rn (d + 11) M_La_law K X 1142 [vR (some [-3]), vR (some [1]), vR (some [2]), vR (some [18]), vI i, u5, u6] [vI kk] (ty, ln, I, R, c - 1, w - 6) := fun kk hkk hm => by
    rw [eI]
    refine Eq.mpr (t_restore (J' := uJ J (-1) 0 kk) (v := 0) q5 q6 hS l5 x1 y1 y2 y3 hm (by rw [uJ_self, upI_self]) (fun z => absurd z hkk)) ?_
    exact k _ _ _ _ _ _ _ _ _ rfl rfl (h.no hi.1.2)
  have ok : ∀ (y : Int) (J' : Int → Int → Int) (I1 : Nm → Int → Int), RC J' I ty ln I1 R → JI J' → NH J' → (∀ k x, k = 5 ∨ k = 15 ∨ k = 16 ∨ k = 17 ∨ k = 18 ∨ k = 19 ∨ k = 20 ∨ k = 23 → J' k x = J k x) → (∀ a, 0 ≤ a → a ≤ 9 → s10 (fun x => J' 13 (10 * a + x)) ≤ t + 1) → J' (-1) 0 = 0 → (∀ (K' : Kt) (X' : Xt), Mth (d + 11) M_Mo_restore [vR (some [2]), vI a1, vI a2, vI a3] (ty, ln, pJ (up2 I1 [18] 0 y) J, R, c, w) K' X' = K' (some (vI y)) (ty, ln, pJ (up2 I1 [18] 0 y) J', R, c, w)) → kW (fun v h' => Rn (d + 11) M_La_law K X 1142 [vR (some [-3]), vR (some [1]), vR (some [2]), vR (some [18]), vI i, u5, u6] (v.toList ++ []) h') (some (vI y)) (ty, ln, I1, R, c, w) := fun y J' I1 hc hJ hN hj hb h0 hm => by
    refine ⟨y, rfl, x1, ?_⟩
    show Rn (d + 11) M_La_law K X 1142 [vR (some [-3]), vR (some [1]), vR (some [2]), vR (some [18]), vI i, u5, u6] [vI 0] (ty, ln, up2 I1 [18] 0 y, R, c, w)
    rw [pJ_e x4 x5 hc.ev]
    refine Eq.mpr (t_restore (J' := J') (v := y) q5 q6 hS l5 x1 (yS hc.ev y1) (yS hc.ev y2) (yS hc.ev y3) hm h0 (fun _ => by rw [up2_self, upI_self])) ?_
    exact k _ _ _ _ _ _ _ _ _ rfl rfl (h.ok hJ hN hc hj hb hi.1.2)
  have r1 : RLs J1 I ty ln R := by rw [eJ]; exact h.r1
  obtain ⟨LL, hL⟩ := r1 a1 b1
  obtain ⟨LL0, hL0⟩ := l4 a1 ha
  have hrs := hL0.rs (n := a2) l1.1.1 ha.1.1
  have es : slotJ J1 a1 a2 = slotJ J a1 a2 := slotJ_c (JSl.same (fun k x hk => j k x (by omega)))
  have ea : ∀ s n, alJ J1 s n = alJ J s n := fun s n => alJ_c n (fun x _ => j 17 _ (by decide))
  have el : ∀ m q, lnS J1 m q = lnS J m q := fun m q => lnS_c (fun x => j 19 x (by decide)) q
  refine z_restore c1 g1.1 g1.2.1 hL b1 (fun p p7 pk I1 hc => ?_) (fun p p7 pk => ?_) (fun p => ⟨hcw, Or.inl ⟨rfl, ?_⟩⟩) (fun p p7 => ⟨hcw, Or.inr ⟨rfl, ?_⟩⟩)
  · rw [es, jf 17 (by decide)] at p
    rw [es, ea, jf 17 (by decide)] at pk hc ⊢
    rw [jf 7 (by decide)] at p7
    have h200 := (hrs p.1 a3.toNat (by omega)).1
    rw [Int.toNat_of_nonneg p.2.1.1] at h200
    refine ok _ _ I1 hc (g1.re (by rw [el]; exact h200)) (nh1.same (fun k x hk => reS_w (by omega))) (fun k x hk => by rw [reS_w (by omega), j k x (by omega)]) (h.b13 (fun x => by rw [reS_w (by decide), j 13 x (by decide)])) (by unfold reS; rw [wJ_ne (by decide), uJ_self, upI_ne _ _ (by decide), rdS_o (by decide)]; exact j0) (fun K' X' => ?_)
    rw [m_restore l5 pv_ok l1.1 hrs, if_pos ⟨ha, p⟩, if_pos p7, ← eJ, if_pos pk]
  · rw [es, jf 17 (by decide)] at p
    rw [es, ea, jf 17 (by decide)] at pk
    rw [jf 7 (by decide)] at p7
    refine ok _ J1 I c1 g1 nh1 (fun k x hk => j k x (by omega)) (h.b13 (fun x => j 13 x (by decide))) j0 (fun K' X' => ?_)
    rw [m_restore l5 pv_ok l1.1 hrs, if_pos ⟨ha, p⟩, if_pos p7, ← eJ, if_neg pk]
  · rw [es, jf 17 (by decide)] at p
    exact no 1 (by decide) (fun K' X' => by rw [m_restore l5 pv_ok l1.1 hrs, if_neg (fun z => p z.2)])
  · rw [es, jf 17 (by decide)] at p
    rw [jf 7 (by decide)] at p7
    exact no 2 (by decide) (fun K' X' => by rw [m_restore l5 pv_ok l1.1 hrs, if_pos ⟨ha, p⟩, if_neg p7])
theorem q_forget {d : Nat} {K : Kt} {X : Xt} {S : Int → Int} {L t : Int} {J : Int → Int → Int} {ty : Nm → Nat} {ln : Nm → Int} {I : Nm → Int → Int} {R : Nm → Int → Option Nm} {c w : Nat} {i : Int} {u5 u6 : Vl} (q5 : isLg u5 = false) (q6 : isLg u6 = false) (h : LV S L t J ty ln I R c w) (hi : HI t i L) (ha : hsJ J (S (i + 1))) (k : NX d K X S L t i) : Rn (d + 11) M_La_law K X 1224 [vR (some [-3]), vR (some [1]), vR (some [2]), vR (some [18]), vI i, u5, u6] [] (ty, ln, I, R, c, w) := by
  obtain ⟨l1, l2, l3, l4, l5, ⟨x1, x2, x3, x4, x5⟩, l7, l8, l9⟩ := id h
  have f1 : ty [1] = 100 := l3.g.1.1
  have hln := x2.2
  have hS : ty [-3] = 20 ∧ 0 ≤ i ∧ i + 6 ≤ ln [-3] ∧ ln [-3] ≤ 3072 := ⟨x2.1, by omega, by omega, by omega⟩
  have hcw := h.cw hi.1
  have eI : I = pJ I J := pJ_of x4 x5
  obtain ⟨a1, e1⟩ : ∃ a, a = S (i + 1) := ⟨_, rfl⟩
  have y1 : I [-3] (i + 1) = a1 := by rw [x3, e1]
  obtain ⟨a2, e2q⟩ : ∃ a, a = S (i + 2) := ⟨_, rfl⟩
  have y2 : I [-3] (i + 2) = a2 := by rw [x3, e2q]
  rw [← e1] at ha
  obtain ⟨J1, eJ⟩ : ∃ J1, J1 = uJ J (-1) 0 0 := ⟨_, rfl⟩
  have jf : ∀ k, k ≠ -1 → J1 k = J k := fun k hk => by rw [eJ, uJ_ne hk]
  have j : ∀ k x, k ≠ -1 → J1 k x = J k x := fun k x hk => by rw [jf k hk]
  have jm : ∀ x, x ≠ 0 → J1 (-1) x = J (-1) x := fun x hx => by rw [eJ, uJ_self, upI_ne _ _ hx]
  have j0 : J1 (-1) 0 = 0 := by rw [eJ, uJ_self, upI_self]
  have g1 : JI J1 := by rw [eJ]; exact l1.rf
  have c1 : RC J1 I ty ln I R := by rw [eJ]; exact h.j1
  have b1 : hsJ J1 a1 := by unfold hsJ; rw [jf 5 (by decide)]; exact ha
  have nh1 : NH J1 := l2.same (fun k x hk => j k x (by omega))
  rw [b_La_law_1224 q5 q6, w32_id (x := i + 1) (by omega) (by omega), w32_id (x := i + 2) (by omega) (by omega), and_t ⟨Or.inr x2.1, by omega, by omega⟩, and_t ⟨Or.inr x2.1, by omega, by omega⟩, y1, y2]
  refine w_forget f1 ?_
  have no : ∀ kk : Int, kk ≠ 0 → (∀ (K' : Kt) (X' : Xt), Mth (d + 11) M_Mo_forget [vR (some [2]), vI a1, vI a2] (ty, ln, pJ I J, R, c - 1, w - 6) K' X' = K' (some (vI 0)) (ty, ln, pJ I (uJ J (-1) 0 kk), R, c - 1, w - 6)) → Rn (d + 11) M_La_law K X 1241 [vR (some [-3]), vR (some [1]), vR (some [2]), vR (some [18]), vI i, u5, u6] [vI kk] (ty, ln, I, R, c - 1, w - 6) := fun kk hkk hm => by
    rw [eI]
    refine Eq.mpr (t_forget (J' := uJ J (-1) 0 kk) (v := 0) q5 q6 hS l5 x1 y1 y2 hm (by rw [uJ_self, upI_self]) (fun z => absurd z hkk)) ?_
    exact k _ _ _ _ _ _ _ _ _ rfl rfl (h.no hi.1.2)
  have ok : ∀ (y : Int) (J' : Int → Int → Int) (I1 : Nm → Int → Int), RC J' I ty ln I1 R → JI J' → NH J' → (∀ k x, k = 5 ∨ k = 15 ∨ k = 16 ∨ k = 17 ∨ k = 18 ∨ k = 19 ∨ k = 20 ∨ k = 23 → J' k x = J k x) → (∀ a, 0 ≤ a → a ≤ 9 → s10 (fun x => J' 13 (10 * a + x)) ≤ t + 1) → J' (-1) 0 = 0 → (∀ (K' : Kt) (X' : Xt), Mth (d + 11) M_Mo_forget [vR (some [2]), vI a1, vI a2] (ty, ln, pJ (up2 I1 [18] 0 y) J, R, c, w) K' X' = K' (some (vI y)) (ty, ln, pJ (up2 I1 [18] 0 y) J', R, c, w)) → kW (fun v h' => Rn (d + 11) M_La_law K X 1241 [vR (some [-3]), vR (some [1]), vR (some [2]), vR (some [18]), vI i, u5, u6] (v.toList ++ []) h') (some (vI y)) (ty, ln, I1, R, c, w) := fun y J' I1 hc hJ hN hj hb h0 hm => by
    refine ⟨y, rfl, x1, ?_⟩
    show Rn (d + 11) M_La_law K X 1241 [vR (some [-3]), vR (some [1]), vR (some [2]), vR (some [18]), vI i, u5, u6] [vI 0] (ty, ln, up2 I1 [18] 0 y, R, c, w)
    rw [pJ_e x4 x5 hc.ev]
    refine Eq.mpr (t_forget (J' := J') (v := y) q5 q6 hS l5 x1 (yS hc.ev y1) (yS hc.ev y2) hm h0 (fun _ => by rw [up2_self, upI_self])) ?_
    exact k _ _ _ _ _ _ _ _ _ rfl rfl (h.ok hJ hN hc hj hb hi.1.2)
  have r1 : RLs J1 I ty ln R := by rw [eJ]; exact h.r1
  have es : slotJ J1 a1 a2 = slotJ J a1 a2 := slotJ_c (JSl.same (fun k x hk => j k x (by omega)))
  have k20 := l1.1.1.k20 a1
  refine z_forget c1 g1.1 g1.2.1 r1 b1 (fun p p7 I1 R1 hc hL hF h7 => ?_) (fun p => ⟨hcw, Or.inl ⟨rfl, ?_⟩⟩) (fun p p7 => ⟨hcw, Or.inr ⟨rfl, ?_⟩⟩)
  · rw [es] at p hc hL ⊢
    rw [jf 7 (by decide)] at p7
    rw [jf 20 (by decide)] at hc hL ⊢
    have sr := (slotJ_r (J := J) (a := a1) (n := a2)).elim (fun z => absurd z (by omega)) id
    obtain ⟨J', eJ'⟩ : ∃ J', J' = (foA (uJ J1 16 (slotJ J a1 a2) (-1)) a1 (J 20 a1).toNat) := ⟨_, rfl⟩
    have gu : GI (uJ J1 16 (slotJ J a1 a2) (-1)) := g1.1.u (Or.inr ⟨by decide, by decide⟩) (Or.inl (by decide)) (by decide)
    obtain ⟨fg, fm, fo, -, -⟩ := foA_i (a := a1) gu ha.1 (J 20 a1).toNat (by omega)
    have hJ := g1.fo (a := a1) (s := slotJ J a1 a2) ha.1
    rw [jf 20 (by decide)] at hJ
    rw [← eJ'] at hc hL fm fo hJ ⊢
    have nu : NH (uJ J1 16 (slotJ J a1 a2) (-1)) := nh1.kw (a := a1) (KW.u (by omega)) b1.2
    have o : ∀ k x, k ≠ 16 → k ≠ 21 → k ≠ 22 → k ≠ 26 → k ≠ 25 → k ≠ 10 → k ≠ -1 → J'.2 k x = J k x := fun k x q1 q2 q3 q4 q5 q6 q7 => by rw [fo k x q2 q3 q4 q5 q6, uJ_ne q1, j k x q7]
    have fI : ∀ n x, fxh n → I1 n x = I n x := hF.2.2.1
    have fR : ∀ n x, fxR a1 n → ty n ≠ 0 → R1 n x = R n x := hF.2.2.2
    have hM1 : MOk ty ln R1 := ⟨l5.1, fun m m1 m2 m3 m4 => by rw [fR [2] m (Or.inl (Or.inl (Or.inl (Or.inl rfl)))) (by rw [l5.1]; decide)]; exact l5.2 m m1 m2 m3 m4⟩
    have ro : ro3 ln R1 a1 = ro3 ln R a1 := by
      obtain ⟨t0, -, -, -, -, -, -, ⟨-, t7⟩, ⟨-, t8⟩, ⟨-, t9⟩⟩ := l3.hs a1 ha
      have e8 : la R1 a1 8 = la R a1 8 := by unfold la; rw [fR _ _ (Or.inr (Or.inl rfl)) (by rw [t8]; decide)]
      have e9 : la R1 a1 9 = la R a1 9 := by unfold la; rw [fR _ _ (Or.inr (Or.inr rfl)) (by rw [t9]; decide)]
      unfold ro3
      rw [h7, e8, e9]
    refine ⟨J'.1, rfl, x1, ?_⟩
    show Rn (d + 11) M_La_law K X 1241 [vR (some [-3]), vR (some [1]), vR (some [2]), vR (some [18]), vI i, u5, u6] [vI 0] (ty, ln, up2 I1 [18] 0 J'.1, R1, c, w)
    have e2 : up2 I1 [18] 0 J'.1 = pJ (up2 I1 [18] 0 J'.1) J := by
      refine pJ_of ?_ (fun m hm => ?_)
      · rw [up2_ne (by decide), ← x4]; funext x; exact fI _ _ (Or.inl rfl)
      · rw [up2_ne (by simp), ← x5 m hm]; funext x; exact fI _ _ (Or.inr (Or.inl rfl))
    rw [e2]
    have ys : ∀ x, up2 I1 [18] 0 J'.1 [-3] x = S x := fun x => by rw [up2_ne (by decide), fI _ _ (by decide), x3]
    refine Eq.mpr (t_forget (J' := J'.2) (v := J'.1) (x1 := a1) (x2 := a2) q5 q6 hS hM1 x1 (by rw [ys, e1]) (by rw [ys, e2q]) (fun K' X' => ?_) (by rw [fm, uJ_ne (by decide)]; exact j0) (fun _ => by rw [up2_self, upI_self])) ?_
    · rw [m_forget hM1 l1.1, if_pos ⟨ha, p⟩, if_pos p7, ← eJ, ← eJ']
    · refine k _ _ _ _ _ _ _ _ _ rfl rfl (h.hp ha hJ (nu.same (fun k x hk => fo k x (by omega) (by omega) (by omega) (by omega) (by omega))) hc hL ipJ ⟨pJ_m, fun m hm => pJ_a hm⟩ (fun _ _ => ⟨rfl, rfl⟩) (fun _ hz _ _ => hz) fI (fun n x hn => fR n x (Or.inl hn)) l7.1 (fun x => o 5 x (by decide) (by decide) (by decide) (by decide) (by decide) (by decide) (by decide)) (fun x => o 13 x (by decide) (by decide) (by decide) (by decide) (by decide) (by decide) (by decide)) (fun x _ => o 20 x (by decide) (by decide) (by decide) (by decide) (by decide) (by decide) (by decide)) (by rw [o 20 _ (by decide) (by decide) (by decide) (by decide) (by decide) (by decide) (by decide)]; exact Int.le_refl _) ?_ ?_)
      · have := bC_s hi.1.2
        rw [o 20 _ (by decide) (by decide) (by decide) (by decide) (by decide) (by decide) (by decide)]
        omega
      · rw [o 20 _ (by decide) (by decide) (by decide) (by decide) (by decide) (by decide) (by decide), ro]
        unfold bW
        omega
  · rw [es] at p
    exact no 1 (by decide) (fun K' X' => by rw [m_forget l5 l1.1, if_neg (fun z => p z.2)])
  · rw [es] at p
    rw [jf 7 (by decide)] at p7
    exact no 2 (by decide) (fun K' X' => by rw [m_forget l5 l1.1, if_pos ⟨ha, p⟩, if_neg p7])
theorem q_seal {d : Nat} {K : Kt} {X : Xt} {S : Int → Int} {L t : Int} {J : Int → Int → Int} {ty : Nm → Nat} {ln : Nm → Int} {I : Nm → Int → Int} {R : Nm → Int → Option Nm} {c w : Nat} {i : Int} {u5 u6 : Vl} (q5 : isLg u5 = false) (q6 : isLg u6 = false) (h : LV S L t J ty ln I R c w) (hi : HI t i L) (ha : hsJ J (S (i + 1))) (k : NX d K X S L t i) : Rn (d + 11) M_La_law K X 514 [vR (some [-3]), vR (some [1]), vR (some [2]), vR (some [18]), vI i, u5, u6] [] (ty, ln, I, R, c, w) := by
  obtain ⟨l1, l2, l3, l4, l5, ⟨x1, x2, x3, x4, x5⟩, l7, l8, l9⟩ := id h
  have f1 : ty [1] = 100 := l3.g.1.1
  have hln := x2.2
  have hS : ty [-3] = 20 ∧ 0 ≤ i ∧ i + 6 ≤ ln [-3] ∧ ln [-3] ≤ 3072 := ⟨x2.1, by omega, by omega, by omega⟩
  have hcw := h.cw hi.1
  have eI : I = pJ I J := pJ_of x4 x5
  obtain ⟨a1, e1⟩ : ∃ a, a = S (i + 1) := ⟨_, rfl⟩
  have y1 : I [-3] (i + 1) = a1 := by rw [x3, e1]
  rw [← e1] at ha
  obtain ⟨J1, eJ⟩ : ∃ J1, J1 = uJ J (-1) 0 0 := ⟨_, rfl⟩
  have jf : ∀ k, k ≠ -1 → J1 k = J k := fun k hk => by rw [eJ, uJ_ne hk]
  have j : ∀ k x, k ≠ -1 → J1 k x = J k x := fun k x hk => by rw [jf k hk]
  have jm : ∀ x, x ≠ 0 → J1 (-1) x = J (-1) x := fun x hx => by rw [eJ, uJ_self, upI_ne _ _ hx]
  have j0 : J1 (-1) 0 = 0 := by rw [eJ, uJ_self, upI_self]
  have g1 : JI J1 := by rw [eJ]; exact l1.rf
  have c1 : RC J1 I ty ln I R := by rw [eJ]; exact h.j1
  have b1 : hsJ J1 a1 := by unfold hsJ; rw [jf 5 (by decide)]; exact ha
  have nh1 : NH J1 := l2.same (fun k x hk => j k x (by omega))
  rw [b_La_law_514 q5 q6, w32_id (x := i + 1) (by omega) (by omega), and_t ⟨Or.inr x2.1, by omega, by omega⟩, y1]
  refine w_seal f1 ?_
  have no : ∀ kk : Int, kk ≠ 0 → (∀ (K' : Kt) (X' : Xt), Mth (d + 11) M_Mo_seal [vR (some [2]), vI a1] (ty, ln, pJ I J, R, c - 1, w - 6) K' X' = K' (some (vI 0)) (ty, ln, pJ I (uJ J (-1) 0 kk), R, c - 1, w - 6)) → Rn (d + 11) M_La_law K X 525 [vR (some [-3]), vR (some [1]), vR (some [2]), vR (some [18]), vI i, u5, u6] [vI kk] (ty, ln, I, R, c - 1, w - 6) := fun kk hkk hm => by
    rw [eI]
    refine Eq.mpr (t_seal (J' := uJ J (-1) 0 kk) (v := 0) q5 q6 hS l5 x1 y1 hm (by rw [uJ_self, upI_self]) (fun z => absurd z hkk)) ?_
    exact k _ _ _ _ _ _ _ _ _ rfl rfl (h.no hi.1.2)
  have ok : ∀ (y : Int) (J' : Int → Int → Int) (I1 : Nm → Int → Int), RC J' I ty ln I1 R → JI J' → NH J' → (∀ k x, k = 5 ∨ k = 15 ∨ k = 16 ∨ k = 17 ∨ k = 18 ∨ k = 19 ∨ k = 20 ∨ k = 23 → J' k x = J k x) → (∀ a, 0 ≤ a → a ≤ 9 → s10 (fun x => J' 13 (10 * a + x)) ≤ t + 1) → J' (-1) 0 = 0 → (∀ (K' : Kt) (X' : Xt), Mth (d + 11) M_Mo_seal [vR (some [2]), vI a1] (ty, ln, pJ (up2 I1 [18] 0 y) J, R, c, w) K' X' = K' (some (vI y)) (ty, ln, pJ (up2 I1 [18] 0 y) J', R, c, w)) → kW (fun v h' => Rn (d + 11) M_La_law K X 525 [vR (some [-3]), vR (some [1]), vR (some [2]), vR (some [18]), vI i, u5, u6] (v.toList ++ []) h') (some (vI y)) (ty, ln, I1, R, c, w) := fun y J' I1 hc hJ hN hj hb h0 hm => by
    refine ⟨y, rfl, x1, ?_⟩
    show Rn (d + 11) M_La_law K X 525 [vR (some [-3]), vR (some [1]), vR (some [2]), vR (some [18]), vI i, u5, u6] [vI 0] (ty, ln, up2 I1 [18] 0 y, R, c, w)
    rw [pJ_e x4 x5 hc.ev]
    refine Eq.mpr (t_seal (J' := J') (v := y) q5 q6 hS l5 x1 (yS hc.ev y1) hm h0 (fun _ => by rw [up2_self, upI_self])) ?_
    exact k _ _ _ _ _ _ _ _ _ rfl rfl (h.ok hJ hN hc hj hb hi.1.2)
  have r1 : RLs J1 I ty ln R := by rw [eJ]; exact h.r1
  have ss : slS J1 a1 = slS J a1 := by rw [eJ, slS_1]
  obtain ⟨b13, bc, bw⟩ := l9
  have z1 := s10_0 (f := hcB J) (fun a _ _ => hcB_0 l1.1.1 a)
  have z2 := s10_0 (f := hwB J ln R) (fun a a0 a1 => hwB_0 l1.1.1 l4 ⟨a0, a1⟩)
  have z3 := bC_s hi.1.2
  have rs := rmA_s (a := a1) g1.1.1
  rw [jf 13 (by decide)] at rs
  have b13' := b13 a1 ha.1.1 ha.1.2
  have hw2 : 200000 ≤ w := by unfold bW at bw; omega
  refine z_seal c1 g1.1.1 g1.2.2.1 r1 j0 b1 (fun s s0 s1 => g1.2.2.2.1 a1 s ha.1.1 ha.1.2 s0 s1) l7.1 (fun s u s0 => l7.2.1 a1 s u ha (by rw [jf 20 (by decide)] at s0; exact s0)) (by omega) (by omega) hw2 (fun p7 ty1 ln1 I1 R1 c1' w1 hc hL f9 tt t0 fI fR bud => ?_) (fun p7 => ⟨hcw, Or.inr ⟨rfl, ?_⟩⟩)
  · rw [jf 7 (by decide)] at p7
    rw [ss] at hc hL t0 bud ⊢
    rw [jf 20 (by decide)] at bud
    have sw : ∀ k x, k = 5 ∨ k = 7 ∨ k = 8 ∨ k = 9 ∨ k = 11 ∨ k = 12 ∨ k = 13 ∨ (k = 15 ∧ x ≠ a1) ∨ (k = 16 ∧ ¬ (6 * a1 ≤ x ∧ x < 6 * a1 + 6)) ∨ (k = 20 ∧ x ≠ a1) → (slS J a1).2 k x = J k x := fun k x hk => slS_w l1 ha.1 hk
    have hJ := l1.sl ha.1 ha.2
    have s0' : (slS J a1).2 (-1) 0 = 0 := slS_0 l1 ha.1
    have s20 : J 20 a1 ≤ (slS J a1).2 20 a1 := slS_20 l1 ha.1
    obtain ⟨J', eJ'⟩ : ∃ J', J' = slS J a1 := ⟨_, rfl⟩
    rw [← eJ'] at hc hL t0 bud sw hJ s0' s20 ⊢
    have t18 := tt [18] (by rw [x1.1]; decide)
    have ts := tt [-3] (by rw [x2.1]; decide)
    have x1' : ty1 [18] = 3 ∧ ln1 [18] = 1 := by rw [t18.1, t18.2]; exact x1
    have hS1 : ty1 [-3] = 20 ∧ 0 ≤ i ∧ i + 6 ≤ ln1 [-3] ∧ ln1 [-3] ≤ 3072 := by rw [ts.1, ts.2]; exact hS
    have hM1 : MOk ty1 ln1 R1 := by
      have t2 := tt [2] (by rw [l5.1]; decide)
      refine ⟨t2.1.trans l5.1, fun m m1 m2 m3 m4 => ?_⟩
      obtain ⟨n1, n2, n3⟩ := l5.2 m m1 m2 m3 m4
      have mk : mK m ≠ 0 := by
        unfold mK
        split <;> decide
      have t3 := tt [3, m] (by rw [n2]; exact mk)
      rw [fR [2] m (Or.inl (Or.inl (Or.inl rfl))) (by rw [l5.1]; decide), t3.1, t3.2]
      exact ⟨n1, n2, n3⟩
    refine ⟨J'.1, rfl, x1', ?_⟩
    show Rn (d + 11) M_La_law K X 525 [vR (some [-3]), vR (some [1]), vR (some [2]), vR (some [18]), vI i, u5, u6] [vI 0] (ty1, ln1, up2 I1 [18] 0 J'.1, R1, c1', w1)
    have e2 : up2 I1 [18] 0 J'.1 = pJ (up2 I1 [18] 0 J'.1) J := by
      refine pJ_of ?_ (fun m hm => ?_)
      · rw [up2_ne (by decide), ← x4]; funext x; exact fI _ _ (Or.inl rfl)
      · rw [up2_ne (by simp), ← x5 m hm]; funext x; exact fI _ _ (Or.inr (Or.inl rfl))
    rw [e2]
    have ys : ∀ x, up2 I1 [18] 0 J'.1 [-3] x = S x := fun x => by rw [up2_ne (by decide), fI _ _ (by decide), x3]
    refine Eq.mpr (t_seal (J' := J'.2) (v := J'.1) (x1 := a1) q5 q6 hS1 hM1 x1' (by rw [ys, e1]) (fun K' X' => ?_) s0' (fun _ => by rw [up2_self, upI_self])) ?_
    · rw [m_seal hM1 l1.1.1 l1.2.2.1, if_pos ha, if_pos p7, ← eJ']
    · have rm : rmA J1 a1 10 = rmA J a1 10 := rmA_c (fun x => j 13 x (by decide)) 10
      rw [rm] at rs bud
      have rm0 := rmA_0 (a := a1) l1.1.1 10
      have k20 := l1.1.1.k20 a1
      refine k _ _ _ _ _ _ _ _ _ rfl rfl (h.hp ha hJ (l2.kw (a := a1) ⟨fun x => sw 5 x (by omega), fun k x hk hx => sw k x (by omega), fun k x hk _ => sw k x (by omega), fun x hx => sw 16 x (by omega)⟩ ha.2) hc hL ipJ ⟨pJ_m, fun m hm => pJ_a hm⟩ tt t0 fI fR f9 (fun x => sw 5 x (by omega)) (fun x => sw 13 x (by omega)) (fun x hx => sw 20 x (by omega)) s20 ?_ ?_)
      · have := z3.1
        have := z3.2.1
        omega
      · have b2 := bud.2
        unfold ro3 bW
        omega
  · rw [jf 7 (by decide)] at p7
    exact no 2 (by decide) (fun K' X' => by rw [m_seal l5 l1.1.1 l1.2.2.1, if_pos ha, if_neg p7])
