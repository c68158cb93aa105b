/-! ===== every call of the law; the loop; the law on every script ===== -/
set_option maxHeartbeats 1000000 in
theorem st_code {d : Nat} {K : Kt} {X : Xt} {S : Int → Int} {L t : Int} {J : Int → Int → Int} {ty : Nm → Nat} {ln : Nm → Int} {I : Nm → Int → Int} {R : Nm → Int → Option Nm} {c w : Nat} {i : Int} {u5 u6 : Vl} (q5 : isLg u5 = false) (q6 : isLg u6 = false) (h : LV S L t J ty ln I R c w) (hi : HI t i L) (k : NX d K X S L t i) : Rn (d + 11) M_La_law K X 148 [vR (some [-3]), vR (some [1]), vR (some [2]), vR (some [18]), vI i, u5, u6] [] (ty, ln, I, R, c, w) := by
  obtain ⟨l1, l2, l3, l4, l5, ⟨x1, x2, x3, x4, x5⟩, l7, l8, l9⟩ := id h
  have hln := x2.2
  have hS : ty [-3] = 20 ∧ 0 ≤ i ∧ i + 6 ≤ ln [-3] ∧ ln [-3] ≤ 3072 := ⟨x2.1, by omega, by omega, by omega⟩
  have hcw := h.cw hi.1
  have eI : I = pJ I J := pJ_of x4 x5
  have hG : RG J ty ln (pJ I J) R := by rw [← eI]; exact l3.g
  rw [eI]
  refine Eq.mpr (l_code q5 q6 hS l5 hG) ?_
  obtain ⟨a, ea⟩ : ∃ a, a = I [-3] (i + 1) := ⟨_, rfl⟩
  obtain ⟨b, eb⟩ : ∃ b, b = I [-3] (i + 2) := ⟨_, rfl⟩
  rw [← ea, ← eb]
  by_cases p : (2 ≤ a ∧ a ≤ 6) ∧ a ≤ b ∧ b ≤ 12
  · rw [if_pos p]
    by_cases p4 : J (-1) 4 = 0
    · rw [if_pos p4]
      have e : ∀ k x, k ≠ -1 → uJ (uJ (uJ J (-1) 0 0) (-1) 2 a) (-1) 3 b k x = J k x := fun k x hk => by rw [uJ_ne hk, uJ_ne hk, uJ_ne hk]
      refine k _ _ _ _ _ _ _ _ _ rfl q6 (h.go (I1 := up2 (up2 (up2 I [17] 3 a) [17] 4 b) [17] 5 (60 / a)) (l1.rf.cd (by rw [uJ_self, upI_ne _ _ (by decide)]; exact p4) p.1 p.2) (l2.same (fun k x hk => e k x (by omega))) (l3.cod (l1.2.1.2.2.2.2.2.2.1 p4) p.1 p.2 e (fun x h0 h2 h3 => by rw [uJ_self, upI_ne _ _ h3, uJ_self, upI_ne _ _ h2, uJ_self, upI_ne _ _ h0]) (by rw [uJ_self, upI_ne _ _ (by decide), uJ_self, upI_self]) (by rw [uJ_self, upI_self]) (fun n x hn => by rw [up2_ne hn, up2_ne hn, up2_ne hn]) (by rw [up2_self, upI_ne _ _ (by decide), up2_self, upI_ne _ _ (by decide), up2_self, upI_self]) (by rw [up2_self, upI_ne _ _ (by decide), up2_self, upI_self]) (by rw [up2_self, upI_self])) (fun n x h2 h3 _ => by rw [pJ_o h2 h3]) ⟨pJ_m, fun m hm => pJ_a hm⟩ (fun k x hk => e k x (by omega)) (h.b13 (fun x => e 13 x (by decide))) (Or.inl rfl) (Or.inl rfl) hi.1.2)
    · rw [if_neg p4]
      exact ⟨hcw, k _ _ _ _ _ _ _ _ _ rfl q6 (h.no hi.1.2)⟩
  · rw [if_neg p]
    exact ⟨hcw, k _ _ _ _ _ _ _ _ _ rfl q6 (h.no hi.1.2)⟩
theorem st_house {d : Nat} {K : Kt} {X : Xt} {S : Int → Int} {L t : Int} {J : Int → Int → Int} {ty : Nm → Nat} {ln : Nm → Int} {I : Nm → Int → Int} {R : Nm → Int → Option Nm} {c w : Nat} {i : Int} {u5 u6 : Vl} (q5 : isLg u5 = false) (q6 : isLg u6 = false) (h : LV S L t J ty ln I R c w) (hi : HI t i L) (k : NX d K X S L t i) : Rn (d + 11) M_La_law K X 196 [vR (some [-3]), vR (some [1]), vR (some [2]), vR (some [18]), vI i, u5, u6] [] (ty, ln, I, R, c, w) := by
  obtain ⟨l1, l2, l3, l4, l5, ⟨x1, x2, x3, x4, x5⟩, l7, l8, ⟨b1, b2, b3⟩⟩ := id h
  have hln := x2.2
  have hS : ty [-3] = 20 ∧ 0 ≤ i ∧ i + 6 ≤ ln [-3] ∧ ln [-3] ≤ 3072 := ⟨x2.1, by omega, by omega, by omega⟩
  have hcw := h.cw hi.1
  have eI : I = pJ I J := pJ_of x4 x5
  have hG : RG J ty ln (pJ I J) R := by rw [← eI]; exact l3.g
  have z1 := s10_0 (f := hcB J) (fun a _ _ => hcB_0 l1.1.1 a)
  have z2 := s10_0 (f := hwB J ln R) (fun a a0 a1 => hwB_0 l1.1.1 l4 ⟨a0, a1⟩)
  have z3 := bC_s hi.1.2
  have hw2 : 2073 ≤ w := by unfold bW at b3; omega
  rw [eI]
  by_cases q : (0 ≤ (I [-3] (i + 1)) ∧ (I [-3] (i + 1)) ≤ 9) ∧ 1 ≤ (I [-3] (i + 2)) ∧ (I [-3] (i + 2)) ≤ 400
  · by_cases q2 : 0 < J 5 (I [-3] (i + 1))
    · refine Eq.mpr (l_house_2 q5 q6 hS l5 hG q q2) ?_
      exact ⟨hcw, k _ _ _ _ _ _ _ _ _ rfl q6 (h.no hi.1.2)⟩
    · refine l_house_0 q5 q6 hS l5 hG q q2 (fun l => l7.2.2 _ l q.1.1 q.1.2 q2) (by omega) hw2 ?_
      intro ty' ln' I' R' k1 k2 k3 k4 k5 k6 k7 k8
      rw [← eI] at k5
      exact k _ _ _ _ _ _ _ _ _ rfl q6 (h.ho hi.1.2 q.1 q.2 q2 k1 k2 k3 k4 k5 k6 k7 k8)
  · refine Eq.mpr (l_house_1 q5 q6 hS l5 hG q) ?_
    exact ⟨hcw, k _ _ _ _ _ _ _ _ _ rfl q6 (h.no hi.1.2)⟩
theorem st_restored {d : Nat} {K : Kt} {X : Xt} {S : Int → Int} {L t : Int} {J : Int → Int → Int} {ty : Nm → Nat} {ln : Nm → Int} {I : Nm → Int → Int} {R : Nm → Int → Option Nm} {c w : Nat} {i : Int} {u5 u6 : Vl} (q5 : isLg u5 = false) (q6 : isLg u6 = false) (h : LV S L t J ty ln I R c w) (hi : HI t i L) (k : NX d K X S L t i) : Rn (d + 11) M_La_law K X 1199 [vR (some [-3]), vR (some [1]), vR (some [2]), vR (some [18]), vI i, u5, u6] [] (ty, ln, I, R, c, w) := by
  obtain ⟨l1, l2, l3, l4, l5, ⟨x1, x2, x3, x4, x5⟩, l7, l8, l9⟩ := id h
  have hln := x2.2
  have hS : ty [-3] = 20 ∧ 0 ≤ i ∧ i + 6 ≤ ln [-3] ∧ ln [-3] ≤ 3072 := ⟨x2.1, by omega, by omega, by omega⟩
  have eI : I = pJ I J := pJ_of x4 x5
  have hG : RG J ty ln (pJ I J) R := by rw [← eI]; exact l3.g
  have e : ∀ k x, k ≠ -1 → uJ J (-1) 0 0 k x = J k x := fun k x hk => by rw [uJ_ne hk]
  rw [eI]
  refine Eq.mpr (l_restored q5 q6 hS l5 hG) ?_
  exact k _ _ _ _ _ _ _ _ _ q5 q6 (h.go (I1 := I) l1.rf (l2.same (fun k x hk => e k x (by omega))) h.j1 (fun n x h2 h3 _ => by rw [pJ_o h2 h3]) ⟨pJ_m, fun m hm => pJ_a hm⟩ (fun k x hk => e k x (by omega)) (h.b13 (fun x => e 13 x (by decide))) (Or.inl rfl) (Or.inl rfl) hi.1.2)
set_option maxHeartbeats 1000000 in
theorem st_settle {d : Nat} {K : Kt} {X : Xt} {S : Int → Int} {L t : Int} {J : Int → Int → Int} {ty : Nm → Nat} {ln : Nm → Int} {I : Nm → Int → Int} {R : Nm → Int → Option Nm} {c w : Nat} {i : Int} {u5 u6 : Vl} (q5 : isLg u5 = false) (q6 : isLg u6 = false) (h : LV S L t J ty ln I R c w) (hi : HI t i L) (k : NX d K X S L t i) : Rn (d + 11) M_La_law K X 1576 [vR (some [-3]), vR (some [1]), vR (some [2]), vR (some [18]), vI i, u5, u6] [] (ty, ln, I, R, c, w) := by
  obtain ⟨l1, l2, l3, l4, l5, ⟨x1, x2, x3, x4, x5⟩, l7, l8, l9⟩ := id h
  have hln := x2.2
  have hS : ty [-3] = 20 ∧ 0 ≤ i ∧ i + 6 ≤ ln [-3] ∧ ln [-3] ≤ 3072 := ⟨x2.1, by omega, by omega, by omega⟩
  have hcw := h.cw hi.1
  have eI : I = pJ I J := pJ_of x4 x5
  have hG : RG J ty ln (pJ I J) R := by rw [← eI]; exact l3.g
  have hr := l_settle (d := d + 3) (K := K) (X := X) (c := c) (w := w) q5 q6 hS l5 hG (fun a a0 a1 z => l3.hs a ⟨⟨a0, a1⟩, z⟩) (fun j => l1.1.1.k11 j) (fun j => l1.1.1.k10 j)
  obtain ⟨x, ex⟩ : ∃ x, x = I [-3] (i + 1) := ⟨_, rfl⟩
  rw [← ex] at hr
  rw [eI]
  refine Eq.mpr hr ?_
  by_cases p : J (-1) 1 ≤ x ∧ x ≤ 10000
  · rw [if_pos p, ← eI]
    obtain ⟨J', eJ⟩ : ∃ J', J' = uJ (wJ (uJ J (-1) 0 0) 11 0 100 (fun j => J 11 j + (x - J (-1) 1) * J 10 j)) (-1) 1 x := ⟨_, rfl⟩
    rw [← eJ]
    have e : ∀ k y, k ≠ -1 → k ≠ 11 → J' k y = J k y := fun k y h1 h2 => by rw [eJ, uJ_ne h1, wJ_ne h2, uJ_ne h1]
    have e11 : ∀ y, 0 ≤ y → y < 100 → J' 11 y = J 11 y + (x - J (-1) 1) * J 10 y := fun y h1 h2 => by rw [eJ, uJ_ne (by decide), wJ_in ⟨h1, h2⟩]
    have em : ∀ y, y ≠ 0 → y ≠ 1 → J' (-1) y = J (-1) y := fun y h0 h1 => by rw [eJ, uJ_self, upI_ne _ _ h1, wJ_ne (by decide), uJ_self, upI_ne _ _ h0]
    have e1 : J' (-1) 1 = x := by rw [eJ, uJ_self, upI_self]
    have m1 : uJ J (-1) 0 0 (-1) 1 = J (-1) 1 := by rw [uJ_self, upI_ne _ _ (by decide)]
    have hJ := (l1.rf (v := 0)).st (x := x) (by rw [m1]; exact p)
    rw [m1, show uJ J (-1) 0 0 11 = J 11 from uJ_ne (by decide), show uJ J (-1) 0 0 10 = J 10 from uJ_ne (by decide), ← eJ] at hJ
    have hN : NH J' := fun b b0 b1 hb => by
      rw [e 5 _ (by decide) (by decide)] at hb
      obtain ⟨y1, y2, y3⟩ := l2 b b0 b1 hb
      refine ⟨by rw [e 7 _ (by decide) (by decide), e 8 _ (by decide) (by decide), e 15 _ (by decide) (by decide)]; exact y1, fun z z0 z1 => ?_, fun z z0 z1 => by rw [e 16 _ (by decide) (by decide)]; exact y3 z z0 z1⟩
      obtain ⟨w1, w2, w3⟩ := y2 z z0 z1
      rw [e 9 _ (by decide) (by decide), e11 z (by omega) (by omega), e 12 _ (by decide) (by decide), w2, NH.st l1.1 l1.2.1 ⟨b0, b1⟩ hb ⟨z0, z1⟩, Int.mul_zero]
      exact ⟨w1, rfl, w3⟩
    refine k _ _ _ _ _ _ _ _ _ rfl q6 (h.go (I1 := up2 (stD I J (x - J (-1) 1) 10) [1] 8 x) hJ hN (l3.set l1.1.1 p e e11 em e1 (fun n y hn => ?_) (by rw [up2_self, upI_self])) (fun n x h2 h3 _ => by rw [pJ_o h2 h3]) ⟨pJ_m, fun m hm => pJ_a hm⟩ (fun k x hk => e k x (by omega) (by omega)) (h.b13 (fun x => e 13 x (by decide) (by decide))) (Or.inl rfl) (Or.inl rfl) hi.1.2)
    by_cases z : n = [1]
    · rw [z, up2_self, upI_ne _ _ (hn.elim (fun y => absurd z y) id)]
    · rw [up2_ne z]
  · rw [if_neg p]
    exact ⟨hcw, k _ _ _ _ _ _ _ _ _ rfl q6 (h.no hi.1.2)⟩
theorem LV.sk {S : Int → Int} {L t : Int} {J : Int → Int → Int} {ty : Nm → Nat} {ln : Nm → Int} {I : Nm → Int → Int} {R : Nm → Int → Option Nm} {c w : Nat} (h : LV S L t J ty ln I R c w) (ht : t < 512) : LV S L (t + 1) J ty ln I R c w :=
  h.go (I1 := I) h.1 h.2.1 h.2.2.1 (fun _ _ _ _ _ => rfl) h.2.2.2.2.2.1.2.2.2 (fun _ _ _ => rfl) (h.b13 (fun _ => rfl)) (Or.inl rfl) (Or.inl rfl) ht
theorem st_all {d : Nat} {K : Kt} {X : Xt} {S : Int → Int} {L t : Int} {J : Int → Int → Int} {ty : Nm → Nat} {ln : Nm → Int} {I : Nm → Int → Int} {R : Nm → Int → Option Nm} {c w : Nat} {i : Int} {u5 u6 : Vl} (q5 : isLg u5 = false) (q6 : isLg u6 = false) (h : LV S L t J ty ln I R c w) (hi : HI t i L) (k : NX d K X S L t i) : Rn (d + 11) M_La_law K X 23 [vR (some [-3]), vR (some [1]), vR (some [2]), vR (some [18]), vI i, u5, u6] [] (ty, ln, I, R, c, w) := by
  obtain ⟨l1, l2, l3, l4, l5, ⟨x1, x2, x3, x4, x5⟩, l7, l8, l9⟩ := id h
  have hln := x2.2
  have hS : ty [-3] = 20 ∧ 0 ≤ i ∧ i + 6 ≤ ln [-3] ∧ ln [-3] ≤ 3072 := ⟨x2.1, by omega, by omega, by omega⟩
  have hcw := h.cw hi.1
  have eI : I = pJ I J := pJ_of x4 x5
  have hG : RG J ty ln (pJ I J) R := by rw [← eI]; exact l3.g
  have hno := h.no (v := 1) hi.1.2
  refine l_sw q5 q6 hS ?_
  intro o o1 o2
  clear o2
  by_cases c0 : o = 0
  · subst c0; exact st_code q5 q6 h hi k
  by_cases c1 : o = 1
  · subst c1; exact st_house q5 q6 h hi k
  by_cases c2 : o = 2
  · subst c2
    show Rn (d + 11) M_La_law K X 244 [vR (some [-3]), vR (some [1]), vR (some [2]), vR (some [18]), vI i, u5, u6] [] (ty, ln, I, R, c, w)
    by_cases ha : hsJ J (S (i + 1))
    · exact q_contract q5 q6 h hi ha k
    · rw [eI]
      refine Eq.mpr (l_no_contract q5 q6 hS l5 hG (by rw [x3]; exact ha)) ?_
      exact ⟨hcw, k _ _ _ _ _ _ _ _ _ rfl rfl hno⟩
  by_cases c3 : o = 3
  · subst c3
    show Rn (d + 11) M_La_law K X 331 [vR (some [-3]), vR (some [1]), vR (some [2]), vR (some [18]), vI i, u5, u6] [] (ty, ln, I, R, c, w)
    by_cases ha : hsJ J (S (i + 1))
    · exact q_write q5 q6 h hi ha k
    · rw [eI]
      refine Eq.mpr (l_no_write q5 q6 hS l5 hG (by rw [x3]; exact ha)) ?_
      exact ⟨hcw, k _ _ _ _ _ _ _ _ _ rfl rfl hno⟩
  by_cases c4 : o = 4
  · subst c4
    show Rn (d + 11) M_La_law K X 411 [vR (some [-3]), vR (some [1]), vR (some [2]), vR (some [18]), vI i, u5, u6] [] (ty, ln, I, R, c, w)
    by_cases ha : hsJ J (S (i + 1))
    · exact q_file q5 q6 h hi ha k
    · rw [eI]
      refine Eq.mpr (l_no_file q5 q6 hS l5 hG (by rw [x3]; exact ha)) ?_
      exact ⟨hcw, k _ _ _ _ _ _ _ _ _ rfl rfl hno⟩
  by_cases c5 : o = 5
  · subst c5
    show Rn (d + 11) M_La_law K X 514 [vR (some [-3]), vR (some [1]), vR (some [2]), vR (some [18]), vI i, u5, u6] [] (ty, ln, I, R, c, w)
    by_cases ha : hsJ J (S (i + 1))
    · exact q_seal q5 q6 h hi ha k
    · rw [eI]
      refine Eq.mpr (l_no_seal q5 q6 hS l5 hG (by rw [x3]; exact ha)) ?_
      exact ⟨hcw, k _ _ _ _ _ _ _ _ _ rfl rfl hno⟩
  by_cases c6 : o = 6
  · subst c6
    show Rn (d + 11) M_La_law K X 570 [vR (some [-3]), vR (some [1]), vR (some [2]), vR (some [18]), vI i, u5, u6] [] (ty, ln, I, R, c, w)
    by_cases ha : hsJ J (S (i + 1))
    · exact q_push q5 q6 h hi ha k
    · rw [eI]
      refine Eq.mpr (l_no_push q5 q6 hS l5 hG (by rw [x3]; exact ha)) ?_
      exact ⟨hcw, k _ _ _ _ _ _ _ _ _ rfl rfl hno⟩
  by_cases c7 : o = 7
  · subst c7
    show Rn (d + 11) M_La_law K X 626 [vR (some [-3]), vR (some [1]), vR (some [2]), vR (some [18]), vI i, u5, u6] [] (ty, ln, I, R, c, w)
    by_cases ha : hsJ J (S (i + 1))
    · exact q_up q5 q6 h hi ha k
    · rw [eI]
      refine Eq.mpr (l_no_up q5 q6 hS l5 hG (by rw [x3]; exact ha)) ?_
      exact ⟨hcw, k _ _ _ _ _ _ _ _ _ rfl rfl hno⟩
  by_cases c8 : o = 8
  · subst c8
    show Rn (d + 11) M_La_law K X 717 [vR (some [-3]), vR (some [1]), vR (some [2]), vR (some [18]), vI i, u5, u6] [] (ty, ln, I, R, c, w)
    by_cases ha : hsJ J (S (i + 1))
    · exact q_loseDisk q5 q6 h hi ha k
    · rw [eI]
      refine Eq.mpr (l_no_loseDisk q5 q6 hS l5 hG (by rw [x3]; exact ha)) ?_
      exact ⟨hcw, k _ _ _ _ _ _ _ _ _ rfl q6 hno⟩
  by_cases c9 : o = 9
  · subst c9
    show Rn (d + 11) M_La_law K X 753 [vR (some [-3]), vR (some [1]), vR (some [2]), vR (some [18]), vI i, u5, u6] [] (ty, ln, I, R, c, w)
    by_cases ha : hsJ J (S (i + 1))
    · exact q_harm q5 q6 h hi ha k
    · rw [eI]
      refine Eq.mpr (l_no_harm q5 q6 hS l5 hG (fun j => l1.1.1.k20 j) (by rw [x3]; exact ha)) ?_
      exact ⟨hcw, k _ _ _ _ _ _ _ _ _ rfl rfl hno⟩
  by_cases c10 : o = 10
  · subst c10
    show Rn (d + 11) M_La_law K X 864 [vR (some [-3]), vR (some [1]), vR (some [2]), vR (some [18]), vI i, u5, u6] [] (ty, ln, I, R, c, w)
    by_cases ha : hsJ J (S (i + 1))
    · exact q_recover q5 q6 h hi ha k
    · rw [eI]
      refine Eq.mpr (l_no_recover q5 q6 hS l5 hG (by rw [x3]; exact ha)) ?_
      exact ⟨hcw, k _ _ _ _ _ _ _ _ _ rfl rfl hno⟩
  by_cases c11 : o = 11
  · subst c11
    show Rn (d + 11) M_La_law K X 927 [vR (some [-3]), vR (some [1]), vR (some [2]), vR (some [18]), vI i, u5, u6] [] (ty, ln, I, R, c, w)
    by_cases ha : hsJ J (S (i + 1))
    · exact q_sample q5 q6 h hi ha k
    · rw [eI]
      refine Eq.mpr (l_no_sample q5 q6 hS l5 hG (fun j => l1.1.1.k20 j) (by rw [x3]; exact ha)) ?_
      exact ⟨hcw, k _ _ _ _ _ _ _ _ _ rfl rfl hno⟩
  by_cases c12 : o = 12
  · subst c12
    show Rn (d + 11) M_La_law K X 1007 [vR (some [-3]), vR (some [1]), vR (some [2]), vR (some [18]), vI i, u5, u6] [] (ty, ln, I, R, c, w)
    by_cases ha : hsJ J (S (i + 1))
    · exact q_audit q5 q6 h hi ha k
    · rw [eI]
      refine Eq.mpr (l_no_audit q5 q6 hS l5 hG (by rw [x3]; exact ha)) ?_
      exact ⟨hcw, k _ _ _ _ _ _ _ _ _ rfl rfl hno⟩
  by_cases c13 : o = 13
  · subst c13
    show Rn (d + 11) M_La_law K X 1063 [vR (some [-3]), vR (some [1]), vR (some [2]), vR (some [18]), vI i, u5, u6] [] (ty, ln, I, R, c, w)
    by_cases ha : hsJ J (S (i + 1))
    · exact q_repair q5 q6 h hi ha k
    · rw [eI]
      refine Eq.mpr (l_no_repair q5 q6 hS l5 hG (by rw [x3]; exact ha)) ?_
      exact ⟨hcw, k _ _ _ _ _ _ _ _ _ rfl rfl hno⟩
  by_cases c14 : o = 14
  · subst c14
    show Rn (d + 11) M_La_law K X 1119 [vR (some [-3]), vR (some [1]), vR (some [2]), vR (some [18]), vI i, u5, u6] [] (ty, ln, I, R, c, w)
    by_cases ha : hsJ J (S (i + 1))
    · exact q_restore q5 q6 h hi ha k
    · rw [eI]
      refine Eq.mpr (l_no_restore q5 q6 hS l5 hG (by rw [x3]; exact ha)) ?_
      exact ⟨hcw, k _ _ _ _ _ _ _ _ _ rfl rfl hno⟩
  by_cases c15 : o = 15
  · subst c15; exact st_restored q5 q6 h hi k
  by_cases c16 : o = 16
  · subst c16
    show Rn (d + 11) M_La_law K X 1224 [vR (some [-3]), vR (some [1]), vR (some [2]), vR (some [18]), vI i, u5, u6] [] (ty, ln, I, R, c, w)
    by_cases ha : hsJ J (S (i + 1))
    · exact q_forget q5 q6 h hi ha k
    · rw [eI]
      refine Eq.mpr (l_no_forget q5 q6 hS l5 hG (by rw [x3]; exact ha)) ?_
      exact ⟨hcw, k _ _ _ _ _ _ _ _ _ rfl rfl hno⟩
  by_cases c17 : o = 17
  · subst c17
    show Rn (d + 11) M_La_law K X 1292 [vR (some [-3]), vR (some [1]), vR (some [2]), vR (some [18]), vI i, u5, u6] [] (ty, ln, I, R, c, w)
    by_cases ha : hsJ J (S (i + 1))
    · exact q_health q5 q6 h hi ha k
    · rw [eI]
      refine Eq.mpr (l_no_health q5 q6 hS l5 hG (fun j => l1.1.1.k20 j) (by rw [x3]; exact ha)) ?_
      exact ⟨hcw, k _ _ _ _ _ _ _ _ _ rfl rfl hno⟩
  by_cases c18 : o = 18
  · subst c18
    show Rn (d + 11) M_La_law K X 1360 [vR (some [-3]), vR (some [1]), vR (some [2]), vR (some [18]), vI i, u5, u6] [] (ty, ln, I, R, c, w)
    by_cases ha : hsJ J (S (i + 1))
    · exact q_keeper q5 q6 h hi ha k
    · rw [eI]
      refine Eq.mpr (l_no_keeper q5 q6 hS l5 hG (fun j => l1.1.1.k20 j) (by rw [x3]; exact ha)) ?_
      exact ⟨hcw, k _ _ _ _ _ _ _ _ _ rfl rfl hno⟩
  by_cases c19 : o = 19
  · subst c19
    show Rn (d + 11) M_La_law K X 1440 [vR (some [-3]), vR (some [1]), vR (some [2]), vR (some [18]), vI i, u5, u6] [] (ty, ln, I, R, c, w)
    by_cases ha : hsJ J (S (i + 1))
    · exact q_count q5 q6 h hi ha k
    · rw [eI]
      refine Eq.mpr (l_no_count q5 q6 hS l5 hG (by rw [x3]; exact ha)) ?_
      exact ⟨hcw, k _ _ _ _ _ _ _ _ _ rfl rfl hno⟩
  by_cases c20 : o = 20
  · subst c20
    show Rn (d + 11) M_La_law K X 1508 [vR (some [-3]), vR (some [1]), vR (some [2]), vR (some [18]), vI i, u5, u6] [] (ty, ln, I, R, c, w)
    by_cases ha : hsJ J (S (i + 1))
    · exact q_stored q5 q6 h hi ha k
    · rw [eI]
      refine Eq.mpr (l_no_stored q5 q6 hS l5 hG (by rw [x3]; exact ha)) ?_
      exact ⟨hcw, k _ _ _ _ _ _ _ _ _ rfl rfl hno⟩
  by_cases c21 : o = 21
  · subst c21; exact st_settle q5 q6 h hi k
  by_cases c22 : o = 22
  · subst c22
    show Rn (d + 11) M_La_law K X 1612 [vR (some [-3]), vR (some [1]), vR (some [2]), vR (some [18]), vI i, u5, u6] [] (ty, ln, I, R, c, w)
    by_cases ha : hsJ J (S (i + 1))
    · exact q_balance q5 q6 h hi ha k
    · rw [eI]
      refine Eq.mpr (l_no_balance q5 q6 hS l5 hG (by rw [x3]; exact ha)) ?_
      exact ⟨hcw, k _ _ _ _ _ _ _ _ _ rfl rfl hno⟩
  have e : swT o = 1680 := by
    have : ∀ o : Nat, o < 32 → 23 ≤ o → swT o = 1680 := by decide +kernel
    exact this o o1 (by omega)
  rw [e]
  exact k _ _ _ _ _ _ _ _ _ q5 q6 (h.sk hi.1.2)
theorem loop_w {d : Nat} {K : Kt} {X : Xt} {S : Int → Int} {L : Int} (hK : ∀ h, K (some (vI 1)) h) (hL : 0 ≤ L ∧ L ≤ 3072) : ∀ (n : Nat) (t : Int) (J : Int → Int → Int) (ty : Nm → Nat) (ln : Nm → Int) (I : Nm → Int → Int) (R : Nm → Int → Option Nm) (c w : Nat) (u5 u6 : Vl), isLg u5 = false → isLg u6 = false → 0 ≤ t → t + n = 512 → LV S L t J ty ln I R c w → Rn (d + 11) M_La_law K X 23 [vR (some [-3]), vR (some [1]), vR (some [2]), vR (some [18]), vI (6 * t), u5, u6] [] (ty, ln, I, R, c, w)
  | 0, t, J, ty, ln, I, R, c, w, u5, u6, q5, q6, t0, tn, h => by
    have x2 := h.2.2.2.2.2.1.2.1
    have hln := x2.2
    rw [l_exit q5 q6 ⟨x2.1, by omega, by omega, by omega, by omega, by omega⟩]
    exact hK _
  | n + 1, t, J, ty, ln, I, R, c, w, u5, u6, q5, q6, t0, tn, h => by
    have x2 := h.2.2.2.2.2.1.2.1
    have hln := x2.2
    by_cases q : ln [-3] < 6 * t + 6
    · rw [l_exit q5 q6 ⟨x2.1, by omega, by omega, by omega, q, by omega⟩]
      exact hK _
    · refine st_all q5 q6 h ⟨⟨t0, by omega⟩, rfl, by omega, hL.2⟩ ?_
      intro J' ty' ln' I' R' c' w' v5 v6 p5 p6 h'
      rw [b_La_law_1680 p5 p6, w32_id (by omega) (by omega), show 6 * t + 6 = 6 * (t + 1) by omega]
      exact loop_w hK hL n (t + 1) J' ty' ln' I' R' c' w' v5 v6 p5 p6 (by omega) (by omega) h'
theorem law_w {d : Nat} {K : Kt} {X : Xt} {ty : Nm → Nat} {ln : Nm → Int} {I : Nm → Int → Int} {R : Nm → Int → Option Nm} {c w : Nat} (hs : ty [-3] = 20) (h6 : 0 ≤ ln [-3] ∧ ln [-3] ≤ 3072) (hf : ∀ n, 1 ≤ hd n → ty n = 0) (hI : ∀ n, 1 ≤ hd n → I n = fun _ => 0) (hE : ty nE = 20 ∧ ln nE = 0 ∧ ∀ j, R nE j = none) (hc9 : 200000 ≤ c) (hw9 : 8000000 ≤ w) (hK : ∀ h, K (some (vI 1)) h) :
    Rn (d + 11) M_La_law K X 0 [vR (some [-3]), vJ, vJ, vJ, vJ, vJ, vJ] [] (ty, ln, I, R, c, w) := by
  refine l_start (d := d + 8) hs hf hI (by omega) (by omega) ?_
  intro ty' ln' I' R' hM hG a3 a4 a5
  have j5 : ∀ x, J0 5 x = 0 := fun x => J0_o (by decide) (by decide) (by decide)
  have nh : ∀ a, ¬ hsJ J0 a := fun a z => by have := z.2; rw [j5] at this; omega
  have fr : ∀ n, hd n ≠ 1 → hd n ≠ 2 → hd n ≠ 3 → hd n ≠ 16 → hd n ≠ 17 → hd n ≠ 18 → ty' n = ty n ∧ ln' n = ln n ∧ R' n = R n := a5
  have hN := fr nE (by decide) (by decide) (by decide) (by decide) (by decide) (by decide)
  refine loop_w (S := I [-3]) (L := ln [-3]) hK h6 512 0 J0 ty' ln' (pJ I' J0) R' (c - 65) (w - 329471) vJ vJ rfl rfl (Int.le_refl _) rfl ?_
  refine ⟨JI.z, fun b b0 b1 _ => ⟨⟨J0_o (by decide) (by decide) (by decide), J0_o (by decide) (by decide) (by decide), J0_o (by decide) (by decide) (by decide)⟩, fun x _ _ => ⟨J0_o (by decide) (by decide) (by decide), J0_o (by decide) (by decide) (by decide), J0_o (by decide) (by decide) (by decide)⟩, fun x x0 x1 => by rw [J0_16, if_pos (by omega)]⟩, ⟨hG, fun a z => absurd z (nh a), fun a z => absurd z (nh a), fun a z => absurd z (nh a), fun a s z => absurd z.1 (nh a), fun a s z => absurd z.1 (nh a), fun n x k y hl => ?_, fun a u z => absurd z (nh a), fun _ _ _ => rfl⟩, fun b z => absurd z (nh b), hM, ⟨a3, ⟨a4.1, a4.2.1⟩, fun x => by rw [pJ_s, a4.2.2], pJ_m, fun k hk => pJ_a hk⟩, ⟨fun b q _ => ?_, fun a s u z => absurd z (nh a), fun a l _ _ _ => ?_⟩, ⟨hN.1.trans hE.1, hN.2.1.trans hE.2.1, fun j => by rw [hN.2.2]; exact hE.2.2 j⟩, fun a _ _ => ?_, ?_, ?_⟩
  · unfold LK at hl
    rcases hl with ⟨a, h1, _⟩ | ⟨a, b, h1, _⟩ | ⟨a, t, h1, _⟩ | ⟨a, s, h1, _⟩ | ⟨a, s, b, h1, _⟩ | ⟨a, s, j, h1, _⟩ | ⟨a, s, j, h1, _⟩ | ⟨a, s, j, h1, _⟩
    · exact absurd h1 (nh a)
    · exact absurd h1 (nh a)
    · exact absurd h1 (nh a)
    · exact absurd h1.1 (nh a)
    · exact absurd h1.1 (nh a)
    · exact absurd h1.1.1 (nh a)
    · exact absurd h1.1.1 (nh a)
    · exact absurd h1.1.1 (nh a)
  · rw [(fr [12, b, q] (by simp [hd]) (by simp [hd]) (by simp [hd]) (by simp [hd]) (by simp [hd]) (by simp [hd])).1]
    exact hf _ (by simp [hd])
  · rw [(fr (4 :: a :: l) (by simp [hd]) (by simp [hd]) (by simp [hd]) (by simp [hd]) (by simp [hd]) (by simp [hd])).1]
    exact hf _ (by simp [hd])
  · rw [s10_eq (f := fun _ => 0) (fun x _ _ => J0_o (by decide) (by decide) (by decide))]
    decide
  · have e : s10 (hcB J0) = s10 (fun _ => 1659) := s10_eq (fun a _ _ => if_neg (by rw [j5]; decide))
    rw [e, show s10 (fun _ => 1659) = 16590 from rfl, show bC 0 = 162968 from rfl]
    omega
  · have e : s10 (hwB J0 ln' R') = s10 (fun _ => 73753) := s10_eq (fun a _ _ => if_neg (by rw [j5]; decide))
    rw [e, show s10 (fun _ => 73753) = 737530 from rfl, show bW 0 = 4932928 from rfl]
    omega
