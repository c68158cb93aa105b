/-! ===== the class on the relation: harm, contract ===== -/
theorem hm_no {J : Int → Int → Int} {k o s b x : Int} {n : Nat} (h : ∀ j : Int, 0 ≤ j → j < n → ¬ (J 25 (12 * s + j) = k ∧ J 26 (12 * s + j) ≠ 0)) : ∀ q : Nat, q ≤ n → hmJ J k o s b x n q = (0, J)
  | 0, _ => rfl
  | q + 1, hq => (if_neg (h ((n : Int) - (q + 1)) (by omega) (by omega))).trans (hm_no h q (by omega))
theorem hm_yes {J : Int → Int → Int} {k o s b x j : Int} {n : Nat} (hj : 0 ≤ j ∧ j < n) (e : J 25 (12 * s + j) = k ∧ J 26 (12 * s + j) ≠ 0) (u : ∀ i : Int, 0 ≤ i → i < n → J 25 (12 * s + i) = k → i = j) : ∀ q : Nat, q ≤ n → (n : Int) - q ≤ j → hmJ J k o s b x n q = (1, if x = 0 then loseJ J o (12 * s + j) else uJ J 27 (30 * (12 * s + j) + b) (xorZ (J 27 (30 * (12 * s + j) + b)) x))
  | 0, _, hq => by omega
  | q + 1, hq, hq2 => by
    by_cases c : (n : Int) - (q + 1) = j
    · refine (if_pos ?_).trans ?_
      · rw [c]; exact e
      · rw [c]
    · refine (if_neg (fun z => c (u _ (by omega) (by omega) z.1))).trans (hm_yes hj e u q (by omega) (by omega))
theorem VI.hm {J : Int → Int → Int} {k o s b x : Int} {n : Nat} (h : VI J) : ∀ q : Nat, VI (hmJ J k o s b x n q).2
  | 0 => h
  | q + 1 => by
    by_cases c : J 25 (12 * s + ((n : Int) - (q + 1))) = k ∧ J 26 (12 * s + ((n : Int) - (q + 1))) ≠ 0
    · rw [show hmJ J k o s b x n (q + 1) = (1, if x = 0 then loseJ J o (12 * s + ((n : Int) - (q + 1))) else uJ J 27 (30 * (12 * s + ((n : Int) - (q + 1))) + b) (xorZ (J 27 (30 * (12 * s + ((n : Int) - (q + 1))) + b)) x)) from if_pos c]
      show VI (if x = 0 then loseJ J o (12 * s + ((n : Int) - (q + 1))) else uJ J 27 (30 * (12 * s + ((n : Int) - (q + 1))) + b) (xorZ (J 27 (30 * (12 * s + ((n : Int) - (q + 1))) + b)) x))
      by_cases z : x = 0
      · rw [if_pos z]
        refine h.lost (fun k x hk => loseJ_o ⟨by omega, by omega⟩) (fun x _ => by rw [loseJ_m]) (fun p _ _ => ?_)
        rw [loseJ_o (by decide)]
        unfold loseJ
        split
        · by_cases e : p = 12 * s + ((n : Int) - (q + 1))
          · right; rw [uJ_ne (by decide), uJ_self, e, upI_self]; exact ⟨rfl, Or.inl rfl⟩
          · left; rw [uJ_ne (by decide), uJ_self, upI_ne _ _ e]; exact ⟨rfl, rfl⟩
        · exact Or.inl ⟨rfl, rfl⟩
      · rw [if_neg z]
        exact h.lost (fun k x hk => by rw [uJ_ne (by omega)]) (fun x _ => by rw [uJ_ne (by decide)]) (fun p _ _ => Or.inl ⟨by rw [uJ_ne (by decide)], by rw [uJ_ne (by decide)]⟩)
    · rw [show hmJ J k o s b x n (q + 1) = hmJ J k o s b x n q from if_neg c]
      exact VI.hm h q
set_option maxHeartbeats 2000000 in
theorem z_harm {d : Nat} {K : Kt} {X : Xt} {J : Int → Int → Int} {E : Nm → Int → Int} {ty : Nm → Nat} {ln : Nm → Int} {I : Nm → Int → Int} {R : Nm → Int → Option Nm} {c w : Nat} {k a s b x : Int} (h : RC J E ty ln I R) (hG : GI J) (hV : VI J) (hk : hsJ J k) (k0 : ((hsJ J a ∧ (0 ≤ s ∧ s < J 20 a) ∧ J 21 (40 * a + s) = 0) ∧ (0 ≤ b ∧ b < 60 / J (-1) 2) ∧ 0 ≤ x ∧ x ≤ 255) → ∀ I', RC (hmJ J k a (40 * a + s) b x (J (-1) 3).toNat (J (-1) 3).toNat).2 E ty ln I' R → K (some (vI (hmJ J k a (40 * a + s) b x (J (-1) 3).toNat (J (-1) 3).toNat).1)) (ty, ln, I', R, c, w)) (k1 : ¬ (((hsJ J a ∧ (0 ≤ s ∧ s < J 20 a) ∧ J 21 (40 * a + s) = 0) ∧ (0 ≤ b ∧ b < 60 / J (-1) 2) ∧ 0 ≤ x ∧ x ≤ 255)) → (1 ≤ c ∧ 6 ≤ w) ∧ X 1 (ty, ln, I, R, c - 1, w - 6)) :
    Mth (d + 8) M_FB_harm [vR (some [1]), vI k, vI a, vI s, vI b, vI x] (ty, ln, I, R, c, w) K X := by
  obtain ⟨f1, fr0, fr1, fr2, fr3, fr4, fr5, ⟨ft0, fl0⟩, ⟨ft3, fl3⟩, ⟨ft4, fl4⟩, ⟨ft5, fl5⟩, ft16, fr160, fr161, ⟨ft160, fl160⟩, ⟨ft161, fl161⟩⟩ := id h.g.1
  have sc := h.g.2.2.2.2.2.2.2
  have h17 := h.g.2.1.1
  have k5 := h.g.2.2.2.1.2.2
  have lb := lK sc.1
  by_cases ha : hsJ J a
  · obtain ⟨t0, ⟨r2, t2, ll2⟩, ⟨r3, t3, ll3⟩, ⟨r4, t4, ll4⟩, ⟨r5, t5, ll5⟩, rw5, ⟨r6, t6, ll6⟩, ⟨r7, t7⟩, ⟨r8, t8⟩, ⟨r9, t9⟩⟩ := h.hs a ha
    obtain ⟨e1, e2, e3, -⟩ := h.sn a ha
    by_cases q1 : (0 ≤ s ∧ s < J 20 a) ∧ J 21 (40 * a + s) = 0
    · have hs : sgJ J a s := ⟨ha, by omega, by omega, by omega⟩
      obtain ⟨g0, ⟨gr0, gt0, gl0⟩, ⟨gr1, gt1, gl1⟩, ⟨gr2, gt2, gl2⟩, gp⟩ := h.sg a s hs
      by_cases q2 : 0 ≤ b ∧ b < 60 / J (-1) 2
      · by_cases q3 : 0 ≤ x ∧ x ≤ 255
        · have z := k0 ⟨⟨ha, q1⟩, q2, q3⟩
          have st : Mth (d + 8) M_FB_harm [vR (some [1]), vI k, vI a, vI s, vI b, vI x] (ty, ln, I, R, c, w) K X = Rn (d + 7) M_FB_harm K X 56 [vR (some [1]), vI k, vI a, vI s, vI b, vI x, vR (some [4, k]), vR (some [4, a, 8, s]), vJ, vJ] [] (ty, ln, I, R, c, w) := by
            simp (disch := first | omega | assumption | rfl) only [in_FB_harm, b_FB_harm_0, b_FB_harm_5, b_FB_harm_12, b_FB_harm_16, b_FB_harm_33, b_FB_harm_45, b_FB_harm_52, b_FB_harm_53, x_houseOf_yes h.g ha, x_houseOf_yes h.g hk, y_segmentOf h ha, s_FB_isWithin, x_rA, x_rA1, fr1, k5, Option.toList_some, Option.toList_none, List.cons_append, List.nil_append, ↓if_pos, ↓if_neg, ↓and_t, ↓ck, ↓ex_some, true_and, and_true, not_true_eq_false, not_false_eq_true, if_true, if_false, or_true, true_or, w32_id, reduceCtorEq, ne_eq, wr_4]
          rw [st, b_FB_harm_56, ex_some, and_t g0, y_pieceWith h hs]
          show Rn (d + 7) M_FB_harm K X 62 [vR (some [1]), vI k, vI a, vI s, vI b, vI x, vR (some [4, k]), vR (some [4, a, 8, s]), vJ, vJ] [vI (pwJ J k (40 * a + s) (J (-1) 3).toNat)] (ty, ln, I, R, c, w)
          rw [b_FB_harm_62]
          have nn : (((J (-1) 3).toNat : Nat) : Int) = J (-1) 3 := by omega
          rcases pwJ_r (J := J) (k := k) (s := 40 * a + s) (J (-1) 3).toNat with pw | pw
          · have np := hasP_0 _ ((pwJ_has _).mp pw)
            have e := hm_no (J := J) (k := k) (o := a) (s := 40 * a + s) (b := b) (x := x) (n := (J (-1) 3).toNat) (fun j j0 j1 y => np j.toNat (by omega) (by rw [show ((j.toNat : Nat) : Int) = j by omega]; exact y.1)) (J (-1) 3).toNat (Nat.le_refl _)
            rw [e] at z
            rw [if_pos pw, b_FB_harm_84, and_t (Or.inl rfl)]
            exact z I h
          · obtain ⟨j, hj⟩ : ∃ j, j = pwJ J k (40 * a + s) (J (-1) 3).toNat := ⟨_, rfl⟩
            rw [← hj] at pw ⊢
            have hp : piJ J a s j := ⟨hs, by omega, by omega, by omega⟩
            obtain ⟨pr, pt, ⟨pr0, pt0, pl0⟩, -⟩ := gp j (by omega) (by omega)
            have uu : ∀ i : Int, 0 ≤ i → i < (((J (-1) 3).toNat : Nat) : Int) → J 25 (12 * (40 * a + s) + i) = k → i = j := fun i i0 i1 y => hV.uq (40 * a + s) i j (by omega) (by omega) i0 (by omega) (by omega) (by omega) (by rw [y, pw.2.2]) (by rw [y]; exact hk.1.1)
            rw [if_neg (by omega), ex_some, and_t g0, gr2, ex_some, and_t ⟨⟨by omega, by omega⟩, by omega, by omega⟩, pr, ex_some, and_t pt, h.ri _ _ _ _ (l26 hp)]
            by_cases c1 : J 26 (12 * (40 * a + s) + j) = 0
            · have e := hm_no (J := J) (k := k) (o := a) (s := 40 * a + s) (b := b) (x := x) (n := (J (-1) 3).toNat) (fun i i0 i1 y => by rw [uu i i0 i1 y.1] at y; exact y.2 c1) (J (-1) 3).toNat (Nat.le_refl _)
              rw [e] at z
              rw [if_neg (fun y => y c1), b_FB_harm_84, and_t (Or.inl rfl)]
              exact z I h
            · have e := hm_yes (J := J) (k := k) (o := a) (s := 40 * a + s) (b := b) (x := x) (n := (J (-1) 3).toNat) (j := j) ⟨by omega, by omega⟩ ⟨pw.2.2, c1⟩ uu (J (-1) 3).toNat (Nat.le_refl _) (by omega)
              rw [e] at z
              rw [if_pos c1, ex_some, and_t g0, gr2, ex_some, and_t ⟨⟨by omega, by omega⟩, by omega, by omega⟩]
              by_cases c2 : x = 0
              · rw [if_pos c2] at z
                obtain ⟨tk, -, ⟨rk3, tk3, lk3⟩, -⟩ := h.hs k hk
                have h1 := h.up (v := 0) (l26 hp) (by decide)
                have hk1 : hsJ (uJ J 26 (12 * (40 * a + s) + j) 0) k := hsJ_c hk (by rw [uJ_ne (by decide)])
                have i10 := h1.ri _ _ _ _ (l10 ⟨hk1, ha.1⟩)
                rw [uJ_ne (by decide)] at i10
                have b10 := hG.1.k10 (10 * k + a)
                rw [if_neg (fun y => y c2), pr, ex_some, and_t ⟨Or.inl rfl, pt, rfl⟩, ex_some, and_t tk, rk3, ex_some, and_t ⟨Or.inl tk3, by omega, by omega⟩, ex_some, and_t ⟨tk3, rfl, by omega, by omega⟩, b_FB_harm_134, and_t (Or.inr rfl), i10, w32_id (by omega) (by omega)]
                refine z _ ?_
                have h2 := h1.up (v := J 10 (10 * k + a) - 1) (l10 ⟨hk1, ha.1⟩) (by decide)
                show RC (loseJ J a (12 * (40 * a + s) + j)) E ty ln _ R
                unfold loseJ
                rw [if_pos ⟨by rw [pw.2.2]; exact hk.1.1, c1⟩, pw.2.2]
                exact h2
              · rw [if_neg c2] at z
                have b27 := hG.1.k27 (30 * (12 * (40 * a + s) + j) + b)
                rw [if_pos c2, pr, ex_some, and_t pt, pr0, ex_some, and_t ⟨Or.inl pt0, by omega, by omega⟩, ex_some, and_t ⟨pt0, rfl, by omega, by omega⟩, b_FB_harm_134, and_t (Or.inr rfl), h.ri _ _ _ _ (l27 (x := b) ⟨hp, by omega, by omega, by omega⟩), xor32_z (by omega) (by omega)]
                exact z _ (h.up (l27 ⟨hp, by omega, by omega, by omega⟩) (by decide))
        · have z := k1 (fun y => q3 y.2.2)
          simp (disch := first | omega | assumption | rfl) only [in_FB_harm, b_FB_harm_0, b_FB_harm_5, b_FB_harm_12, b_FB_harm_16, b_FB_harm_33, b_FB_harm_45, b_FB_harm_52, b_FB_harm_53, x_houseOf_yes h.g ha, x_houseOf_yes h.g hk, y_segmentOf h ha, s_FB_isWithin, x_rA, x_rA1, fr1, k5, Option.toList_some, Option.toList_none, List.cons_append, List.nil_append, ↓if_pos, ↓if_neg, ↓and_t, ↓ck, ↓ex_some, true_and, and_true, not_true_eq_false, not_false_eq_true, if_true, if_false, or_true, true_or, w32_id, reduceCtorEq, ne_eq, wr_4]
          first | exact z | exact z.2
      · have z := k1 (fun y => q2 y.2.1)
        simp (disch := first | omega | assumption | rfl) only [in_FB_harm, b_FB_harm_0, b_FB_harm_5, b_FB_harm_12, b_FB_harm_16, b_FB_harm_33, b_FB_harm_45, b_FB_harm_52, b_FB_harm_53, x_houseOf_yes h.g ha, x_houseOf_yes h.g hk, y_segmentOf h ha, s_FB_isWithin, x_rA, x_rA1, fr1, k5, Option.toList_some, Option.toList_none, List.cons_append, List.nil_append, ↓if_pos, ↓if_neg, ↓and_t, ↓ck, ↓ex_some, true_and, and_true, not_true_eq_false, not_false_eq_true, if_true, if_false, or_true, true_or, w32_id, reduceCtorEq, ne_eq, wr_4]
        first | exact z | exact z.2
    · have z := k1 (fun y => q1 y.1.2)
      simp (disch := first | omega | assumption | rfl) only [in_FB_harm, b_FB_harm_0, b_FB_harm_5, b_FB_harm_12, b_FB_harm_16, b_FB_harm_33, b_FB_harm_45, b_FB_harm_52, b_FB_harm_53, x_houseOf_yes h.g ha, x_houseOf_yes h.g hk, y_segmentOf h ha, Option.toList_some, Option.toList_none, List.cons_append, List.nil_append, ↓if_pos, ↓if_neg, ↓and_t, ↓ck, ↓ex_some, true_and, and_true, not_true_eq_false, not_false_eq_true, if_true, if_false, or_true, true_or, w32_id, reduceCtorEq, ne_eq, wr_4]
      first | exact z | exact z.2
  · have z := k1 (fun y => ha y.1.1)
    simp (disch := first | omega | assumption | rfl) only [in_FB_harm, b_FB_harm_0, b_FB_harm_5, x_houseOf_no h.g ha, x_houseOf_yes h.g hk, Option.toList_some, Option.toList_none, List.cons_append, List.nil_append, ↓if_pos, ↓if_neg, ↓and_t, ↓ck, ↓ex_some, true_and, and_true, not_true_eq_false, not_false_eq_true, if_true, if_false, or_true, true_or, w32_id, reduceCtorEq, ne_eq, wr_4]
    first | exact z | exact z.2
/-- the sum of the first n but the b-th, from l on -/
def agS (f : Int → Int) (b l : Int) : Nat → Int
  | 0 => l
  | i + 1 => if (i : Int) = b then agS f b l i else agS f b l i + f i
theorem agS_r {f : Int → Int} {b l : Int} (hf : ∀ x, 0 ≤ f x ∧ f x ≤ 100) (hl : 0 ≤ l ∧ l ≤ 100) : ∀ n : Nat, 0 ≤ agS f b l n ∧ agS f b l n ≤ 100 + 100 * n
  | 0 => by show 0 ≤ l ∧ l ≤ _; omega
  | n + 1 => by
    have := agS_r (b := b) hf hl n
    have := hf n
    by_cases c : (n : Int) = b
    · rw [show agS f b l (n + 1) = agS f b l n from if_pos c]; omega
    · rw [show agS f b l (n + 1) = agS f b l n + f n from if_neg c]; omega
theorem agS_e {f : Int → Int} {b l : Int} (hf : ∀ x, 0 ≤ f x ∧ f x ≤ 100) (hb : 0 ≤ b) : ∀ n : Nat, n ≤ 10 → agS f b l n = sumR f n + l - (if b < n then f b else 0)
  | 0, _ => by rw [if_neg (by omega)]; show l = 0 + l - 0; omega
  | n + 1, hn => by
    have ih := agS_e (l := l) hf hb n (by omega)
    rw [sumR_s (m := 100) ⟨by decide, by decide⟩ hf (by omega)]
    by_cases c : (n : Int) = b
    · rw [show agS f b l (n + 1) = agS f b l n from if_pos c, ih, if_neg (by omega), if_pos (by omega), c]; omega
    · rw [show agS f b l (n + 1) = agS f b l n + f n from if_neg c, ih]
      by_cases d : b < n
      · rw [if_pos d, if_pos (by omega)]; omega
      · rw [if_neg d, if_neg (by omega)]; omega
theorem y_canAgree {d : Nat} {K : Kt} {X : Xt} {J : Int → Int → Int} {E : Nm → Int → Int} {ty : Nm → Nat} {ln : Nm → Int} {I : Nm → Int → Int} {R : Nm → Int → Option Nm} {c w : Nat} {a b l : Int} (h : RC J E ty ln I R) (hR : MR J) (ha : hsJ J a) (hb : 0 ≤ b ∧ b ≤ 9) (hl : 0 ≤ l ∧ l ≤ 100) :
    Mth (d + 1) M_House_canAgree [vR (some [4, a]), vI b, vI l] (ty, ln, I, R, c, w) K X = K (some (vI (if sumR (fun i => J 9 (10 * a + i)) 10 - J 9 (10 * a + b) + l ≤ J 5 a ∧ J 10 (10 * a + b) ≤ l then 1 else 0))) (ty, ln, I, R, c, w) := by
  obtain ⟨t0, ⟨r2, t2, ll2⟩, ⟨r3, t3, ll3⟩, ⟨r4, t4, ll4⟩, ⟨r5, t5, ll5⟩, rw5, ⟨r6, t6, ll6⟩, ⟨r7, t7⟩, ⟨r8, t8⟩, ⟨r9, t9⟩⟩ := h.hs a ha
  have i1 := h.ri _ _ _ _ (l5 ha)
  have i10 := h.ri _ _ _ _ (l10 ⟨ha, hb⟩)
  have f9 : ∀ x, 0 ≤ J 9 (10 * a + x) ∧ J 9 (10 * a + x) ≤ 100 := fun x => hR.k9 _
  have key : ∀ q i : Nat, i + q = 10 → Rn d M_House_canAgree K X 5 [vR (some [4, a]), vI b, vI l, vI (agS (fun i => J 9 (10 * a + i)) b l i), vI (i : Int)] [] (ty, ln, I, R, c, w) = K (some (vI (if sumR (fun i => J 9 (10 * a + i)) 10 - J 9 (10 * a + b) + l ≤ J 5 a ∧ J 10 (10 * a + b) ≤ l then 1 else 0))) (ty, ln, I, R, c, w) := by
    intro q
    induction q with
    | zero =>
      intro i hi
      have e := agS_e (f := fun i => J 9 (10 * a + i)) (b := b) (l := l) f9 hb.1 10 (by decide)
      rw [if_pos (by omega)] at e
      rw [b_House_canAgree_5, if_pos (by omega), and_t t0, i1, show i = 10 by omega, e]
      by_cases c1 : sumR (fun i => J 9 (10 * a + i)) 10 - J 9 (10 * a + b) + l ≤ J 5 a
      · rw [if_neg (by omega), and_t t0, r3, ex_some, and_t ⟨Or.inl t3, by omega, by omega⟩, i10]
        by_cases c2 : J 10 (10 * a + b) ≤ l
        · rw [if_neg (by omega), b_House_canAgree_57, and_t (Or.inr rfl), if_pos ⟨c1, c2⟩]
        · rw [if_pos (by omega), b_House_canAgree_56, b_House_canAgree_57, and_t (Or.inl rfl), if_neg (fun z => c2 z.2)]
      · rw [if_pos (by omega), b_House_canAgree_56, b_House_canAgree_57, and_t (Or.inl rfl), if_neg (fun z => c1 z.1)]
    | succ q ih =>
      intro i hi
      have ih' := ih (i + 1) (by omega)
      have rr := agS_r (f := fun i => J 9 (10 * a + i)) (b := b) (l := l) f9 hl i
      have ff := f9 i
      rw [b_House_canAgree_5, if_neg (by omega)]
      by_cases c1 : (i : Int) = b
      · rw [show agS (fun i => J 9 (10 * a + i)) b l (i + 1) = agS (fun i => J 9 (10 * a + i)) b l i from if_pos c1] at ih'
        rw [if_pos c1, b_House_canAgree_28, w32_id (by omega) (by omega)]
        exact ih'
      · rw [show agS (fun i => J 9 (10 * a + i)) b l (i + 1) = agS (fun i => J 9 (10 * a + i)) b l i + J 9 (10 * a + i) from if_neg c1] at ih'
        rw [if_neg c1, and_t t0, r2, ex_some, and_t ⟨Or.inl t2, by omega, by omega⟩, h.ri _ _ _ _ (l9 (x := i) ⟨ha, by omega, by omega⟩), w32_id (x := agS (fun i => J 9 (10 * a + i)) b l i + J 9 (10 * a + i)) (by omega) (by omega), b_House_canAgree_28, w32_id (by omega) (by omega)]
        exact ih'
  rw [in_House_canAgree, b_House_canAgree_0]
  exact key 10 0 rfl
set_option maxHeartbeats 2000000 in
theorem z_contract {d : Nat} {K : Kt} {X : Xt} {J : Int → Int → Int} {E : Nm → Int → Int} {ty : Nm → Nat} {ln : Nm → Int} {I : Nm → Int → Int} {R : Nm → Int → Option Nm} {c w : Nat} {a b l : Int} (h : RC J E ty ln I R) (hG : GI J) (hV : VI J) (ha : hsJ J a) (k0 : (hsJ J b ∧ a ≠ b ∧ 0 ≤ l ∧ l ≤ 100) → ((sumR (fun i => J 9 (10 * a + i)) 10 - J 9 (10 * a + b) + l ≤ J 5 a ∧ sumR (fun i => J 9 (10 * b + i)) 10 - J 9 (10 * a + b) + l ≤ J 5 b) ∧ J 10 (10 * a + b) ≤ l ∧ J 10 (10 * b + a) ≤ l) → ∀ I', RC (uJ (uJ J 9 (10 * a + b) l) 9 (10 * b + a) l) E ty ln I' R → K (some (vI 1)) (ty, ln, I', R, c, w)) (kn : (hsJ J b ∧ a ≠ b ∧ 0 ≤ l ∧ l ≤ 100) → ¬ ((sumR (fun i => J 9 (10 * a + i)) 10 - J 9 (10 * a + b) + l ≤ J 5 a ∧ sumR (fun i => J 9 (10 * b + i)) 10 - J 9 (10 * a + b) + l ≤ J 5 b) ∧ J 10 (10 * a + b) ≤ l ∧ J 10 (10 * b + a) ≤ l) → K (some (vI 0)) (ty, ln, I, R, c, w)) (k1 : ¬ ((hsJ J b ∧ a ≠ b ∧ 0 ≤ l ∧ l ≤ 100)) → (1 ≤ c ∧ 6 ≤ w) ∧ X 1 (ty, ln, I, R, c - 1, w - 6)) :
    Mth (d + 7) M_FB_contract [vR (some [1]), vI a, vI b, vI l] (ty, ln, I, R, c, w) K X := by
  obtain ⟨f1, fr0, fr1, fr2, fr3, fr4, fr5, ⟨ft0, fl0⟩, ⟨ft3, fl3⟩, ⟨ft4, fl4⟩, ⟨ft5, fl5⟩, ft16, fr160, fr161, ⟨ft160, fl160⟩, ⟨ft161, fl161⟩⟩ := id h.g.1
  obtain ⟨t0, ⟨r2, t2, ll2⟩, ⟨r3, t3, ll3⟩, ⟨r4, t4, ll4⟩, ⟨r5, t5, ll5⟩, rw5, ⟨r6, t6, ll6⟩, ⟨r7, t7⟩, ⟨r8, t8⟩, ⟨r9, t9⟩⟩ := h.hs a ha
  by_cases hb : hsJ J b
  · obtain ⟨tb, ⟨rb2, tb2, lb2⟩, -⟩ := h.hs b hb
    have hy := hV.sy a b ha.1.1 ha.1.2 hb.1.1 hb.1.2
    by_cases q1 : a = b
    · have z := k1 (fun y => y.2.1 q1)
      simp (disch := first | omega | assumption | rfl) only [in_FB_contract, b_FB_contract_0, b_FB_contract_5, b_FB_contract_12, b_FB_contract_26, b_FB_contract_33, b_FB_contract_34, b_FB_contract_37, b_FB_contract_44, b_FB_contract_54, b_FB_contract_57, x_houseOf_yes h.g ha, x_houseOf_yes h.g hb, s_FB_isWithin, x_rA, x_rA1, Option.toList_some, Option.toList_none, List.cons_append, List.nil_append, ↓if_pos, ↓if_neg, ↓and_t, ↓ck, ↓ex_some, true_and, and_true, not_true_eq_false, not_false_eq_true, if_true, if_false, or_true, true_or, w32_id, reduceCtorEq, ne_eq, wr_4]
      first | exact z | exact z.2
    · by_cases q2 : 0 ≤ l ∧ l ≤ 100
      · by_cases c1 : sumR (fun i => J 9 (10 * a + i)) 10 - J 9 (10 * a + b) + l ≤ J 5 a ∧ J 10 (10 * a + b) ≤ l
        · by_cases c2 : sumR (fun i => J 9 (10 * b + i)) 10 - J 9 (10 * b + a) + l ≤ J 5 b ∧ J 10 (10 * b + a) ≤ l
          · have z := k0 ⟨hb, q1, q2⟩ ⟨⟨c1.1, by rw [hy]; exact c2.1⟩, c1.2, c2.2⟩ _ ((h.up (v := l) (l9 ⟨ha, hb.1⟩) (by decide)).up (v := l) (l9 (a := b) (x := a) ⟨hsJ_c hb (by rw [uJ_ne (by decide)]), ha.1⟩) (by decide))
            simp (disch := first | omega | assumption | rfl) only [in_FB_contract, b_FB_contract_0, b_FB_contract_5, b_FB_contract_12, b_FB_contract_26, b_FB_contract_33, b_FB_contract_34, b_FB_contract_37, b_FB_contract_44, b_FB_contract_54, b_FB_contract_57, x_houseOf_yes h.g ha, x_houseOf_yes h.g hb, s_FB_isWithin, x_rA, x_rA1, y_canAgree h hG.1 ha hb.1, y_canAgree h hG.1 hb ha.1, r2, rb2, Option.toList_some, Option.toList_none, List.cons_append, List.nil_append, ↓if_pos, ↓if_neg, ↓and_t, ↓ck, ↓ex_some, true_and, and_true, not_true_eq_false, not_false_eq_true, if_true, if_false, or_true, true_or, w32_id, reduceCtorEq, ne_eq, wr_4]
            exact z
          · have z := kn ⟨hb, q1, q2⟩ (fun y => c2 ⟨by rw [← hy]; exact y.1.2, y.2.2⟩)
            simp (disch := first | omega | assumption | rfl) only [in_FB_contract, b_FB_contract_0, b_FB_contract_5, b_FB_contract_12, b_FB_contract_26, b_FB_contract_33, b_FB_contract_34, b_FB_contract_37, b_FB_contract_44, b_FB_contract_54, b_FB_contract_57, x_houseOf_yes h.g ha, x_houseOf_yes h.g hb, s_FB_isWithin, x_rA, x_rA1, y_canAgree h hG.1 ha hb.1, y_canAgree h hG.1 hb ha.1, r2, rb2, Option.toList_some, Option.toList_none, List.cons_append, List.nil_append, ↓if_pos, ↓if_neg, ↓and_t, ↓ck, ↓ex_some, true_and, and_true, not_true_eq_false, not_false_eq_true, if_true, if_false, or_true, true_or, w32_id, reduceCtorEq, ne_eq, wr_4]
            exact z
        · have z := kn ⟨hb, q1, q2⟩ (fun y => c1 ⟨y.1.1, y.2.1⟩)
          simp (disch := first | omega | assumption | rfl) only [in_FB_contract, b_FB_contract_0, b_FB_contract_5, b_FB_contract_12, b_FB_contract_26, b_FB_contract_33, b_FB_contract_34, b_FB_contract_37, b_FB_contract_44, b_FB_contract_54, b_FB_contract_57, x_houseOf_yes h.g ha, x_houseOf_yes h.g hb, s_FB_isWithin, x_rA, x_rA1, y_canAgree h hG.1 ha hb.1, y_canAgree h hG.1 hb ha.1, r2, rb2, Option.toList_some, Option.toList_none, List.cons_append, List.nil_append, ↓if_pos, ↓if_neg, ↓and_t, ↓ck, ↓ex_some, true_and, and_true, not_true_eq_false, not_false_eq_true, if_true, if_false, or_true, true_or, w32_id, reduceCtorEq, ne_eq, wr_4]
          exact z
      · have z := k1 (fun y => q2 y.2.2)
        simp (disch := first | omega | assumption | rfl) only [in_FB_contract, b_FB_contract_0, b_FB_contract_5, b_FB_contract_12, b_FB_contract_26, b_FB_contract_33, b_FB_contract_34, b_FB_contract_37, b_FB_contract_44, b_FB_contract_54, b_FB_contract_57, x_houseOf_yes h.g ha, x_houseOf_yes h.g hb, s_FB_isWithin, x_rA, x_rA1, Option.toList_some, Option.toList_none, List.cons_append, List.nil_append, ↓if_pos, ↓if_neg, ↓and_t, ↓ck, ↓ex_some, true_and, and_true, not_true_eq_false, not_false_eq_true, if_true, if_false, or_true, true_or, w32_id, reduceCtorEq, ne_eq, wr_4]
        first | exact z | exact z.2
  · have z := k1 (fun y => hb y.1)
    simp (disch := first | omega | assumption | rfl) only [in_FB_contract, b_FB_contract_0, b_FB_contract_5, x_houseOf_yes h.g ha, x_houseOf_no h.g hb, Option.toList_some, Option.toList_none, List.cons_append, List.nil_append, ↓if_pos, ↓if_neg, ↓and_t, ↓ck, ↓ex_some, true_and, and_true, not_true_eq_false, not_false_eq_true, if_true, if_false, or_true, true_or, w32_id, reduceCtorEq, ne_eq, wr_4]
    first | exact z | exact z.2
