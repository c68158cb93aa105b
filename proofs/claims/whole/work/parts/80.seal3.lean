/-! ===== the reference: seal, whole ===== -/
set_option maxHeartbeats 1000000 in
theorem m_seal {d : Nat} {K : Kt} {X : Xt} {J : Int → Int → Int} {ty : Nm → Nat} {ln : Nm → Int} {I : Nm → Int → Int} {R : Nm → Int → Option Nm} {c w : Nat} {a : Int} (h : MOk ty ln R) (hR : MR J) (hP : PL J) :
    Mth (d + 6) M_Mo_seal [vR (some [2]), vI a] (ty, ln, pJ I J, R, c, w) K X = (if ((0 ≤ a ∧ a ≤ 9) ∧ 0 < J 5 a) then (if J 7 a = 0 then K (some (vI ((slS J a).1))) (ty, ln, pJ I ((slS J a).2), R, c, w) else K (some (vI (0))) (ty, ln, pJ I (uJ J (-1) 0 2), R, c, w)) else K (some (vI (0))) (ty, ln, pJ I (uJ J (-1) 0 1), R, c, w)) := by
  have h0 := h.1
  have a7 := h.a7
  have a12 := h.a12
  have a15 := h.a15
  have a17 := h.a17
  have a20 := h.a20
  by_cases q1 : ((0 ≤ a ∧ a ≤ 9) ∧ 0 < J 5 a)
  · by_cases q2 : J 7 a = 0
    · rw [if_pos q1, if_pos q2]
      have d1 := hR.k20 a
      have d2 := hR.k15 a
      have fr := frJ_r (J := J) (a := a) 6 (by decide)
      have eF : frJ (uJ J (-1) 0 0) a 6 = frJ J a 6 := by
        have : ∀ k : Nat, frJ (uJ J (-1) 0 0) a k = frJ J a k := by
          intro k
          induction k with
          | zero => rfl
          | succ k ih =>
            show (if 0 ≤ (uJ J (-1) 0 0) 16 (6 * a + (5 - k)) then frJ (uJ J (-1) 0 0) a k else 6 * a + (5 - k)) = (if 0 ≤ J 16 (6 * a + (5 - k)) then frJ J a k else 6 * a + (5 - k))
            rw [uJ_ne (by decide), ih]
        exact this 6
      obtain ⟨sl, hsl⟩ : ∃ sl, sl = frJ J a 6 := ⟨_, rfl⟩
      have start : Mth (d + 6) M_Mo_seal [vR (some [2]), vI a] (ty, ln, pJ I J, R, c, w) K X = Rn (d + 5) M_Mo_seal K X 40 [vR (some [2]), vI a, vJ, vJ, vJ, vJ, vJ, vJ, vJ, vJ] [vI sl] (ty, ln, pJ I (uJ J (-1) 0 0), R, c, w) := by
        simp (disch := omega) only [in_Mo_seal, b_Mo_seal_0, b_Mo_seal_6, b_Mo_seal_27, b_Mo_seal_30, m_isHouse h, m_refused h, m_freeSlot h, ↓h.e7, Option.toList_some, Option.toList_none, List.cons_append, List.nil_append, ↓if_pos, ↓if_neg, ↓and_t, pJ_a, pJ_m, up_a, up_m, Option.some.injEq, exists_eq_left', wr_a, wr_m, true_and, and_true, not_true_eq_false, not_false_eq_true, if_true, if_false, or_true, true_or, uJ_self, uJ_ne, upI_self, upI_ne, w32_id, reduceCtorEq, ne_eq, wJ_ne, wJ_out]
        rw [eF, ← hsl]
      rw [start, b_Mo_seal_40]
      unfold slS
      rw [← hsl] at fr ⊢
      by_cases c1 : sl < 0
      · rw [if_pos c1, b_Mo_seal_56, if_pos (Or.inl c1)]
      · rw [if_neg c1, and_t h0, h.e15, and_t ⟨Or.inl a15.2.1, by omega, by omega⟩, pJ_a (by decide), uJ_ne (by decide)]
        by_cases c2 : J 15 a = 30
        · rw [if_neg (fun u => u c2), b_Mo_seal_56, if_pos (Or.inr c2)]
        · rw [if_pos c2, if_neg (fun u => u.elim c1 c2), and_t h0, h.e20, and_t ⟨Or.inl a20.2.1, by omega, by omega⟩, pJ_a (by decide), uJ_ne (by decide), and_t ⟨h0, rfl⟩, up_m]
          obtain ⟨J2, hJ2⟩ : ∃ x, x = wJ (uJ (uJ J (-1) 0 0) (-1) 30 60) 17 (10 * sl) (10 * sl + 10) (fun _ => -1) := ⟨_, rfl⟩
          have j2o : ∀ k x, k ≠ -1 → k ≠ 17 → J2 k x = J k x := fun k x k1 k2 => by rw [hJ2, wJ_ne k2, uJ_ne k1, uJ_ne k1]
          have hSI : SI J2 a := by
            refine ⟨?_, fun c => by rw [j2o 18 c (by decide) (by decide), j2o 19 c (by decide) (by decide)]; exact hP c, ?_, ?_⟩
            · rw [hJ2]
              exact ((hR.u (Or.inl rfl)).u (Or.inl rfl)).w (fun _ _ _ => ⟨by decide, by decide⟩)
            · rw [hJ2, wJ_ne (by decide), uJ_self, upI_self]; omega
            · exact Or.inl (by rw [hJ2, wJ_ne (by decide), uJ_self, upI_self])
          rw [← hJ2]
          obtain ⟨T, hT⟩ : ∃ T, T = tgL J2 a sl 10 := ⟨_, rfl⟩
          rw [← hT]
          -- the end
          have fin0 : T.1 = 0 → K (some (vI (-1))) (ty, ln, pJ I (uJ T.2.2 20 a (J 20 a)), R, c, w) = K (some (vI (if T.1 = 0 then ((-1 : Int), uJ T.2.2 20 a (J 20 a)) else (J 15 a, sdJ T.2.2 a sl (J 20 a))).1)) (ty, ln, pJ I (if T.1 = 0 then ((-1 : Int), uJ T.2.2 20 a (J 20 a)) else (J 15 a, sdJ T.2.2 a sl (J 20 a))).2, R, c, w) := by
            intro e
            rw [if_pos e]
          obtain ⟨RH, hRH⟩ : ∃ RH, RH = K (some (vI (if T.1 = 0 then ((-1 : Int), uJ T.2.2 20 a (J 20 a)) else (J 15 a, sdJ T.2.2 a sl (J 20 a))).1)) (ty, ln, pJ I (if T.1 = 0 then ((-1 : Int), uJ T.2.2 20 a (J 20 a)) else (J 15 a, sdJ T.2.2 a sl (J 20 a))).2, R, c, w) := ⟨_, rfl⟩
          rw [← hRH] at fin0 ⊢
          have k2 : ∀ q t : Nat, t + q = 10 → (tgL J2 a sl t).1 = 1 → ∀ (u6 u7 u8 u9 : Vl), isLg u6 = false → isLg u7 = false → isLg u8 = false → isLg u9 = false → Rn (d + 5) M_Mo_seal K X 110 [vR (some [2]), vI a, vI sl, vI (J 20 a), vI (tgL J2 a sl t).2.1, vI (t : Int), u6, u7, u8, u9] [] (ty, ln, pJ I (tgL J2 a sl t).2.2, R, c, w) = RH := by
            intro q
            induction q with
            | zero =>
              intro t ht ok u6 u7 u8 u9 v6 v7 v8 v9
              have et : t = 10 := by omega
              subst et
              rw [← hT] at ok ⊢
              obtain ⟨i1, i2, i3, i4, i5, i6, i7⟩ := tgL_i (sl := sl) hSI q1.1 10 (by decide)
              rw [← hT] at i1 i2 i3 i4 i5 i6 i7
              have e15 : T.2.2 15 a = J 15 a := by rw [i3 15 _ (by decide) (by decide) (by decide) (by decide) (by decide) (by decide) (by decide) (by decide), j2o 15 _ (by decide) (by decide)]
              have e20 : J2 20 a = J 20 a := j2o 20 _ (by decide) (by decide)
              rw [b_Mo_seal_110 v6 v7 v8 v9, if_pos (by decide), w32_id (x := 40 * a) (by omega) (by omega), w32_id (x := 40 * a + J 20 a) (by omega) (by omega), m_seal2 h i2.1 q1.1 (by omega) ⟨d1.1, by omega⟩ (by omega) _ u6 u7 u8 u9 v6 v7 v8 v9, hRH, if_neg (by omega), e15]
            | succ q ih =>
              intro t ht ok u6 u7 u8 u9 v6 v7 v8 v9
              have ih' := ih (t + 1) (by omega)
              obtain ⟨i1, i2, i3, i4, i5, i6, i7⟩ := tgL_i (sl := sl) hSI q1.1 t (by omega)
              have e9 : (t : Int) + 1 = ((t + 1 : Nat) : Int) := rfl
              rw [b_Mo_seal_110 v6 v7 v8 v9, if_neg (by omega), and_t h0, h.e12, w32_id (x := 10 * a) (by omega) (by omega), w32_id (x := 10 * a + (t : Int)) (by omega) (by omega), and_t ⟨a12.2.1, by omega, by omega⟩, pJ_a (by decide)]
              by_cases c3 : (tgL J2 a sl t).2.2 12 (10 * a + t) = 0
              · rw [show tgL J2 a sl (t + 1) = tgL J2 a sl t from if_pos (Or.inr c3)] at ih'
                rw [if_pos c3, b_Mo_seal_273 v7 v8 v9, w32_id (by omega) (by omega)]
                exact ih' ok _ _ _ _ rfl v7 v8 v9
              · have eT : tgL J2 a sl (t + 1) = fiL a sl t 200 (tgL J2 a sl t).2.1 0 (uJ (tgL J2 a sl t).2.2 17 (10 * sl + t) 0) := if_neg (fun u => u.elim (fun y => by omega) c3)
                rw [eT] at ih'
                have e13 : ∀ k x, k ≠ 17 → uJ (tgL J2 a sl t).2.2 17 (10 * sl + t) 0 k x = (tgL J2 a sl t).2.2 k x := fun k x hk => by rw [uJ_ne hk]
                have z17 : uJ (tgL J2 a sl t).2.2 17 (10 * sl + t) 0 17 (10 * sl + t) = 0 := by rw [uJ_self, upI_self]
                have k13 := i2.1.k13 (10 * a + t)
                have hF : FI (uJ (tgL J2 a sl t).2.2 17 (10 * sl + t) 0) a sl t (tgL J2 a sl t).2.1 0 := by
                  refine ⟨⟨i2.1.u (Or.inr ⟨by decide, by decide⟩), fun c => by rw [e13 18 c (by decide), e13 19 c (by decide)]; exact i2.2.1 c, by rw [e13 (-1) 30 (by decide)]; exact i2.2.2.1, by rw [e13 (-1) 30 (by decide), e13 20 a (by decide)]; exact i2.2.2.2⟩, ?_, ?_, ?_, i5, ?_⟩
                  · rw [e13 13 _ (by decide)]; omega
                  · rw [z17]; omega
                  · rw [z17]; omega
                  · rw [z17]; omega
                rw [if_neg c3, and_t h0, h.e17, w32_id (x := 10 * sl) (by omega) (by omega), w32_id (x := 10 * sl + (t : Int)) (by omega) (by omega), and_t ⟨a17.2.1, rfl, by omega, by omega⟩, up_a (by decide)]
                refine m_seal1 h q1.1 (by omega) (by omega) 200 (tgL J2 a sl t).2.1 0 (uJ (tgL J2 a sl t).2.2 17 (10 * sl + t) 0) hF (by rw [e13 13 _ (by decide)]; omega) u8 u9 v8 v9 (fun e => ?_) (fun e u7 u8 u9 v7 v8 v9 => ?_)
                · -- no room: all later files are passed over
                  have stay : ∀ m : Nat, tgL J2 a sl (t + 1 + m) = tgL J2 a sl (t + 1) := by
                    intro m
                    induction m with
                    | zero => rfl
                    | succ m ihm =>
                      rw [show t + 1 + (m + 1) = (t + 1 + m) + 1 by omega, show tgL J2 a sl (t + 1 + m + 1) = tgL J2 a sl (t + 1 + m) from if_pos (Or.inl (by rw [ihm, eT]; exact e)), ihm]
                  have eT10 : T = fiL a sl t 200 (tgL J2 a sl t).2.1 0 (uJ (tgL J2 a sl t).2.2 17 (10 * sl + t) 0) := by
                    rw [hT, show (10 : Nat) = t + 1 + (9 - t) by omega, stay, eT]
                  rw [← eT10] at e ⊢
                  exact fin0 e
                · rw [b_Mo_seal_273 v7 v8 v9, w32_id (by omega) (by omega)]
                  exact ih' e _ _ _ _ rfl v7 v8 v9
          have k1 : ∀ q t : Nat, t + q = 10 → Rn (d + 5) M_Mo_seal K X 74 [vR (some [2]), vI a, vI sl, vI (J 20 a), vI (t : Int), vJ, vJ, vJ, vJ, vJ] [] (ty, ln, pJ I (wJ (uJ (uJ J (-1) 0 0) (-1) 30 60) 17 (10 * sl) (10 * sl + t) (fun _ => -1)), R, c, w) = RH := by
            intro q
            induction q with
            | zero =>
              intro t ht
              rw [b_Mo_seal_74, if_pos (by omega), w32_id (x := 500 * sl) (by omega) (by omega), show (t : Int) = 10 by omega, ← hJ2]
              exact k2 10 0 rfl rfl vJ vJ vJ vJ rfl rfl rfl rfl
            | succ q ih =>
              intro t ht
              rw [b_Mo_seal_74, if_neg (by omega), and_t h0, h.e17, w32_id (x := 10 * sl) (by omega) (by omega), w32_id (x := 10 * sl + (t : Int)) (by omega) (by omega), and_t ⟨a17.2.1, rfl, by omega, by omega⟩, up_a (by decide), wJ_up (by omega) (by rfl), w32_id (by omega) (by omega), Int.add_assoc (10 * sl)]
              exact ih (t + 1) (by omega)
          have k0 := k1 10 0 rfl
          rw [show 10 * sl + ((0 : Nat) : Int) = 10 * sl by omega, wJ_nil (by omega)] at k0
          exact k0
    · rw [if_pos q1, if_neg q2]
      simp (disch := omega) only [in_Mo_seal, b_Mo_seal_0, b_Mo_seal_6, b_Mo_seal_27, b_Mo_seal_30, m_isHouse h, m_refused h, ↓h.e7, Option.toList_some, Option.toList_none, List.cons_append, List.nil_append, ↓if_pos, ↓if_neg, ↓and_t, pJ_a, pJ_m, up_a, up_m, Option.some.injEq, exists_eq_left', wr_a, wr_m, true_and, and_true, not_true_eq_false, not_false_eq_true, if_true, if_false, or_true, true_or, uJ_self, uJ_ne, upI_self, upI_ne, w32_id, reduceCtorEq, ne_eq, wJ_ne, wJ_out]
  · rw [if_neg q1]
    exact n_seal h q1
