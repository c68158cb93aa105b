/-! ===== the reference: count, forget ===== -/
def cvJ (J : Int → Int → Int) (a x : Int) : Int := if x = 0 then J 20 a else if x = 4 then nCh J a 2400 else if x = 5 then sumR (fun i => J 10 (10 * a + i)) 10 else if x = 1 then cn1 J a (J 20 a).toNat else if x = 2 then cn2 J a (J 20 a).toNat else cn3 J a 6
set_option maxHeartbeats 1000000 in
theorem m_count {d : Nat} {K : Kt} {X : Xt} {J : Int → Int → Int} {ty : Nm → Nat} {ln : Nm → Int} {I : Nm → Int → Int} {R : Nm → Int → Option Nm} {c w : Nat} {a x : Int} (h : MOk ty ln R) (hR : MR J) :
    Mth (d + 3) M_Mo_count [vR (some [2]), vI a, vI x] (ty, ln, pJ I J, R, c, w) K X = (if ((0 ≤ a ∧ a ≤ 9) ∧ 0 < J 5 a) ∧ 0 ≤ x ∧ x ≤ 5 then K (some (vI (cvJ (uJ J (-1) 0 0) a x))) (ty, ln, pJ I ((uJ J (-1) 0 0)), R, c, w) else K (some (vI (0))) (ty, ln, pJ I (uJ J (-1) 0 1), R, c, w)) := by
  have h0 := h.1
  have a16 := h.a16
  have a20 := h.a20
  have a21 := h.a21
  have a22 := h.a22
  by_cases q1 : ((0 ≤ a ∧ a ≤ 9) ∧ 0 < J 5 a)
  · by_cases q2 : 0 ≤ x ∧ x ≤ 5
    · rw [if_pos ⟨q1, q2⟩]
      have start : Mth (d + 3) M_Mo_count [vR (some [2]), vI a, vI x] (ty, ln, pJ I J, R, c, w) K X = Rn (d + 2) M_Mo_count K X 26 [vR (some [2]), vI a, vI x, vJ, vJ] [vI 0] (ty, ln, pJ I (uJ J (-1) 0 0), R, c, w) := by
        simp (disch := omega) only [in_Mo_count, b_Mo_count_0, b_Mo_count_6, b_Mo_count_15, b_Mo_count_18, b_Mo_count_23, m_isHouse h, m_refused h, s_Mo_isIn, Option.toList_some, Option.toList_none, List.cons_append, List.nil_append, ↓if_pos, ↓if_neg, ↓and_t, pJ_a, pJ_m, up_a, up_m, Option.some.injEq, exists_eq_left', wr_a, wr_m, true_and, and_true, not_true_eq_false, not_false_eq_true, if_true, if_false, or_true, true_or, uJ_self, uJ_ne, upI_self, upI_ne, w32_id, reduceCtorEq, ne_eq, wJ_ne, wJ_out]
      rw [start]
      have hR' : MR (uJ J (-1) 0 0) := hR.u (Or.inl rfl)
      have d1 := hR'.k20 a
      generalize (uJ J (-1) 0 0) = J at hR' d1 ⊢
      rw [b_Mo_count_26, if_pos rfl]
      unfold cvJ
      by_cases c0 : x = 0
      · rw [if_neg (fun z => z c0), and_t h0, h.e20, and_t ⟨Or.inl a20.2.1, by omega, by omega⟩, pJ_a (by decide), if_pos c0]
      · rw [if_pos c0, if_neg c0]
        by_cases c4 : x = 4
        · rw [if_neg (by omega), if_neg (fun z => z c4), and_t h0, m_chunks h hR' q1.1, if_pos c4]
          show Rn (d + 2) M_Mo_count K X 57 [vR (some [2]), vI a, vI x, vJ, vJ] [vI (nCh J a 2400)] (ty, ln, pJ I J, R, c, w) = _
          rw [b_Mo_count_57, b_Mo_count_65]
        · rw [if_neg c4]
          by_cases c5 : x = 5
          · rw [if_neg (by omega), if_pos c4, and_t h0, m_keeps h q1.1, if_pos c5]
            show Rn (d + 2) M_Mo_count K X 65 [vR (some [2]), vI a, vI x, vJ, vJ] [vI _] (ty, ln, pJ I J, R, c, w) = _
            rw [b_Mo_count_65]
          · rw [if_neg c5, if_pos (by omega), w32_id (x := 40 * a) (by omega) (by omega)]
            have go : ∀ (v x4 : Int), x = 1 ∨ x = 2 → Rn (d + 2) M_Mo_count K X 144 [vR (some [2]), vI a, vI x, vI v, vI x4] [] (ty, ln, pJ I J, R, c, w) = K (some (vI v)) (ty, ln, pJ I J, R, c, w) := by
              intro v x4 hx
              rw [b_Mo_count_144, w32_id (x := 6 * a) (by omega) (by omega), b_Mo_count_150]
              split
              · rw [b_Mo_count_191]
              · rw [if_pos (by omega), b_Mo_count_191]
            have e2 : ∀ i : Nat, 40 * a + (i : Int) + 1 = 40 * a + ((i + 1 : Nat) : Int) := fun i => by omega
            by_cases c1 : x = 1
            · rw [if_pos c1]
              have key : ∀ q i : Nat, i + q = (J 20 a).toNat → Rn (d + 2) M_Mo_count K X 74 [vR (some [2]), vI a, vI x, vI (cn1 J a i), vI (40 * a + i)] [] (ty, ln, pJ I J, R, c, w) = K (some (vI (cn1 J a (J 20 a).toNat))) (ty, ln, pJ I J, R, c, w) := by
                intro q
                induction q with
                | zero =>
                  intro i hi
                  rw [b_Mo_count_74, and_t h0, h.e20, and_t ⟨Or.inl a20.2.1, by omega, by omega⟩, pJ_a (by decide), w32_id (x := 40 * a) (by omega) (by omega), w32_id (x := 40 * a + J 20 a) (by omega) (by omega), if_pos (by omega), go _ _ (Or.inl c1), show i = (J 20 a).toNat by omega]
                | succ q ih =>
                  intro i hi
                  have ih' := ih (i + 1) (by omega)
                  have r := cn1_r (J := J) (a := a) i
                  rw [b_Mo_count_74, and_t h0, h.e20, and_t ⟨Or.inl a20.2.1, by omega, by omega⟩, pJ_a (by decide), w32_id (x := 40 * a) (by omega) (by omega), w32_id (x := 40 * a + J 20 a) (by omega) (by omega), if_neg (by omega), if_neg (by omega), if_neg (fun z => z c1), and_t h0, h.e21, and_t ⟨a21.2.1, by omega, by omega⟩, pJ_a (by decide)]
                  by_cases g : J 21 (40 * a + i) = 0
                  · rw [show cn1 J a (i + 1) = cn1 J a i + 1 from if_pos g] at ih'
                    rw [if_pos g, b_Mo_count_137, w32_id (x := cn1 J a i + 1) (by omega) (by omega), w32_id (by omega) (by omega), e2]
                    exact ih'
                  · rw [show cn1 J a (i + 1) = cn1 J a i from if_neg g] at ih'
                    rw [if_neg g, b_Mo_count_137, w32_id (by omega) (by omega), e2]
                    exact ih'
              have z := key (J 20 a).toNat 0 (by omega)
              rw [show 40 * a + ((0 : Nat) : Int) = 40 * a by omega] at z
              exact z
            · rw [if_neg c1]
              by_cases c2 : x = 2
              · rw [if_pos c2]
                have key : ∀ q i : Nat, i + q = (J 20 a).toNat → Rn (d + 2) M_Mo_count K X 74 [vR (some [2]), vI a, vI x, vI (cn2 J a i), vI (40 * a + i)] [] (ty, ln, pJ I J, R, c, w) = K (some (vI (cn2 J a (J 20 a).toNat))) (ty, ln, pJ I J, R, c, w) := by
                  intro q
                  induction q with
                  | zero =>
                    intro i hi
                    rw [b_Mo_count_74, and_t h0, h.e20, and_t ⟨Or.inl a20.2.1, by omega, by omega⟩, pJ_a (by decide), w32_id (x := 40 * a) (by omega) (by omega), w32_id (x := 40 * a + J 20 a) (by omega) (by omega), if_pos (by omega), go _ _ (Or.inr c2), show i = (J 20 a).toNat by omega]
                  | succ q ih =>
                    intro i hi
                    have ih' := ih (i + 1) (by omega)
                    have r := cn2_r (J := J) (a := a) i
                    rw [b_Mo_count_74, and_t h0, h.e20, and_t ⟨Or.inl a20.2.1, by omega, by omega⟩, pJ_a (by decide), w32_id (x := 40 * a) (by omega) (by omega), w32_id (x := 40 * a + J 20 a) (by omega) (by omega), if_neg (by omega), if_neg (by omega), if_pos c1, and_t h0, h.e22, and_t ⟨a22.2.1, by omega, by omega⟩, pJ_a (by decide)]
                    by_cases g : J 22 (40 * a + i) = 0
                    · rw [show cn2 J a (i + 1) = cn2 J a i from if_pos g] at ih'
                      rw [if_pos g, b_Mo_count_137, w32_id (by omega) (by omega), e2]
                      exact ih'
                    · rw [show cn2 J a (i + 1) = cn2 J a i + 1 from if_neg g] at ih'
                      rw [if_neg g, b_Mo_count_137, w32_id (x := cn2 J a i + 1) (by omega) (by omega), w32_id (by omega) (by omega), e2]
                      exact ih'
                have z := key (J 20 a).toNat 0 (by omega)
                rw [show 40 * a + ((0 : Nat) : Int) = 40 * a by omega] at z
                exact z
              · rw [if_neg c2]
                have e3 : ∀ i : Nat, 6 * a + (i : Int) + 1 = 6 * a + ((i + 1 : Nat) : Int) := fun i => by omega
                have key : ∀ q i : Nat, i + q = 6 → Rn (d + 2) M_Mo_count K X 150 [vR (some [2]), vI a, vI x, vI (cn3 J a i), vI (6 * a + i)] [] (ty, ln, pJ I J, R, c, w) = K (some (vI (cn3 J a 6))) (ty, ln, pJ I J, R, c, w) := by
                  intro q
                  induction q with
                  | zero =>
                    intro i hi
                    rw [b_Mo_count_150, w32_id (x := 6 * a) (by omega) (by omega), w32_id (x := 6 * a + 6) (by omega) (by omega), if_pos (by omega), b_Mo_count_191, show i = 6 by omega]
                  | succ q ih =>
                    intro i hi
                    have ih' := ih (i + 1) (by omega)
                    have r := cn3_r (J := J) (a := a) i
                    rw [b_Mo_count_150, w32_id (x := 6 * a) (by omega) (by omega), w32_id (x := 6 * a + 6) (by omega) (by omega), if_neg (by omega), if_neg (by omega), and_t h0, h.e16, and_t ⟨Or.inl a16.2.1, by omega, by omega⟩, pJ_a (by decide)]
                    by_cases g : J 16 (6 * a + i) < 0
                    · rw [show cn3 J a (i + 1) = cn3 J a i from if_pos g] at ih'
                      rw [if_pos g, b_Mo_count_184, w32_id (by omega) (by omega), e3]
                      exact ih'
                    · rw [show cn3 J a (i + 1) = cn3 J a i + 1 from if_neg g] at ih'
                      rw [if_neg g, b_Mo_count_184, w32_id (x := cn3 J a i + 1) (by omega) (by omega), w32_id (by omega) (by omega), e3]
                      exact ih'
                rw [b_Mo_count_74, and_t h0, h.e20, and_t ⟨Or.inl a20.2.1, by omega, by omega⟩, pJ_a (by decide)]
                have z := key 6 0 rfl
                rw [show 6 * a + ((0 : Nat) : Int) = 6 * a by omega] at z
                have z' : Rn (d + 2) M_Mo_count K X 144 [vR (some [2]), vI a, vI x, vI 0, vI (40 * a)] [] (ty, ln, pJ I J, R, c, w) = K (some (vI (cn3 J a 6))) (ty, ln, pJ I J, R, c, w) := by
                  rw [b_Mo_count_144, w32_id (x := 6 * a) (by omega) (by omega)]
                  exact z
                split
                · exact z'
                · rw [if_pos (by omega)]
                  exact z'
    · rw [if_neg (fun z => q2 z.2)]
      simp (disch := omega) only [in_Mo_count, b_Mo_count_0, b_Mo_count_6, b_Mo_count_15, b_Mo_count_18, b_Mo_count_23, b_Mo_count_26, m_isHouse h, m_refused h, s_Mo_isIn, Option.toList_some, Option.toList_none, List.cons_append, List.nil_append, ↓if_pos, ↓if_neg, ↓and_t, pJ_a, pJ_m, up_a, up_m, Option.some.injEq, exists_eq_left', wr_a, wr_m, true_and, and_true, not_true_eq_false, not_false_eq_true, if_true, if_false, or_true, true_or, uJ_self, uJ_ne, upI_self, upI_ne, w32_id, reduceCtorEq, ne_eq, wJ_ne, wJ_out]
  · rw [if_neg (fun z => q1 z.1)]
    exact n_count h q1
