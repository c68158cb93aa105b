/-! ===== the reference: right pieces, health, samples ===== -/
def eqN (f g : Int → Int) : Nat → Int
  | 0 => 1
  | t + 1 => if eqN f g t = 0 ∨ f t ≠ g t then 0 else 1
theorem eqN_r {f g : Int → Int} : ∀ n : Nat, eqN f g n = 0 ∨ eqN f g n = 1
  | 0 => Or.inr rfl
  | n + 1 => by
    show (if eqN f g n = 0 ∨ f n ≠ g n then (0 : Int) else 1) = 0 ∨ (if eqN f g n = 0 ∨ f n ≠ g n then (0 : Int) else 1) = 1
    split
    · exact Or.inl rfl
    · exact Or.inr rfl
/-- whether the bytes of piece j of segment s are those that array a gives -/
def rtJ (J : Int → Int → Int) (a s j : Int) : Int := eqN (mpJ J a s j 31) (fun t => J 27 (30 * (12 * s + j) + t)) (60 / J (-1) 2).toNat
theorem rtJ_r {J : Int → Int → Int} {a s j : Int} : rtJ J a s j = 0 ∨ rtJ J a s j = 1 := eqN_r _
theorem m_isRight {d : Nat} {K : Kt} {X : Xt} {J : Int → Int → Int} {ty : Nm → Nat} {ln : Nm → Int} {I : Nm → Int → Int} {R : Nm → Int → Option Nm} {c w : Nat} {a s j : Int} (h : MOk ty ln R) (ha : a = 23 ∨ a = 24) (hs : 0 ≤ s ∧ s < 400) (hj : 0 ≤ j ∧ j < 12) (hR : MR J) (hS : SC J) :
    Mth (d + 5) M_Mo_isRight [vR (some [2]), vR (some [3, a]), vI s, vI j] (ty, ln, pJ I J, R, c, w) K X = K (some (vI (rtJ J a s j))) (ty, ln, pJ I (mpJ J a s j), R, c, w) := by
  have h0 := h.1
  have a31 := h.a31
  have a27 := h.a27
  have hk := hS.1
  have lr := l_rg hk rfl
  have hB : ∀ x, 0 ≤ J a x ∧ J a x < 256 := fun x => by
    rcases ha with rfl | rfl
    · have := hR.k23 x; omega
    · have := hR.k24 x; omega
  obtain ⟨J1, hJ1⟩ : ∃ x, x = mpJ J a s j := ⟨_, rfl⟩
  have j1 : ∀ k y, k ≠ 31 → J1 k y = J k y := fun k y hk => by rw [hJ1]; exact mpJ_o hk
  have jm : J1 (-1) = J (-1) := by rw [hJ1]; exact mpJ_m
  unfold rtJ
  rw [← hJ1]
  have key : ∀ q t : Nat, t + q = (60 / J (-1) 2).toNat → Rn (d + 4) M_Mo_isRight K X 13 [vR (some [2]), vR (some [3, a]), vI s, vI j, vI (eqN (J1 31) (fun t => J 27 (30 * (12 * s + j) + t)) t), vI (t : Int)] [] (ty, ln, pJ I J1, R, c, w) = K (some (vI (eqN (J1 31) (fun t => J 27 (30 * (12 * s + j) + t)) (60 / J (-1) 2).toNat))) (ty, ln, pJ I J1, R, c, w) := by
    intro q
    induction q with
    | zero =>
      intro t ht
      have b := eqN_r (f := J1 31) (g := fun t => J 27 (30 * (12 * s + j) + t)) t
      rw [b_Mo_isRight_13, and_t h0, m_length h (by rw [jm]; exact hk), jm]
      refine b_Mo_isRight_19.trans ?_
      rw [if_pos (by omega), and_t b, show t = (60 / J (-1) 2).toNat by omega]
    | succ q ih =>
      intro t ht
      have b := eqN_r (f := J1 31) (g := fun t => J 27 (30 * (12 * s + j) + t)) t
      have ih' := ih (t + 1) (by omega)
      rw [b_Mo_isRight_13, and_t h0, m_length h (by rw [jm]; exact hk), jm]
      refine b_Mo_isRight_19.trans ?_
      rw [if_neg (by omega)]
      by_cases q1 : eqN (J1 31) (fun t => J 27 (30 * (12 * s + j) + t)) t = 0
      · rw [show eqN (J1 31) (fun t => J 27 (30 * (12 * s + j) + t)) (t + 1) = 0 from if_pos (Or.inl q1)] at ih'
        rw [if_pos q1, b_Mo_isRight_58, b_Mo_isRight_59, w32_id (by omega) (by omega)]
        exact ih'
      · rw [if_neg q1, and_t h0, h.e31, and_t ⟨Or.inl a31.2.1, by omega, by omega⟩, and_t h0, h.e27, w32_id (x := 12 * s) (by omega) (by omega), w32_id (x := 12 * s + j) (by omega) (by omega), w32_id (x := 30 * (12 * s + j)) (by omega) (by omega), w32_id (x := 30 * (12 * s + j) + (t : Int)) (by omega) (by omega), and_t ⟨Or.inl a27.2.1, by omega, by omega⟩, pJ_a (by decide), pJ_a (by decide), j1 27 _ (by decide)]
        by_cases q2 : J1 31 t = J 27 (30 * (12 * s + j) + t)
        · rw [show eqN (J1 31) (fun t => J 27 (30 * (12 * s + j) + t)) (t + 1) = 1 from if_neg (fun z => z.elim q1 (fun y => y q2))] at ih'
          rw [if_neg (fun z => z q2), b_Mo_isRight_59, w32_id (by omega) (by omega)]
          exact ih'
        · rw [show eqN (J1 31) (fun t => J 27 (30 * (12 * s + j) + t)) (t + 1) = 0 from if_pos (Or.inr q2)] at ih'
          rw [if_pos q2, b_Mo_isRight_58, b_Mo_isRight_59, w32_id (by omega) (by omega)]
          exact ih'
  rw [in_Mo_isRight, b_Mo_isRight_0, and_t h0, m_makePiece h ha hs hj hk hB, ← hJ1]
  refine b_Mo_isRight_7.trans ?_
  exact key _ 0 (Nat.zero_add _)
/-- the first n pieces of a segment that are reachable and right: how many, and the words then -/
def heA (J : Int → Int → Int) (s : Int) : Nat → Int × (Int → Int → Int)
  | 0 => (0, J)
  | j + 1 => if isR (heA J s j).2 (12 * s + j) then ((if rtJ (heA J s j).2 23 s j = 0 then (heA J s j).1 else (heA J s j).1 + 1), mpJ (heA J s j).2 23 s j) else heA J s j
theorem heA_i {J : Int → Int → Int} {s : Int} (h : MR J) : ∀ n : Nat, MR (heA J s n).2 ∧ (heA J s n).2 (-1) = J (-1) ∧ (∀ k x, k ≠ 31 → (heA J s n).2 k x = J k x) ∧ 0 ≤ (heA J s n).1 ∧ (heA J s n).1 ≤ n
  | 0 => ⟨h, rfl, fun _ _ _ => rfl, Int.le_refl _, Int.le_refl _⟩
  | n + 1 => by
    obtain ⟨i1, i2, i3, i4, i5⟩ := heA_i (s := s) h n
    by_cases q : isR (heA J s n).2 (12 * s + n)
    · rw [show heA J s (n + 1) = ((if rtJ (heA J s n).2 23 s n = 0 then (heA J s n).1 else (heA J s n).1 + 1), mpJ (heA J s n).2 23 s n) from if_pos q]
      refine ⟨mpJ_r i1, (mpJ_m (J := (heA J s n).2) (a := 23) (s := s) (j := n)).trans i2, fun k x hk => (mpJ_o (J := (heA J s n).2) (a := 23) (s := s) (j := n) hk).trans (i3 k x hk), ?_, ?_⟩
      · show (0 : Int) ≤ (if rtJ (heA J s n).2 23 s n = 0 then (heA J s n).1 else (heA J s n).1 + 1)
        split <;> omega
      · show (if rtJ (heA J s n).2 23 s n = 0 then (heA J s n).1 else (heA J s n).1 + 1) ≤ ((n + 1 : Nat) : Int)
        split <;> omega
    · rw [show heA J s (n + 1) = heA J s n from if_neg q]
      exact ⟨i1, i2, i3, i4, by omega⟩
theorem m_health {d : Nat} {K : Kt} {X : Xt} {J : Int → Int → Int} {ty : Nm → Nat} {ln : Nm → Int} {I : Nm → Int → Int} {R : Nm → Int → Option Nm} {c w : Nat} {a s : Int} (h : MOk ty ln R) (hR : MR J) (hS : SC J) :
    Mth (d + 6) M_Mo_health [vR (some [2]), vI a, vI s] (ty, ln, pJ I J, R, c, w) K X = (if (((0 ≤ a ∧ a ≤ 9) ∧ 0 < J 5 a) ∧ (0 ≤ s ∧ s < J 20 a) ∧ J 21 (40 * a + s) = 0) then K (some (vI ((heA (uJ J (-1) 0 0) (40 * a + s) (J (-1) 3).toNat).1))) (ty, ln, pJ I ((heA (uJ J (-1) 0 0) (40 * a + s) (J (-1) 3).toNat).2), R, c, w) else K (some (vI (0))) (ty, ln, pJ I (uJ J (-1) 0 1), R, c, w)) := by
  have h0 := h.1
  have hN : 0 ≤ J (-1) 3 ∧ J (-1) 3 ≤ 12 := by have := hS.1; have := hS.2.1; omega
  have d1 := hR.k20 a
  by_cases q1 : (((0 ≤ a ∧ a ≤ 9) ∧ 0 < J 5 a) ∧ (0 ≤ s ∧ s < J 20 a) ∧ J 21 (40 * a + s) = 0)
  · have hR' : MR (uJ J (-1) 0 0) := hR.u (Or.inl rfl)
    have hS' : SC (uJ J (-1) 0 0) := hS.u (Or.inr (Or.inl rfl))
    have eN : (uJ J (-1) 0 0) (-1) 3 = J (-1) 3 := by rw [uJ_self, upI_ne _ _ (by decide)]
    have key : ∀ q i : Nat, i + q = (J (-1) 3).toNat → Rn (d + 5) M_Mo_health K X 36 [vR (some [2]), vI a, vI s, vI (40 * a + s), vI (heA (uJ J (-1) 0 0) (40 * a + s) i).1, vI (i : Int)] [] (ty, ln, pJ I (heA (uJ J (-1) 0 0) (40 * a + s) i).2, R, c, w) = K (some (vI (heA (uJ J (-1) 0 0) (40 * a + s) (J (-1) 3).toNat).1)) (ty, ln, pJ I (heA (uJ J (-1) 0 0) (40 * a + s) (J (-1) 3).toNat).2, R, c, w) := by
      intro q
      induction q with
      | zero =>
        intro i hi
        obtain ⟨i1, i2, i3, i4, i5⟩ := heA_i (s := 40 * a + s) hR' i
        rw [b_Mo_health_36, and_t h0, pJ_m, i2, eN, if_pos (by omega), show i = (J (-1) 3).toNat by omega]
      | succ q ih =>
        intro i hi
        obtain ⟨i1, i2, i3, i4, i5⟩ := heA_i (s := 40 * a + s) hR' i
        have ih' := ih (i + 1) (by omega)
        rw [b_Mo_health_36, and_t h0, pJ_m, i2, eN, if_neg (by omega), and_t h0, w32_id (x := 12 * (40 * a + s)) (by omega) (by omega), w32_id (x := 12 * (40 * a + s) + (i : Int)) (by omega) (by omega), m_isReachable h (by omega) (i1.k25 _).2]
        refine b_Mo_health_56.trans ?_
        by_cases q2 : isR (heA (uJ J (-1) 0 0) (40 * a + s) i).2 (12 * (40 * a + s) + i)
        · rw [show heA (uJ J (-1) 0 0) (40 * a + s) (i + 1) = ((if rtJ (heA (uJ J (-1) 0 0) (40 * a + s) i).2 23 (40 * a + s) i = 0 then (heA (uJ J (-1) 0 0) (40 * a + s) i).1 else (heA (uJ J (-1) 0 0) (40 * a + s) i).1 + 1), mpJ (heA (uJ J (-1) 0 0) (40 * a + s) i).2 23 (40 * a + s) i) from if_pos q2] at ih'
          rw [if_pos q2, if_neg (by decide), and_t h0, and_t h0, h.a23.1, m_isRight h (Or.inl rfl) (by omega) (by omega) i1 (hS'.m i2)]
          refine b_Mo_health_70.trans ?_
          by_cases q3 : rtJ (heA (uJ J (-1) 0 0) (40 * a + s) i).2 23 (40 * a + s) i = 0
          · rw [if_pos q3] at ih'
            rw [if_pos q3, b_Mo_health_80, b_Mo_health_82, w32_id (by omega) (by omega)]
            exact ih'
          · rw [if_neg q3] at ih'
            rw [if_neg q3, b_Mo_health_82, w32_id (by omega) (by omega), w32_id (by omega) (by omega)]
            exact ih'
        · rw [show heA (uJ J (-1) 0 0) (40 * a + s) (i + 1) = heA (uJ J (-1) 0 0) (40 * a + s) i from if_neg q2] at ih'
          rw [if_neg q2, if_pos rfl, b_Mo_health_80, b_Mo_health_82, w32_id (by omega) (by omega)]
          exact ih'
    have k0 := key (J (-1) 3).toNat 0 (Nat.zero_add _)
    simp (disch := omega) only [in_Mo_health, b_Mo_health_0, b_Mo_health_7, b_Mo_health_15, b_Mo_health_18, m_isSegment h hR.k20, m_refused h, Option.toList_some, Option.toList_none, List.cons_append, List.nil_append, ↓if_pos, ↓if_neg, ↓and_t, pJ_a, pJ_m, up_a, up_m, Option.some.injEq, exists_eq_left', wr_a, wr_m, true_and, and_true, not_true_eq_false, not_false_eq_true, if_true, if_false, or_true, true_or, uJ_self, uJ_ne, upI_self, upI_ne, w32_id, reduceCtorEq, ne_eq, wJ_ne, wJ_out]
    exact k0
  · simp (disch := omega) only [in_Mo_health, b_Mo_health_0, b_Mo_health_7, b_Mo_health_15, b_Mo_health_18, m_isSegment h hR.k20, m_refused h, Option.toList_some, Option.toList_none, List.cons_append, List.nil_append, ↓if_pos, ↓if_neg, ↓and_t, pJ_a, pJ_m, up_a, up_m, Option.some.injEq, exists_eq_left', wr_a, wr_m, true_and, and_true, not_true_eq_false, not_false_eq_true, if_true, if_false, or_true, true_or, uJ_self, uJ_ne, upI_self, upI_ne, w32_id, reduceCtorEq, ne_eq, wJ_ne, wJ_out]
set_option maxHeartbeats 4000000 in
theorem m_sample {d : Nat} {K : Kt} {X : Xt} {J : Int → Int → Int} {ty : Nm → Nat} {ln : Nm → Int} {I : Nm → Int → Int} {R : Nm → Int → Option Nm} {c w : Nat} {a s j : Int} (h : MOk ty ln R) (hR : MR J) (hS : SC J) :
    Mth (d + 5) M_Mo_sample [vR (some [2]), vI a, vI s, vI j] (ty, ln, pJ I J, R, c, w) K X = (if ((((0 ≤ a ∧ a ≤ 9) ∧ 0 < J 5 a) ∧ (0 ≤ s ∧ s < J 20 a) ∧ J 21 (40 * a + s) = 0) ∧ 0 ≤ j ∧ j < J (-1) 3) then (if J 7 a = 0 then (if J 25 (12 * (40 * a + s) + j) < 0 ∨ J 28 (12 * (40 * a + s) + j) = 8 then K (some (vI (-1))) (ty, ln, pJ I (uJ J (-1) 0 0), R, c, w) else if J 6 (J 25 (12 * (40 * a + s) + j)) = 0 then K (some (vI (2))) (ty, ln, pJ I (uJ (uJ J (-1) 0 0) 28 (12 * (40 * a + s) + j) (J 28 (12 * (40 * a + s) + j) + 1)), R, c, w) else K (some (vI (if J 26 (12 * (40 * a + s) + j) ≠ 0 ∧ anS (fun x => J 27 (30 * (12 * (40 * a + s) + j) + x)) (60 / J (-1) 2) (J 28 (12 * (40 * a + s) + j)) (60 / J (-1) 2 / 2).toNat = J 29 (8 * (12 * (40 * a + s) + j) + J 28 (12 * (40 * a + s) + j)) then 1 else 0))) (ty, ln, pJ I (uJ (uJ J (-1) 0 0) 28 (12 * (40 * a + s) + j) (J 28 (12 * (40 * a + s) + j) + 1)), R, c, w)) else K (some (vI (0))) (ty, ln, pJ I (uJ J (-1) 0 2), R, c, w)) else K (some (vI (0))) (ty, ln, pJ I (uJ J (-1) 0 1), R, c, w)) := by
  have a6 := h.a6
  have a7 := h.a7
  have a25 := h.a25
  have a26 := h.a26
  have a27 := h.a27
  have a28 := h.a28
  have a29 := h.a29
  have h0 := h.1
  have hN : 0 ≤ J (-1) 3 ∧ J (-1) 3 ≤ 12 := by have := hS.1; have := hS.2.1; omega
  have hk := hS.1
  have lr := l_rg hk rfl
  have d1 := hR.k20 a
  have d2 := hR.k28 (12 * (40 * a + s) + j)
  have d3 := hR.k25 (12 * (40 * a + s) + j)
  by_cases q1 : ((((0 ≤ a ∧ a ≤ 9) ∧ 0 < J 5 a) ∧ (0 ≤ s ∧ s < J 20 a) ∧ J 21 (40 * a + s) = 0) ∧ 0 ≤ j ∧ j < J (-1) 3)
  · by_cases q2 : J 7 a = 0
    · by_cases q3 : J 25 (12 * (40 * a + s) + j) < 0 ∨ J 28 (12 * (40 * a + s) + j) = 8
      · by_cases q4 : J 25 (12 * (40 * a + s) + j) < 0
        · simp (disch := omega) only [in_Mo_sample, b_Mo_sample_0, b_Mo_sample_8, b_Mo_sample_29, b_Mo_sample_32, b_Mo_sample_72, b_Mo_sample_134, b_Mo_sample_139, b_Mo_sample_159, b_Mo_sample_160, m_isPiece h hR.k20 hN, m_refused h, ↓h.e6, ↓h.e7, ↓h.e25, ↓h.e26, ↓h.e28, Option.toList_some, Option.toList_none, List.cons_append, List.nil_append, ↓if_pos, ↓if_neg, ↓and_t, pJ_a, pJ_m, up_a, up_m, Option.some.injEq, exists_eq_left', wr_a, wr_m, true_and, and_true, not_true_eq_false, not_false_eq_true, if_true, if_false, or_true, true_or, uJ_self, uJ_ne, upI_self, upI_ne, w32_id, reduceCtorEq, ne_eq, wJ_ne, wJ_out]
        · simp (disch := omega) only [in_Mo_sample, b_Mo_sample_0, b_Mo_sample_8, b_Mo_sample_29, b_Mo_sample_32, b_Mo_sample_72, b_Mo_sample_134, b_Mo_sample_139, b_Mo_sample_159, b_Mo_sample_160, m_isPiece h hR.k20 hN, m_refused h, ↓h.e6, ↓h.e7, ↓h.e25, ↓h.e26, ↓h.e28, Option.toList_some, Option.toList_none, List.cons_append, List.nil_append, ↓if_pos, ↓if_neg, ↓and_t, pJ_a, pJ_m, up_a, up_m, Option.some.injEq, exists_eq_left', wr_a, wr_m, true_and, and_true, not_true_eq_false, not_false_eq_true, if_true, if_false, or_true, true_or, uJ_self, uJ_ne, upI_self, upI_ne, w32_id, reduceCtorEq, ne_eq, wJ_ne, wJ_out]
      · by_cases q4 : J 6 (J 25 (12 * (40 * a + s) + j)) = 0
        · simp (disch := omega) only [in_Mo_sample, b_Mo_sample_0, b_Mo_sample_8, b_Mo_sample_29, b_Mo_sample_32, b_Mo_sample_72, b_Mo_sample_134, b_Mo_sample_139, b_Mo_sample_159, b_Mo_sample_160, m_isPiece h hR.k20 hN, m_refused h, ↓h.e6, ↓h.e7, ↓h.e25, ↓h.e26, ↓h.e28, Option.toList_some, Option.toList_none, List.cons_append, List.nil_append, ↓if_pos, ↓if_neg, ↓and_t, pJ_a, pJ_m, up_a, up_m, Option.some.injEq, exists_eq_left', wr_a, wr_m, true_and, and_true, not_true_eq_false, not_false_eq_true, if_true, if_false, or_true, true_or, uJ_self, uJ_ne, upI_self, upI_ne, w32_id, reduceCtorEq, ne_eq, wJ_ne, wJ_out]
        · by_cases q5 : J 26 (12 * (40 * a + s) + j) = 0
          · simp (disch := omega) only [in_Mo_sample, b_Mo_sample_0, b_Mo_sample_8, b_Mo_sample_29, b_Mo_sample_32, b_Mo_sample_72, b_Mo_sample_134, b_Mo_sample_139, b_Mo_sample_159, b_Mo_sample_160, m_isPiece h hR.k20 hN, m_refused h, ↓h.e6, ↓h.e7, ↓h.e25, ↓h.e26, ↓h.e28, Option.toList_some, Option.toList_none, List.cons_append, List.nil_append, ↓if_pos, ↓if_neg, ↓and_t, pJ_a, pJ_m, up_a, up_m, Option.some.injEq, exists_eq_left', wr_a, wr_m, true_and, and_true, not_true_eq_false, not_false_eq_true, if_true, if_false, or_true, true_or, uJ_self, uJ_ne, upI_self, upI_ne, w32_id, reduceCtorEq, ne_eq, wJ_ne, wJ_out]
          · rw [if_pos q1, if_pos q2, if_neg q3, if_neg q4]
            have hkk : 2 ≤ uJ (uJ J (-1) 0 0) 28 (12 * (40 * a + s) + j) (J 28 (12 * (40 * a + s) + j) + 1) (-1) 2 ∧ uJ (uJ J (-1) 0 0) 28 (12 * (40 * a + s) + j) (J 28 (12 * (40 * a + s) + j) + 1) (-1) 2 ≤ 6 := by rw [uJ_ne (by decide), uJ_self, upI_ne _ _ (by decide)]; exact hk
            have eL : uJ (uJ J (-1) 0 0) 28 (12 * (40 * a + s) + j) (J 28 (12 * (40 * a + s) + j) + 1) (-1) 2 = J (-1) 2 := by rw [uJ_ne (by decide), uJ_self, upI_ne _ _ (by decide)]
            simp (disch := first | omega | assumption) only [in_Mo_sample, b_Mo_sample_0, b_Mo_sample_8, b_Mo_sample_29, b_Mo_sample_32, b_Mo_sample_72, m_isPiece h hR.k20 hN, m_refused h, m_length h hkk, eL, ↓h.e6, ↓h.e7, ↓h.e25, ↓h.e26, ↓h.e28, a27.1, Option.toList_some, Option.toList_none, List.cons_append, List.nil_append, ↓if_pos, ↓if_neg, ↓and_t, pJ_a, pJ_m, up_a, up_m, Option.some.injEq, exists_eq_left', wr_a, wr_m, true_and, and_true, not_true_eq_false, not_false_eq_true, if_true, if_false, or_true, true_or, uJ_self, uJ_ne, upI_self, upI_ne, w32_id, reduceCtorEq, ne_eq, wJ_ne, wJ_out]
            have b27 : ∀ x, pJ I (uJ (uJ J (-1) 0 0) 28 (12 * (40 * a + s) + j) (J 28 (12 * (40 * a + s) + j) + 1)) [3, 27] x = J 27 x := fun x => by rw [pJ_a (by decide), uJ_ne (by decide), uJ_ne (by decide)]
            refine b_Mo_sample_134.trans ?_
            rw [m_answer lr (by omega) a27.2.1 (by omega) (by omega) (fun x _ _ => by rw [b27]; have := hR.k27 (30 * (12 * (40 * a + s) + j) + x); omega), show (fun x => pJ I (uJ (uJ J (-1) 0 0) 28 (12 * (40 * a + s) + j) (J 28 (12 * (40 * a + s) + j) + 1)) [3, 27] (30 * (12 * (40 * a + s) + j) + x)) = (fun x => J 27 (30 * (12 * (40 * a + s) + j) + x)) from funext (fun x => b27 _)]
            refine b_Mo_sample_139.trans ?_
            by_cases q6 : anS (fun x => J 27 (30 * (12 * (40 * a + s) + j) + x)) (60 / J (-1) 2) (J 28 (12 * (40 * a + s) + j)) (60 / J (-1) 2 / 2).toNat = J 29 (8 * (12 * (40 * a + s) + j) + J 28 (12 * (40 * a + s) + j))
            · simp (disch := first | omega | assumption) only [q6, b_Mo_sample_160, ↓h.e29, Option.toList_some, Option.toList_none, List.cons_append, List.nil_append, ↓if_pos, ↓if_neg, ↓and_t, pJ_a, pJ_m, up_a, up_m, Option.some.injEq, exists_eq_left', wr_a, wr_m, true_and, and_true, not_true_eq_false, not_false_eq_true, if_true, if_false, or_true, true_or, uJ_self, uJ_ne, upI_self, upI_ne, w32_id, reduceCtorEq, ne_eq, wJ_ne, wJ_out]
            · simp (disch := first | omega | assumption) only [b_Mo_sample_159, b_Mo_sample_160, ↓h.e29, Option.toList_some, Option.toList_none, List.cons_append, List.nil_append, ↓if_pos, ↓if_neg, ↓and_t, pJ_a, pJ_m, up_a, up_m, Option.some.injEq, exists_eq_left', wr_a, wr_m, true_and, and_true, not_true_eq_false, not_false_eq_true, if_true, if_false, or_true, true_or, uJ_self, uJ_ne, upI_self, upI_ne, w32_id, reduceCtorEq, ne_eq, wJ_ne, wJ_out]
    · simp (disch := omega) only [in_Mo_sample, b_Mo_sample_0, b_Mo_sample_8, b_Mo_sample_29, b_Mo_sample_32, b_Mo_sample_72, b_Mo_sample_134, b_Mo_sample_139, b_Mo_sample_159, b_Mo_sample_160, m_isPiece h hR.k20 hN, m_refused h, ↓h.e6, ↓h.e7, ↓h.e25, ↓h.e26, ↓h.e28, Option.toList_some, Option.toList_none, List.cons_append, List.nil_append, ↓if_pos, ↓if_neg, ↓and_t, pJ_a, pJ_m, up_a, up_m, Option.some.injEq, exists_eq_left', wr_a, wr_m, true_and, and_true, not_true_eq_false, not_false_eq_true, if_true, if_false, or_true, true_or, uJ_self, uJ_ne, upI_self, upI_ne, w32_id, reduceCtorEq, ne_eq, wJ_ne, wJ_out]
  · simp (disch := omega) only [in_Mo_sample, b_Mo_sample_0, b_Mo_sample_8, b_Mo_sample_29, b_Mo_sample_32, b_Mo_sample_72, b_Mo_sample_134, b_Mo_sample_139, b_Mo_sample_159, b_Mo_sample_160, m_isPiece h hR.k20 hN, m_refused h, ↓h.e6, ↓h.e7, ↓h.e25, ↓h.e26, ↓h.e28, Option.toList_some, Option.toList_none, List.cons_append, List.nil_append, ↓if_pos, ↓if_neg, ↓and_t, pJ_a, pJ_m, up_a, up_m, Option.some.injEq, exists_eq_left', wr_a, wr_m, true_and, and_true, not_true_eq_false, not_false_eq_true, if_true, if_false, or_true, true_or, uJ_self, uJ_ne, upI_self, upI_ne, w32_id, reduceCtorEq, ne_eq, wJ_ne, wJ_out]
