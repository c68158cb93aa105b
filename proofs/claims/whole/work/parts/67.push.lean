/-! ===== the reference: pieces of a segment, of a house ===== -/
theorem uJ_m {J : Int → Int → Int} {k j v : Int} (h : k ≠ -1) : uJ J k j v (-1) = J (-1) := uJ_ne (fun e => h e.symm)
theorem wJ_m {J : Int → Int → Int} {k lo hi : Int} {f : Int → Int} (h : k ≠ -1) : wJ J k lo hi f (-1) = J (-1) := by
  funext x
  exact wJ_ne (fun e => h e.symm)
theorem mpJ_m {J : Int → Int → Int} {a s j : Int} : mpJ J a s j (-1) = J (-1) := wJ_m (by decide)
theorem putP_m {J : Int → Int → Int} {a s j b : Int} : putP J a s j b (-1) = J (-1) := by
  unfold putP
  rw [uJ_m (by decide), uJ_m (by decide), uJ_m (by decide), uJ_m (by decide), uJ_m (by decide), wJ_m (by decide), wJ_m (by decide), mpJ_m]
theorem plJ_m {J : Int → Int → Int} {a s j : Int} : plJ J a s j (-1) = J (-1) := by
  unfold plJ
  split
  · rfl
  · exact putP_m
theorem SC.m {J J' : Int → Int → Int} (h : SC J) (e : J' (-1) = J (-1)) : SC J' := by
  unfold SC at h ⊢
  rw [e]
  exact h
theorem mpJ_r {J : Int → Int → Int} {a s j : Int} (h : MR J) : MR (mpJ J a s j) := by
  refine h.w (fun x _ _ => ?_)
  have := enN_r (f := fun x => J a (60 * s + x)) (l := 60 / J (-1) 2) (j := j) (t := x) (J (-1) 2).toNat
  exact ⟨this.1, by show _ ≤ (255 : Int); omega⟩
/-- the house that is found best may take the piece -/
theorem bestJ_ok {J : Int → Int → Int} {a s : Int} : ∀ k : Nat, bestJ J a s k < 0 ∨ mayK J a s (bestJ J a s k)
  | 0 => Or.inl (by show (-1 : Int) < 0; decide)
  | k + 1 => by
    by_cases q : mayK J a s k ∧ (bestJ J a s k < 0 ∨ sumR (fun i => J 10 (10 * (k : Int) + i)) 10 < sumR (fun i => J 10 (10 * bestJ J a s k + i)) 10)
    · rw [show bestJ J a s (k + 1) = k from if_pos q]
      exact Or.inr q.1
    · rw [show bestJ J a s (k + 1) = bestJ J a s k from if_neg q]
      exact bestJ_ok k
theorem plJ_r {J : Int → Int → Int} {a s j : Int} (h : MR J) (hS : SC J) : MR (plJ J a s j) := by
  unfold plJ
  by_cases q : bestJ J a s 10 < 0
  · rw [if_pos q]; exact h
  · rw [if_neg q]
    have br := bestJ_r (J := J) (a := a) (s := s) 10
    have bm := (bestJ_ok (J := J) (a := a) (s := s) 10).resolve_left q
    have kr := h.k10 (10 * bestJ J a s 10 + a)
    have l9 := h.k9 (10 * bestJ J a s 10 + a)
    have lr := l_rg hS.1 rfl
    have m1 := mpJ_r (a := 24) (s := s) (j := j) h
    unfold putP
    refine (((((( m1.w (fun x _ _ => ?_)).w (fun x x0 x1 => ?_)).u ?_).u ?_).u ?_).u ?_).u ?_
    · have := m1.k31 (x - 30 * (12 * s + j))
      exact ⟨this.1, this.2⟩
    · have := anS_r (f := mpJ J 24 s j 31) (q := x - 8 * (12 * s + j)) lr (by omega) (fun y _ _ => by have := m1.k31 y; omega) (60 / J (-1) 2 / 2).toNat (by omega)
      exact ⟨this.1, by show _ ≤ (65520 : Int); omega⟩
    · exact Or.inr ⟨by decide, by decide⟩
    · exact Or.inr ⟨by show (-1 : Int) ≤ _; omega, by show _ ≤ (9 : Int); omega⟩
    · exact Or.inr ⟨by decide, by decide⟩
    · exact Or.inr ⟨by show (0 : Int) ≤ _; omega, by show _ ≤ (100 : Int); omega⟩
    · exact Or.inr ⟨by decide, by decide⟩
/-- the first n pieces of a segment: how many were placed, and the words then -/
def plA (J : Int → Int → Int) (a s : Int) : Nat → Int × (Int → Int → Int)
  | 0 => (0, J)
  | j + 1 => if (plA J a s j).2 25 (12 * s + j) < 0 then ((plA J a s j).1 + (if bestJ (plA J a s j).2 a s 10 < 0 then 0 else 1), plJ (plA J a s j).2 a s j) else plA J a s j
theorem plA_i {J : Int → Int → Int} {a s : Int} (h : MR J) (hS : SC J) : ∀ n : Nat, MR (plA J a s n).2 ∧ (plA J a s n).2 (-1) = J (-1) ∧ 0 ≤ (plA J a s n).1 ∧ (plA J a s n).1 ≤ n
  | 0 => ⟨h, rfl, Int.le_refl _, Int.le_refl _⟩
  | n + 1 => by
    obtain ⟨i1, i2, i3, i4⟩ := plA_i (a := a) (s := s) h hS n
    by_cases q : (plA J a s n).2 25 (12 * s + n) < 0
    · rw [show plA J a s (n + 1) = ((plA J a s n).1 + (if bestJ (plA J a s n).2 a s 10 < 0 then 0 else 1), plJ (plA J a s n).2 a s n) from if_pos q]
      refine ⟨plJ_r i1 (hS.m i2), by show plJ _ _ _ _ (-1) = _; rw [plJ_m, i2], ?_, ?_⟩
      · show 0 ≤ (plA J a s n).1 + (if _ then 0 else 1)
        split <;> omega
      · show (plA J a s n).1 + (if _ then 0 else 1) ≤ ((n + 1 : Nat) : Int)
        split <;> omega
    · rw [show plA J a s (n + 1) = plA J a s n from if_neg q]
      exact ⟨i1, i2, i3, by omega⟩
theorem m_placeAll {d : Nat} {K : Kt} {X : Xt} {J : Int → Int → Int} {ty : Nm → Nat} {ln : Nm → Int} {I : Nm → Int → Int} {R : Nm → Int → Option Nm} {c w : Nat} {a s : Int} (h : MOk ty ln R) (hR : MR J) (hS : SC J) (a0 : 0 ≤ a ∧ a ≤ 9) (s0 : 0 ≤ s ∧ s < 400) :
    Mth (d + 6) M_Mo_placeAll [vR (some [2]), vI a, vI s] (ty, ln, pJ I J, R, c, w) K X = K (some (vI ((plA J a s (J (-1) 3).toNat).1))) (ty, ln, pJ I ((plA J a s (J (-1) 3).toNat).2), R, c, w) := by
  have h0 := h.1
  have a25 := h.a25
  have hN : 0 ≤ J (-1) 3 ∧ J (-1) 3 ≤ 12 := by have := hS.1; have := hS.2.1; omega
  have key : ∀ q i : Nat, i + q = (J (-1) 3).toNat → Rn (d + 5) M_Mo_placeAll K X 5 [vR (some [2]), vI a, vI s, vI (plA J a s i).1, vI (i : Int)] [] (ty, ln, pJ I (plA J a s i).2, R, c, w) = K (some (vI (plA J a s (J (-1) 3).toNat).1)) (ty, ln, pJ I (plA J a s (J (-1) 3).toNat).2, R, c, w) := by
    intro q
    induction q with
    | zero =>
      intro i hi
      obtain ⟨i1, i2, i3, i4⟩ := plA_i (a := a) (s := s) hR hS i
      rw [b_Mo_placeAll_5, and_t h0, pJ_m, i2, if_pos (by omega), show i = (J (-1) 3).toNat by omega]
    | succ q ih =>
      intro i hi
      obtain ⟨i1, i2, i3, i4⟩ := plA_i (a := a) (s := s) hR hS i
      have ih' := ih (i + 1) (by omega)
      rw [b_Mo_placeAll_5, and_t h0, pJ_m, i2, if_neg (by omega), and_t h0, h.e25, w32_id (x := 12 * s) (by omega) (by omega), w32_id (x := 12 * s + (i : Int)) (by omega) (by omega), and_t ⟨Or.inl a25.2.1, by omega, by omega⟩, pJ_a (by decide)]
      by_cases q1 : (plA J a s i).2 25 (12 * s + i) < 0
      · rw [show plA J a s (i + 1) = ((plA J a s i).1 + (if bestJ (plA J a s i).2 a s 10 < 0 then 0 else 1), plJ (plA J a s i).2 a s i) from if_pos q1] at ih'
        rw [if_neg (by omega), and_t h0, m_place h i1 (hS.m i2) a0 s0 (by omega)]
        refine b_Mo_placeAll_37.trans ?_
        by_cases q2 : bestJ (plA J a s i).2 a s 10 < 0
        · rw [if_pos q2] at ih' ⊢
          rw [if_pos rfl, b_Mo_placeAll_43, w32_id (by omega) (by omega)]
          rw [Int.add_zero] at ih'
          exact ih'
        · rw [if_neg q2] at ih' ⊢
          rw [if_neg (by decide), w32_id (x := (plA J a s i).1 + 1) (by omega) (by omega), b_Mo_placeAll_43, w32_id (by omega) (by omega)]
          exact ih'
      · rw [show plA J a s (i + 1) = plA J a s i from if_neg q1] at ih'
        rw [if_pos (by omega), b_Mo_placeAll_43, w32_id (by omega) (by omega)]
        exact ih'
  rw [in_Mo_placeAll, b_Mo_placeAll_0]
  exact key (J (-1) 3).toNat 0 (Nat.zero_add _)
/-- the first n segments of a house -/
def puA (J : Int → Int → Int) (a : Int) : Nat → Int × (Int → Int → Int)
  | 0 => (0, J)
  | s + 1 => if (puA J a s).2 22 (40 * a + s) = 0 then puA J a s else ((puA J a s).1 + (plA (puA J a s).2 a (40 * a + s) (J (-1) 3).toNat).1, (plA (puA J a s).2 a (40 * a + s) (J (-1) 3).toNat).2)
theorem mpJ_o {J : Int → Int → Int} {a s j k x : Int} (h : k ≠ 31) : mpJ J a s j k x = J k x := wJ_ne h
theorem plJ_o {J : Int → Int → Int} {a s j k x : Int} (h : k ≠ 31 ∧ k ≠ 27 ∧ k ≠ 29 ∧ k ≠ 28 ∧ k ≠ 25 ∧ k ≠ 26 ∧ k ≠ 10 ∧ k ≠ 8) : plJ J a s j k x = J k x := by
  unfold plJ
  split
  · rfl
  · unfold putP
    rw [uJ_ne (by omega), uJ_ne (by omega), uJ_ne (by omega), uJ_ne (by omega), uJ_ne (by omega), wJ_ne (by omega), wJ_ne (by omega), mpJ_o (by omega)]
theorem plA_o {J : Int → Int → Int} {a s k x : Int} (h : k ≠ 31 ∧ k ≠ 27 ∧ k ≠ 29 ∧ k ≠ 28 ∧ k ≠ 25 ∧ k ≠ 26 ∧ k ≠ 10 ∧ k ≠ 8) : ∀ n : Nat, (plA J a s n).2 k x = J k x
  | 0 => rfl
  | n + 1 => by
    by_cases q : (plA J a s n).2 25 (12 * s + n) < 0
    · rw [show plA J a s (n + 1) = ((plA J a s n).1 + (if bestJ (plA J a s n).2 a s 10 < 0 then 0 else 1), plJ (plA J a s n).2 a s n) from if_pos q]
      show plJ _ _ _ _ k x = _
      rw [plJ_o h, plA_o h n]
    · rw [show plA J a s (n + 1) = plA J a s n from if_neg q, plA_o h n]
theorem puA_i {J : Int → Int → Int} {a : Int} (h : MR J) (hS : SC J) : ∀ n : Nat, MR (puA J a n).2 ∧ (puA J a n).2 (-1) = J (-1) ∧ 0 ≤ (puA J a n).1 ∧ (puA J a n).1 ≤ 12 * n
  | 0 => ⟨h, rfl, Int.le_refl _, Int.le_refl _⟩
  | n + 1 => by
    obtain ⟨i1, i2, i3, i4⟩ := puA_i (a := a) h hS n
    by_cases q : (puA J a n).2 22 (40 * a + n) = 0
    · rw [show puA J a (n + 1) = puA J a n from if_pos q]
      exact ⟨i1, i2, i3, by omega⟩
    · rw [show puA J a (n + 1) = ((puA J a n).1 + (plA (puA J a n).2 a (40 * a + n) (J (-1) 3).toNat).1, (plA (puA J a n).2 a (40 * a + n) (J (-1) 3).toNat).2) from if_neg q]
      obtain ⟨p1, p2, p3, p4⟩ := plA_i (a := a) (s := 40 * a + n) i1 (hS.m i2) (J (-1) 3).toNat
      have := hS.2.1
      refine ⟨p1, p2.trans i2, ?_, ?_⟩
      · show 0 ≤ (puA J a n).1 + _
        omega
      · show (puA J a n).1 + _ ≤ _
        omega
theorem puA_o {J : Int → Int → Int} {a k x : Int} (h : k ≠ 31 ∧ k ≠ 27 ∧ k ≠ 29 ∧ k ≠ 28 ∧ k ≠ 25 ∧ k ≠ 26 ∧ k ≠ 10 ∧ k ≠ 8) : ∀ n : Nat, (puA J a n).2 k x = J k x
  | 0 => rfl
  | n + 1 => by
    by_cases q : (puA J a n).2 22 (40 * a + n) = 0
    · rw [show puA J a (n + 1) = puA J a n from if_pos q, puA_o h n]
    · rw [show puA J a (n + 1) = ((puA J a n).1 + (plA (puA J a n).2 a (40 * a + n) (J (-1) 3).toNat).1, (plA (puA J a n).2 a (40 * a + n) (J (-1) 3).toNat).2) from if_neg q]
      show (plA _ _ _ _).2 k x = _
      rw [plA_o h, puA_o h n]
theorem m_push {d : Nat} {K : Kt} {X : Xt} {J : Int → Int → Int} {ty : Nm → Nat} {ln : Nm → Int} {I : Nm → Int → Int} {R : Nm → Int → Option Nm} {c w : Nat} {a : Int} (h : MOk ty ln R) (hR : MR J) (hS : SC J) :
    Mth (d + 7) M_Mo_push [vR (some [2]), vI a] (ty, ln, pJ I J, R, c, w) K X = (if ((0 ≤ a ∧ a ≤ 9) ∧ 0 < J 5 a) then (if J 7 a = 0 ∧ J 6 a ≠ 0 then K (some (vI ((puA (uJ J (-1) 0 0) a (J 20 a).toNat).1))) (ty, ln, pJ I ((puA (uJ J (-1) 0 0) a (J 20 a).toNat).2), R, c, w) else K (some (vI (0))) (ty, ln, pJ I (uJ J (-1) 0 2), R, c, w)) else K (some (vI (0))) (ty, ln, pJ I (uJ J (-1) 0 1), R, c, w)) := by
  have h0 := h.1
  have a6 := h.a6
  have a7 := h.a7
  have a20 := h.a20
  have a22 := h.a22
  by_cases q1 : ((0 ≤ a ∧ a ≤ 9) ∧ 0 < J 5 a)
  · by_cases q2 : J 7 a = 0 ∧ J 6 a ≠ 0
    · have d1 := hR.k20 a
      have hR' : MR (uJ J (-1) 0 0) := hR.u (Or.inl rfl)
      have hS' : SC (uJ J (-1) 0 0) := hS.u (Or.inr (Or.inl rfl))
      have key : ∀ q i : Nat, i + q = (J 20 a).toNat → Rn (d + 6) M_Mo_push K X 51 [vR (some [2]), vI a, vI (puA (uJ J (-1) 0 0) a i).1, vI (40 * a + (i : Int))] [] (ty, ln, pJ I (puA (uJ J (-1) 0 0) a i).2, R, c, w) = K (some (vI (puA (uJ J (-1) 0 0) a (J 20 a).toNat).1)) (ty, ln, pJ I (puA (uJ J (-1) 0 0) a (J 20 a).toNat).2, R, c, w) := by
        intro q
        induction q with
        | zero =>
          intro i hi
          rw [b_Mo_push_51, and_t h0, h.e20, and_t ⟨Or.inl a20.2.1, by omega, by omega⟩, pJ_a (by decide), puA_o (by decide), uJ_ne (by decide), w32_id (x := 40 * a) (by omega) (by omega), w32_id (by omega) (by omega), if_pos (by omega), show i = (J 20 a).toNat by omega]
        | succ q ih =>
          intro i hi
          obtain ⟨i1, i2, i3, i4⟩ := puA_i (a := a) hR' hS' i
          obtain ⟨p1, p2, p3, p4⟩ := plA_i (a := a) (s := 40 * a + i) i1 (hS'.m i2) (J (-1) 3).toNat
          have hS2 := hS.2.1
          have ih' := ih (i + 1) (by omega)
          have eN : (uJ J (-1) 0 0) (-1) 3 = J (-1) 3 := by rw [uJ_self, upI_ne _ _ (by decide)]
          rw [b_Mo_push_51, and_t h0, h.e20, and_t ⟨Or.inl a20.2.1, by omega, by omega⟩, pJ_a (by decide), puA_o (by decide), uJ_ne (by decide), w32_id (x := 40 * a) (by omega) (by omega), w32_id (x := 40 * a + J 20 a) (by omega) (by omega), if_neg (by omega), and_t h0, h.e22, and_t ⟨a22.2.1, by omega, by omega⟩, pJ_a (by decide)]
          have e9 : 40 * a + (i : Int) + 1 = 40 * a + ((i + 1 : Nat) : Int) := by omega
          by_cases q3 : (puA (uJ J (-1) 0 0) a i).2 22 (40 * a + i) = 0
          · rw [show puA (uJ J (-1) 0 0) a (i + 1) = puA (uJ J (-1) 0 0) a i from if_pos q3] at ih'
            rw [if_pos q3, b_Mo_push_87, w32_id (by omega) (by omega), e9]
            exact ih'
          · rw [show puA (uJ J (-1) 0 0) a (i + 1) = ((puA (uJ J (-1) 0 0) a i).1 + (plA (puA (uJ J (-1) 0 0) a i).2 a (40 * a + i) ((uJ J (-1) 0 0) (-1) 3).toNat).1, (plA (puA (uJ J (-1) 0 0) a i).2 a (40 * a + i) ((uJ J (-1) 0 0) (-1) 3).toNat).2) from if_neg q3, eN] at ih'
            rw [if_neg q3, and_t h0, m_placeAll h i1 (hS'.m i2) (by omega) (by omega), i2, eN]
            refine b_Mo_push_82.trans ?_
            rw [w32_id (x := (puA (uJ J (-1) 0 0) a i).1 + (plA (puA (uJ J (-1) 0 0) a i).2 a (40 * a + i) (J (-1) 3).toNat).1) (by omega) (by omega), b_Mo_push_87, w32_id (by omega) (by omega), e9]
            exact ih'
      have k0 := key (J 20 a).toNat 0 (Nat.zero_add _)
      rw [show (40 * a + ((0 : Nat) : Int)) = 40 * a by omega] at k0
      simp (disch := omega) only [in_Mo_push, b_Mo_push_0, b_Mo_push_6, b_Mo_push_31, b_Mo_push_36, b_Mo_push_39, m_isHouse h, m_refused h, ↓h.e6, ↓h.e7, Option.toList_some, Option.toList_none, List.cons_append, List.nil_append, ↓if_pos, ↓if_neg, ↓and_t, pJ_a, pJ_m, up_a, up_m, Option.some.injEq, exists_eq_left', wr_a, wr_m, true_and, and_true, not_true_eq_false, not_false_eq_true, if_true, if_false, or_true, true_or, uJ_self, uJ_ne, upI_self, upI_ne, w32_id, reduceCtorEq, ne_eq, wJ_ne, wJ_out]
      exact k0
    · by_cases q3 : J 7 a = 0
      · simp (disch := omega) only [in_Mo_push, b_Mo_push_0, b_Mo_push_6, b_Mo_push_31, b_Mo_push_36, b_Mo_push_39, m_isHouse h, m_refused h, ↓h.e6, ↓h.e7, Option.toList_some, Option.toList_none, List.cons_append, List.nil_append, ↓if_pos, ↓if_neg, ↓and_t, pJ_a, pJ_m, up_a, up_m, Option.some.injEq, exists_eq_left', wr_a, wr_m, true_and, and_true, not_true_eq_false, not_false_eq_true, if_true, if_false, or_true, true_or, uJ_self, uJ_ne, upI_self, upI_ne, w32_id, reduceCtorEq, ne_eq, wJ_ne, wJ_out]
      · simp (disch := omega) only [in_Mo_push, b_Mo_push_0, b_Mo_push_6, b_Mo_push_31, b_Mo_push_36, b_Mo_push_39, m_isHouse h, m_refused h, ↓h.e6, ↓h.e7, Option.toList_some, Option.toList_none, List.cons_append, List.nil_append, ↓if_pos, ↓if_neg, ↓and_t, pJ_a, pJ_m, up_a, up_m, Option.some.injEq, exists_eq_left', wr_a, wr_m, true_and, and_true, not_true_eq_false, not_false_eq_true, if_true, if_false, or_true, true_or, uJ_self, uJ_ne, upI_self, upI_ne, w32_id, reduceCtorEq, ne_eq, wJ_ne, wJ_out]
  · rw [if_neg q1]
    exact n_push h q1
