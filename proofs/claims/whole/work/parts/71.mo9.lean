/-! ===== the reference: loseDisk, harm, recover ===== -/
/-- the first n pieces of all that lie with house a lost -/
def ldJ (J : Int → Int → Int) (a : Int) : Nat → Int → Int → Int
  | 0 => J
  | p + 1 => if ldJ J a p 25 p = a then loseJ (ldJ J a p) ((p : Int) / 480) p else ldJ J a p
theorem ldJ_i {J : Int → Int → Int} {a : Int} (h : GI J) : ∀ n : Nat, n ≤ 4800 → GI (ldJ J a n) ∧ ldJ J a n (-1) = J (-1) ∧ (∀ k x, k ≠ 26 → k ≠ 10 → ldJ J a n k x = J k x)
  | 0, _ => ⟨h, rfl, fun _ _ _ _ => rfl⟩
  | n + 1, hn => by
    obtain ⟨i1, i2, i3⟩ := ldJ_i (a := a) h n (by omega)
    by_cases q : ldJ J a n 25 n = a
    · rw [show ldJ J a (n + 1) = loseJ (ldJ J a n) ((n : Int) / 480) n from if_pos q]
      obtain ⟨g1, g2, g3, g4⟩ := loseJ_g (a := (n : Int) / 480) (p := n) i1 (by omega) (by omega)
      exact ⟨g1, loseJ_m.trans i2, fun k x k1 k2 => (g2 k x k1 k2).trans (i3 k x k1 k2)⟩
    · rw [show ldJ J a (n + 1) = ldJ J a n from if_neg q]
      exact ⟨i1, i2, i3⟩
def lsJ (J : Int → Int → Int) (a : Int) : Int → Int → Int := uJ (wJ (wJ (ldJ J a 4800) 12 (10 * a) (10 * a + 10) (fun _ => 0)) 22 (40 * a) (40 * a + 40) (fun _ => 0)) 7 a 1
theorem lsJ_g {J : Int → Int → Int} {a : Int} (h : GI J) : GI (lsJ J a) := (((ldJ_i h 4800 (by decide)).1.w (fun _ _ _ => ⟨by decide, by decide⟩) (by decide)).w (fun _ _ _ => ⟨by decide, by decide⟩) (by decide)).u (Or.inr ⟨by decide, by decide⟩) (Or.inl (by decide)) (by decide)
theorem m_loseDisk {d : Nat} {K : Kt} {X : Xt} {J : Int → Int → Int} {ty : Nm → Nat} {ln : Nm → Int} {I : Nm → Int → Int} {R : Nm → Int → Option Nm} {c w : Nat} {a : Int} (h : MOk ty ln R) (hG : GI J) :
    Mth (d + 3) M_Mo_loseDisk [vR (some [2]), vI a] (ty, ln, pJ I J, R, c, w) K X = (if ((0 ≤ a ∧ a ≤ 9) ∧ 0 < J 5 a) then K (none) (ty, ln, pJ I (lsJ (uJ J (-1) 0 0) a), R, c, w) else K (none) (ty, ln, pJ I (uJ J (-1) 0 1), R, c, w)) := by
  have h0 := h.1
  have a7 := h.a7
  have a12 := h.a12
  have a22 := h.a22
  have a25 := h.a25
  by_cases q1 : ((0 ≤ a ∧ a ≤ 9) ∧ 0 < J 5 a)
  · have hG' : GI (uJ J (-1) 0 0) := hG.u (Or.inl rfl) (Or.inr (Or.inl rfl)) (by decide)
    have k3 : ∀ J2, ∀ q i : Nat, i + q = 40 → Rn (d + 2) M_Mo_loseDisk K X 87 [vR (some [2]), vI a, vI (40 * a + (i : Int))] [] (ty, ln, pJ I (wJ J2 22 (40 * a) (40 * a + i) (fun _ => 0)), R, c, w) = K none (ty, ln, pJ I (uJ (wJ J2 22 (40 * a) (40 * a + 40) (fun _ => 0)) 7 a 1), R, c, w) := by
      intro J2 q
      induction q with
      | zero =>
        intro i hi
        rw [b_Mo_loseDisk_87, w32_id (x := 40 * a) (by omega) (by omega), w32_id (x := 40 * a + 40) (by omega) (by omega), if_pos (by omega), and_t h0, h.e7, and_t ⟨a7.2.1, rfl, by omega, by omega, Or.inr rfl⟩, up_a (by decide), show i = 40 by omega]
        rfl
      | succ q ih =>
        intro i hi
        rw [b_Mo_loseDisk_87, w32_id (x := 40 * a) (by omega) (by omega), w32_id (x := 40 * a + 40) (by omega) (by omega), if_neg (by omega), and_t h0, h.e22, and_t ⟨a22.2.1, rfl, by omega, by omega, Or.inl rfl⟩, up_a (by decide), w32_id (by omega) (by omega), wJ_up (by omega) (by rfl), Int.add_assoc]
        exact ih (i + 1) (by omega)
    have k2 : ∀ J2, ∀ q i : Nat, i + q = 10 → Rn (d + 2) M_Mo_loseDisk K X 58 [vR (some [2]), vI a, vI (i : Int)] [] (ty, ln, pJ I (wJ J2 12 (10 * a) (10 * a + i) (fun _ => 0)), R, c, w) = K none (ty, ln, pJ I (uJ (wJ (wJ J2 12 (10 * a) (10 * a + 10) (fun _ => 0)) 22 (40 * a) (40 * a + 40) (fun _ => 0)) 7 a 1), R, c, w) := by
      intro J2 q
      induction q with
      | zero =>
        intro i hi
        rw [b_Mo_loseDisk_58, if_pos (by omega), w32_id (x := 40 * a) (by omega) (by omega), show i = 10 by omega]
        have := k3 (wJ J2 12 (10 * a) (10 * a + 10) (fun _ => 0)) 40 0 rfl
        rw [show 40 * a + ((0 : Nat) : Int) = 40 * a by omega, wJ_nil (by omega)] at this
        exact this
      | succ q ih =>
        intro i hi
        rw [b_Mo_loseDisk_58, if_neg (by omega), and_t h0, h.e12, w32_id (x := 10 * a) (by omega) (by omega), w32_id (x := 10 * a + (i : Int)) (by omega) (by omega), and_t ⟨a12.2.1, rfl, by omega, by omega, Or.inl rfl⟩, up_a (by decide), w32_id (by omega) (by omega), wJ_up (by omega) (by rfl), Int.add_assoc]
        exact ih (i + 1) (by omega)
    have k1 : ∀ q p : Nat, p + q = 4800 → Rn (d + 2) M_Mo_loseDisk K X 23 [vR (some [2]), vI a, vI (p : Int)] [] (ty, ln, pJ I (ldJ (uJ J (-1) 0 0) a p), R, c, w) = K none (ty, ln, pJ I (lsJ (uJ J (-1) 0 0) a), R, c, w) := by
      intro q
      induction q with
      | zero =>
        intro p hp
        rw [b_Mo_loseDisk_23, if_pos (by omega), show p = 4800 by omega]
        have := k2 (ldJ (uJ J (-1) 0 0) a 4800) 10 0 rfl
        rw [show 10 * a + ((0 : Nat) : Int) = 10 * a by omega, wJ_nil (by omega)] at this
        exact this
      | succ q ih =>
        intro p hp
        obtain ⟨i1, i2, i3⟩ := ldJ_i (a := a) hG' p (by omega)
        have kb := i1.1.k25 p
        have ih' := ih (p + 1) (by omega)
        have e1 : Int.tdiv (p : Int) 480 = (p : Int) / 480 := Int.tdiv_eq_ediv_of_nonneg (by omega)
        rw [b_Mo_loseDisk_23, if_neg (by omega), and_t h0, h.e25, and_t ⟨Or.inl a25.2.1, by omega, by omega⟩, pJ_a (by decide)]
        by_cases q2 : ldJ (uJ J (-1) 0 0) a p 25 p = a
        · rw [show ldJ (uJ J (-1) 0 0) a (p + 1) = loseJ (ldJ (uJ J (-1) 0 0) a p) ((p : Int) / 480) p from if_pos q2] at ih'
          rw [if_neg (fun z => z q2), and_t (by decide), and_t h0, e1, w32_id (x := (p : Int) / 480) (by omega) (by omega), m_lose h (by omega) (by omega) kb.2 i1.1.k10]
          refine b_Mo_loseDisk_50.trans ?_
          rw [w32_id (by omega) (by omega)]
          exact ih'
        · rw [show ldJ (uJ J (-1) 0 0) a (p + 1) = ldJ (uJ J (-1) 0 0) a p from if_neg q2] at ih'
          rw [if_pos q2, b_Mo_loseDisk_50, w32_id (by omega) (by omega)]
          exact ih'
    have k0 := k1 4800 0 rfl
    simp (disch := omega) only [in_Mo_loseDisk, b_Mo_loseDisk_0, b_Mo_loseDisk_6, b_Mo_loseDisk_14, b_Mo_loseDisk_17, m_isHouse h, m_refused h, Option.toList_some, Option.toList_none, List.cons_append, List.nil_append, ↓if_pos, ↓if_neg, ↓and_t, pJ_a, pJ_m, up_a, up_m, Option.some.injEq, exists_eq_left', wr_a, wr_m, true_and, and_true, not_true_eq_false, not_false_eq_true, if_true, if_false, or_true, true_or, uJ_self, uJ_ne, upI_self, upI_ne, w32_id, reduceCtorEq, ne_eq, wJ_ne, wJ_out]
    exact k0
  · rw [if_neg q1]
    exact n_loseDisk h q1
def anyR (J : Int → Int → Int) (a : Int) : Nat → Int
  | 0 => if J 8 a = 0 then 1 else 0
  | i + 1 => if anyR J a i ≠ 0 ∨ isR J (480 * a + i) then 1 else 0
theorem anyR_r {J : Int → Int → Int} {a : Int} : ∀ n : Nat, anyR J a n = 0 ∨ anyR J a n = 1
  | 0 => by
    show (if J 8 a = 0 then (1 : Int) else 0) = 0 ∨ (if J 8 a = 0 then (1 : Int) else 0) = 1
    split
    · exact Or.inr rfl
    · exact Or.inl rfl
  | n + 1 => by
    show (if anyR J a n ≠ 0 ∨ isR J (480 * a + n) then (1 : Int) else 0) = 0 ∨ (if anyR J a n ≠ 0 ∨ isR J (480 * a + n) then (1 : Int) else 0) = 1
    split
    · exact Or.inr rfl
    · exact Or.inl rfl
/-- whether the house is bare behind recover -/
def rcB (J : Int → Int → Int) (a : Int) : Int := if J 7 a ≠ 0 ∧ anyR J a 480 = 0 then 1 else 0
theorem m_recover {d : Nat} {K : Kt} {X : Xt} {J : Int → Int → Int} {ty : Nm → Nat} {ln : Nm → Int} {I : Nm → Int → Int} {R : Nm → Int → Option Nm} {c w : Nat} {a : Int} (h : MOk ty ln R) (hR : MR J) :
    Mth (d + 3) M_Mo_recover [vR (some [2]), vI a] (ty, ln, pJ I J, R, c, w) K X = (if ((0 ≤ a ∧ a ≤ 9) ∧ 0 < J 5 a) then K (some (vI (if rcB J a = 0 then 1 else 0))) (ty, ln, pJ I (uJ (uJ J (-1) 0 0) 7 a (rcB J a)), R, c, w) else K (some (vI (0))) (ty, ln, pJ I (uJ J (-1) 0 1), R, c, w)) := by
  have h0 := h.1
  have a7 := h.a7
  have a8 := h.a8
  by_cases q1 : ((0 ≤ a ∧ a ≤ 9) ∧ 0 < J 5 a)
  · rw [if_pos q1]
    have eR : ∀ p, isR (uJ J (-1) 0 0) p = isR J p := fun p => by unfold isR; rw [uJ_ne (by decide), uJ_ne (by decide), uJ_ne (by decide)]
    have key : ∀ q i : Nat, i + q = 480 → Rn (d + 2) M_Mo_recover K X 43 [vR (some [2]), vI a, vI (anyR J a i), vI (480 * a + (i : Int))] [] (ty, ln, pJ I (uJ J (-1) 0 0), R, c, w) = K (some (vI (if rcB J a = 0 then 1 else 0))) (ty, ln, pJ I (uJ (uJ J (-1) 0 0) 7 a (rcB J a)), R, c, w) := by
      intro q
      induction q with
      | zero =>
        intro i hi
        have an := anyR_r (J := J) (a := a) 480
        rw [b_Mo_recover_43, w32_id (x := 480 * a) (by omega) (by omega), w32_id (x := 480 * a + 480) (by omega) (by omega), if_pos (by omega), and_t h0, and_t h0, h.e7, and_t ⟨a7.2.1, by omega, by omega⟩, pJ_a (by decide), uJ_ne (by decide), show i = 480 by omega]
        have fin : ∀ y : Int, y = 0 ∨ y = 1 → Rn (d + 2) M_Mo_recover K X 103 [vR (some [2]), vI a, vI (anyR J a 480), vI (480 * a + ((480 : Nat) : Int))] [vI y, vI a, vR (some [3, 7])] (ty, ln, pJ I (uJ J (-1) 0 0), R, c, w) = K (some (vI (if y = 0 then 1 else 0))) (ty, ln, pJ I (uJ (uJ J (-1) 0 0) 7 a y), R, c, w) := by
          intro y hy
          rw [b_Mo_recover_103, ex_some, and_t ⟨a7.2.1, rfl, by omega, by omega, hy⟩, and_t h0, h.e7, and_t ⟨a7.2.1, by omega, by omega⟩, up_a (by decide), pJ_a (by decide), uJ_self, upI_self, b_Mo_recover_118, b_Mo_recover_118, and_t (Or.inl rfl), and_t (Or.inr rfl)]
          by_cases z : y = 0
          · rw [if_neg (fun u => u z), if_pos z]
          · rw [if_pos z, if_neg z]
        by_cases c1 : J 7 a = 0
        · rw [if_pos c1, b_Mo_recover_102, a7.1, show rcB J a = 0 from if_neg (fun z => z.1 c1)]
          exact fin 0 (Or.inl rfl)
        · rw [if_neg c1]
          by_cases c2 : anyR J a 480 = 0
          · rw [if_neg (fun z => z c2), a7.1, show rcB J a = 1 from if_pos ⟨c1, c2⟩]
            exact fin 1 (Or.inr rfl)
          · rw [if_pos c2, b_Mo_recover_102, a7.1, show rcB J a = 0 from if_neg (fun z => c2 z.2)]
            exact fin 0 (Or.inl rfl)
      | succ q ih =>
        intro i hi
        have kb := hR.k25 (480 * a + i)
        have ih' := ih (i + 1) (by omega)
        have e9 : 480 * a + (i : Int) + 1 = 480 * a + ((i + 1 : Nat) : Int) := by omega
        rw [b_Mo_recover_43, w32_id (x := 480 * a) (by omega) (by omega), w32_id (x := 480 * a + 480) (by omega) (by omega), if_neg (by omega)]
        by_cases c1 : anyR J a i = 0
        · rw [if_neg (fun z => z c1), and_t h0, m_isReachable h (by omega) (by rw [uJ_ne (by decide)]; exact kb.2)]
          refine b_Mo_recover_65.trans ?_
          by_cases c2 : isR J (480 * a + i)
          · rw [show anyR J a (i + 1) = 1 from if_pos (Or.inr c2)] at ih'
            rw [if_pos ((eR _).mpr c2), if_neg (by decide), b_Mo_recover_68, b_Mo_recover_73, w32_id (by omega) (by omega), e9]
            exact ih'
          · rw [show anyR J a (i + 1) = 0 from if_neg (fun z => z.elim (fun y => y c1) c2)] at ih'
            rw [if_neg (fun z => c2 ((eR _).mp z)), if_pos rfl, b_Mo_recover_73, w32_id (by omega) (by omega), e9]
            exact ih'
        · rw [show anyR J a (i + 1) = 1 from if_pos (Or.inl c1)] at ih'
          rw [if_pos c1, b_Mo_recover_68, b_Mo_recover_73, w32_id (by omega) (by omega), e9]
          exact ih'
    have k0 := key 480 0 rfl
    rw [show 480 * a + ((0 : Nat) : Int) = 480 * a by omega] at k0
    by_cases q2 : J 8 a = 0
    · rw [show anyR J a 0 = 1 from if_pos q2] at k0
      simp (disch := omega) only [in_Mo_recover, b_Mo_recover_0, b_Mo_recover_6, b_Mo_recover_14, b_Mo_recover_17, b_Mo_recover_36, m_isHouse h, m_refused h, ↓h.e8, Option.toList_some, Option.toList_none, List.cons_append, List.nil_append, ↓if_pos, ↓if_neg, ↓and_t, pJ_a, pJ_m, up_a, up_m, Option.some.injEq, exists_eq_left', wr_a, wr_m, true_and, and_true, not_true_eq_false, not_false_eq_true, if_true, if_false, or_true, true_or, uJ_self, uJ_ne, upI_self, upI_ne, w32_id, reduceCtorEq, ne_eq, wJ_ne, wJ_out]
      exact k0
    · rw [show anyR J a 0 = 0 from if_neg q2] at k0
      simp (disch := omega) only [in_Mo_recover, b_Mo_recover_0, b_Mo_recover_6, b_Mo_recover_14, b_Mo_recover_17, b_Mo_recover_36, m_isHouse h, m_refused h, ↓h.e8, Option.toList_some, Option.toList_none, List.cons_append, List.nil_append, ↓if_pos, ↓if_neg, ↓and_t, pJ_a, pJ_m, up_a, up_m, Option.some.injEq, exists_eq_left', wr_a, wr_m, true_and, and_true, not_true_eq_false, not_false_eq_true, if_true, if_false, or_true, true_or, uJ_self, uJ_ne, upI_self, upI_ne, w32_id, reduceCtorEq, ne_eq, wJ_ne, wJ_out]
      exact k0
  · rw [if_neg q1]
    exact n_recover h q1
/-- harm, with q of the n pieces of segment s still to be looked at -/
def hmJ (J : Int → Int → Int) (k o s b x : Int) (n : Nat) : Nat → Int × (Int → Int → Int)
  | 0 => (0, J)
  | q + 1 => if J 25 (12 * s + ((n : Int) - (q + 1))) = k ∧ J 26 (12 * s + ((n : Int) - (q + 1))) ≠ 0 then (1, if x = 0 then loseJ J o (12 * s + ((n : Int) - (q + 1))) else uJ J 27 (30 * (12 * s + ((n : Int) - (q + 1))) + b) (xorZ (J 27 (30 * (12 * s + ((n : Int) - (q + 1))) + b)) x)) else hmJ J k o s b x n q
set_option maxHeartbeats 2000000 in
theorem m_harm {d : Nat} {K : Kt} {X : Xt} {J : Int → Int → Int} {ty : Nm → Nat} {ln : Nm → Int} {I : Nm → Int → Int} {R : Nm → Int → Option Nm} {c w : Nat} {k o s b x : Int} (h : MOk ty ln R) (hG : GI J) :
    Mth (d + 4) M_Mo_harm [vR (some [2]), vI k, vI o, vI s, vI b, vI x] (ty, ln, pJ I J, R, c, w) K X = (if ((0 ≤ k ∧ k ≤ 9) ∧ 0 < J 5 k) ∧ (((0 ≤ o ∧ o ≤ 9) ∧ 0 < J 5 o) ∧ (0 ≤ s ∧ s < J 20 o) ∧ J 21 (40 * o + s) = 0) ∧ (0 ≤ b ∧ b < 60 / J (-1) 2) ∧ 0 ≤ x ∧ x ≤ 255 then K (some (vI ((hmJ (uJ J (-1) 0 0) k o (40 * o + s) b x (J (-1) 3).toNat (J (-1) 3).toNat).1))) (ty, ln, pJ I ((hmJ (uJ J (-1) 0 0) k o (40 * o + s) b x (J (-1) 3).toNat (J (-1) 3).toNat).2), R, c, w) else K (some (vI (0))) (ty, ln, pJ I (uJ J (-1) 0 1), R, c, w)) := by
  have h0 := h.1
  have a25 := h.a25
  have a26 := h.a26
  have a27 := h.a27
  have hN := hG.2.1.2.1
  have hk := hG.2.1.1
  have lr := l_rg hk rfl
  have d1 := hG.1.k20 o
  have hG' : GI (uJ J (-1) 0 0) := hG.u (Or.inl rfl) (Or.inr (Or.inl rfl)) (by decide)
  by_cases q0 : ((0 ≤ k ∧ k ≤ 9) ∧ 0 < J 5 k)
  · by_cases q1 : (((0 ≤ o ∧ o ≤ 9) ∧ 0 < J 5 o) ∧ (0 ≤ s ∧ s < J 20 o) ∧ J 21 (40 * o + s) = 0)
    · by_cases q2 : 0 ≤ b ∧ b < 60 / J (-1) 2
      · by_cases q3 : 0 ≤ x ∧ x ≤ 255
        · obtain ⟨n, hn⟩ : ∃ n, n = (J (-1) 3).toNat := ⟨_, rfl⟩
          have eN : (uJ J (-1) 0 0) (-1) 3 = (n : Int) := by rw [uJ_self, upI_ne _ _ (by decide)]; omega
          have key : ∀ q j : Nat, j + q = n → ∀ u8, isLg u8 = false → Rn (d + 3) M_Mo_harm K X 73 [vR (some [2]), vI k, vI o, vI s, vI b, vI x, vI 1, vI (j : Int), u8] [] (ty, ln, pJ I (uJ J (-1) 0 0), R, c, w) = K (some (vI (hmJ (uJ J (-1) 0 0) k o (40 * o + s) b x n q).1)) (ty, ln, pJ I (hmJ (uJ J (-1) 0 0) k o (40 * o + s) b x n q).2, R, c, w) := by
            intro q
            induction q with
            | zero =>
              intro j hj u8 v8
              rw [b_Mo_harm_73 v8, and_t h0, pJ_m, eN, if_pos (by omega), and_t (Or.inl rfl)]
              rfl
            | succ q ih =>
              intro j hj u8 v8
              have ih' := ih (j + 1) (by omega)
              have ej : (n : Int) - (((q : Nat) : Int) + 1) = (j : Int) := by omega
              have e1 : hmJ (uJ J (-1) 0 0) k o (40 * o + s) b x n (q + 1) = if (uJ J (-1) 0 0) 25 (12 * (40 * o + s) + (j : Int)) = k ∧ (uJ J (-1) 0 0) 26 (12 * (40 * o + s) + (j : Int)) ≠ 0 then (1, if x = 0 then loseJ (uJ J (-1) 0 0) o (12 * (40 * o + s) + (j : Int)) else uJ (uJ J (-1) 0 0) 27 (30 * (12 * (40 * o + s) + (j : Int)) + b) (xorZ ((uJ J (-1) 0 0) 27 (30 * (12 * (40 * o + s) + (j : Int)) + b)) x)) else hmJ (uJ J (-1) 0 0) k o (40 * o + s) b x n q := by
                show (if (uJ J (-1) 0 0) 25 (12 * (40 * o + s) + ((n : Int) - (((q : Nat) : Int) + 1))) = k ∧ _ then _ else _) = _
                rw [ej]
              have kb := hG'.1.k25 (12 * (40 * o + s) + (j : Int))
              have b7 := hG'.1.k27 (30 * (12 * (40 * o + s) + (j : Int)) + b)
              rw [e1, b_Mo_harm_73 v8, and_t h0, pJ_m, eN, if_neg (by omega), and_t h0, h.e25, w32_id (x := 40 * o) (by omega) (by omega), w32_id (x := 40 * o + s) (by omega) (by omega), w32_id (x := 12 * (40 * o + s)) (by omega) (by omega), w32_id (x := 12 * (40 * o + s) + (j : Int)) (by omega) (by omega), and_t ⟨Or.inl a25.2.1, by omega, by omega⟩, pJ_a (by decide)]
              by_cases c1 : (uJ J (-1) 0 0) 25 (12 * (40 * o + s) + (j : Int)) = k
              · rw [if_neg (fun z => z c1), and_t h0, h.e26, and_t ⟨a26.2.1, by omega, by omega⟩, pJ_a (by decide)]
                by_cases c2 : (uJ J (-1) 0 0) 26 (12 * (40 * o + s) + (j : Int)) = 0
                · rw [if_pos c2, if_neg (fun z => z.2 c2), b_Mo_harm_163, w32_id (by omega) (by omega)]
                  exact ih' _ rfl
                · rw [if_neg c2]
                  by_cases c3 : x = 0
                  · rw [if_neg (fun z => z c3), and_t h0, m_lose h (by omega) q1.1.1 kb.2 hG'.1.k10]
                    refine b_Mo_harm_129.trans ?_
                    rw [b_Mo_harm_161, and_t (Or.inr rfl), if_pos ⟨c1, c2⟩, if_pos c3]
                  · rw [if_pos c3, and_t h0, and_t h0, h.e27, w32_id (x := 30 * (12 * (40 * o + s) + (j : Int))) (by omega) (by omega), w32_id (x := 30 * (12 * (40 * o + s) + (j : Int)) + b) (by omega) (by omega), and_t ⟨Or.inl a27.2.1, by omega, by omega⟩, h.e27, and_t ⟨a27.2.1, rfl, by omega, by omega⟩, pJ_a (by decide), up_a (by decide), xor32_z (by omega) (by omega), b_Mo_harm_161, and_t (Or.inr rfl), if_pos ⟨c1, c2⟩, if_neg c3]
              · rw [if_pos c1, if_neg (fun z => c1 z.1), b_Mo_harm_163, w32_id (by omega) (by omega)]
                exact ih' _ rfl
          have k0 := key n 0 (Nat.zero_add _) vJ rfl
          rw [hn] at k0
          simp (disch := omega) only [in_Mo_harm, b_Mo_harm_0, b_Mo_harm_5, b_Mo_harm_14, b_Mo_harm_24, b_Mo_harm_29, b_Mo_harm_41, b_Mo_harm_48, b_Mo_harm_49, b_Mo_harm_62, b_Mo_harm_65, m_isHouse h, m_isSegment h hG.1.k20, m_length h hk, s_Mo_isIn, m_refused h, Option.toList_some, Option.toList_none, List.cons_append, List.nil_append, ↓if_pos, ↓if_neg, ↓and_t, pJ_a, pJ_m, up_a, up_m, Option.some.injEq, exists_eq_left', wr_a, wr_m, true_and, and_true, not_true_eq_false, not_false_eq_true, if_true, if_false, or_true, true_or, uJ_self, uJ_ne, upI_self, upI_ne, w32_id, reduceCtorEq, ne_eq, wJ_ne, wJ_out]
          exact k0
        · simp (disch := omega) only [in_Mo_harm, b_Mo_harm_0, b_Mo_harm_5, b_Mo_harm_14, b_Mo_harm_24, b_Mo_harm_29, b_Mo_harm_41, b_Mo_harm_48, b_Mo_harm_49, b_Mo_harm_62, b_Mo_harm_65, m_isHouse h, m_isSegment h hG.1.k20, m_length h hk, s_Mo_isIn, m_refused h, Option.toList_some, Option.toList_none, List.cons_append, List.nil_append, ↓if_pos, ↓if_neg, ↓and_t, pJ_a, pJ_m, up_a, up_m, Option.some.injEq, exists_eq_left', wr_a, wr_m, true_and, and_true, not_true_eq_false, not_false_eq_true, if_true, if_false, or_true, true_or, uJ_self, uJ_ne, upI_self, upI_ne, w32_id, reduceCtorEq, ne_eq, wJ_ne, wJ_out]
      · simp (disch := omega) only [in_Mo_harm, b_Mo_harm_0, b_Mo_harm_5, b_Mo_harm_14, b_Mo_harm_24, b_Mo_harm_29, b_Mo_harm_41, b_Mo_harm_48, b_Mo_harm_49, b_Mo_harm_62, b_Mo_harm_65, m_isHouse h, m_isSegment h hG.1.k20, m_length h hk, s_Mo_isIn, m_refused h, Option.toList_some, Option.toList_none, List.cons_append, List.nil_append, ↓if_pos, ↓if_neg, ↓and_t, pJ_a, pJ_m, up_a, up_m, Option.some.injEq, exists_eq_left', wr_a, wr_m, true_and, and_true, not_true_eq_false, not_false_eq_true, if_true, if_false, or_true, true_or, uJ_self, uJ_ne, upI_self, upI_ne, w32_id, reduceCtorEq, ne_eq, wJ_ne, wJ_out]
    · simp (disch := omega) only [in_Mo_harm, b_Mo_harm_0, b_Mo_harm_5, b_Mo_harm_14, b_Mo_harm_24, b_Mo_harm_29, b_Mo_harm_41, b_Mo_harm_48, b_Mo_harm_49, b_Mo_harm_62, b_Mo_harm_65, m_isHouse h, m_isSegment h hG.1.k20, m_length h hk, s_Mo_isIn, m_refused h, Option.toList_some, Option.toList_none, List.cons_append, List.nil_append, ↓if_pos, ↓if_neg, ↓and_t, pJ_a, pJ_m, up_a, up_m, Option.some.injEq, exists_eq_left', wr_a, wr_m, true_and, and_true, not_true_eq_false, not_false_eq_true, if_true, if_false, or_true, true_or, uJ_self, uJ_ne, upI_self, upI_ne, w32_id, reduceCtorEq, ne_eq, wJ_ne, wJ_out]
  · simp (disch := omega) only [in_Mo_harm, b_Mo_harm_0, b_Mo_harm_5, b_Mo_harm_14, b_Mo_harm_24, b_Mo_harm_29, b_Mo_harm_41, b_Mo_harm_48, b_Mo_harm_49, b_Mo_harm_62, b_Mo_harm_65, m_isHouse h, m_isSegment h hG.1.k20, m_length h hk, s_Mo_isIn, m_refused h, Option.toList_some, Option.toList_none, List.cons_append, List.nil_append, ↓if_pos, ↓if_neg, ↓and_t, pJ_a, pJ_m, up_a, up_m, Option.some.injEq, exists_eq_left', wr_a, wr_m, true_and, and_true, not_true_eq_false, not_false_eq_true, if_true, if_false, or_true, true_or, uJ_self, uJ_ne, upI_self, upI_ne, w32_id, reduceCtorEq, ne_eq, wJ_ne, wJ_out]
