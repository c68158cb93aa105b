/-! ===== the reference: forget ===== -/
theorem slJ_r {J : Int → Int → Int} {a n : Int} : ∀ k : Nat, slJ J a n k = -1 ∨ (6 * a ≤ slJ J a n k ∧ slJ J a n k < 6 * a + k ∧ J 16 (slJ J a n k) = n)
  | 0 => Or.inl rfl
  | k + 1 => by
    by_cases c : J 16 (6 * a + k) = n
    · rw [show slJ J a n (k + 1) = 6 * a + k from if_pos c]; exact Or.inr ⟨by omega, by omega, c⟩
    · rw [show slJ J a n (k + 1) = slJ J a n k from if_neg c]
      rcases slJ_r (J := J) (a := a) (n := n) k with z | z
      · exact Or.inl z
      · exact Or.inr ⟨z.1, by omega, z.2.2⟩
theorem slotJ_r {J : Int → Int → Int} {a n : Int} : slotJ J a n = -1 ∨ (6 * a ≤ slotJ J a n ∧ slotJ J a n < 6 * a + 6 ∧ J 16 (slotJ J a n) = n ∧ 0 ≤ n) := by
  unfold slotJ
  by_cases q : n < 0
  · rw [if_pos q]; exact Or.inl rfl
  · rw [if_neg q]
    rcases slJ_r (J := J) (a := a) (n := n) 6 with z | z
    · exact Or.inl z
    · exact Or.inr ⟨z.1, z.2.1, z.2.2, by omega⟩
/-- a piece is lost and struck out of the book -/
theorem GI.unb {J : Int → Int → Int} {a p : Int} (h : GI J) (ha : 0 ≤ a ∧ a ≤ 9) (hp : 480 * a ≤ p ∧ p < 480 * a + 480) : GI (uJ (loseJ J a p) 25 p (-1)) := by
  by_cases q : 0 ≤ J 25 p
  · obtain ⟨g1, g2, g3, g4⟩ := loseJ_g h ha hp
    exact g1.unbook ha hp (g4 q)
  · have e : J 25 p = -1 := by have := h.1.k25 p; omega
    rw [show loseJ J a p = J from if_neg (fun z => q z.1), show uJ J 25 p (-1) = J by
      funext k x
      by_cases k1 : k = 25
      · subst k1
        rw [uJ_self]
        by_cases x1 : x = p
        · subst x1; rw [upI_self, e]
        · rw [upI_ne _ _ x1]
      · rw [uJ_ne k1]]
    exact h
def frP (J : Int → Int → Int) (a s : Int) : Nat → Int → Int → Int
  | 0 => uJ (uJ J 21 s 1) 22 s 0
  | q + 1 => uJ (loseJ (frP J a s q) a (12 * s + q)) 25 (12 * s + q) (-1)
theorem loseJ_o {J : Int → Int → Int} {a p k x : Int} (h : k ≠ 26 ∧ k ≠ 10) : loseJ J a p k x = J k x := by
  unfold loseJ
  split
  · rw [uJ_ne h.2, uJ_ne h.1]
  · rfl
theorem frP_i {J : Int → Int → Int} {a s : Int} (h : GI J) (ha : 0 ≤ a ∧ a ≤ 9) (hs : 40 * a ≤ s ∧ s < 40 * a + 40) : ∀ n : Nat, n ≤ 12 → GI (frP J a s n) ∧ frP J a s n (-1) = J (-1) ∧ (∀ k x, k ≠ 21 → k ≠ 22 → k ≠ 26 → k ≠ 25 → k ≠ 10 → frP J a s n k x = J k x) ∧ (∀ x, x ≠ s → frP J a s n 21 x = J 21 x ∧ frP J a s n 22 x = J 22 x)
  | 0, _ => ⟨(h.u (Or.inr ⟨by decide, by decide⟩) (Or.inl (by decide)) (by decide)).u (Or.inr ⟨by decide, by decide⟩) (Or.inl (by decide)) (by decide), by show uJ (uJ J 21 s 1) 22 s 0 (-1) = _; rw [uJ_m (by decide), uJ_m (by decide)], fun k x k1 k2 _ _ _ => by show uJ (uJ J 21 s 1) 22 s 0 k x = _; rw [uJ_ne k2, uJ_ne k1], fun x hx => ⟨by show uJ (uJ J 21 s 1) 22 s 0 21 x = _; rw [uJ_ne (by decide), uJ_self, upI_ne _ _ hx], by show uJ (uJ J 21 s 1) 22 s 0 22 x = _; rw [uJ_self, upI_ne _ _ hx, uJ_ne (by decide)]⟩⟩
  | n + 1, hn => by
    obtain ⟨g1, g2, g3, g4⟩ := frP_i h ha hs n (by omega)
    have e : ∀ k x, k ≠ 25 → k ≠ 26 → k ≠ 10 → frP J a s (n + 1) k x = frP J a s n k x := fun k x k1 k2 k3 => by show uJ (loseJ (frP J a s n) a (12 * s + n)) 25 (12 * s + n) (-1) k x = _; rw [uJ_ne k1, loseJ_o ⟨k2, k3⟩]
    exact ⟨g1.unb ha (by omega), (by show uJ (loseJ (frP J a s n) a (12 * s + n)) 25 (12 * s + n) (-1) (-1) = _; rw [uJ_m (by decide), loseJ_m, g2]), fun k x k1 k2 k3 k4 k5 => (e k x k4 k3 k5).trans (g3 k x k1 k2 k3 k4 k5), fun x hx => ⟨(e 21 x (by decide) (by decide) (by decide)).trans (g4 x hx).1, (e 22 x (by decide) (by decide) (by decide)).trans (g4 x hx).2⟩⟩
def foA (J : Int → Int → Int) (a : Int) : Nat → Int × (Int → Int → Int)
  | 0 => (0, J)
  | q + 1 => if (foA J a q).2 21 (40 * a + q) ≠ 0 ∨ usJ (foA J a q).2 a (40 * a + q) 6 ≠ 0 then foA J a q else ((foA J a q).1 + 1, frP (foA J a q).2 a (40 * a + q) 12)
theorem foA_i {J : Int → Int → Int} {a : Int} (h : GI J) (ha : 0 ≤ a ∧ a ≤ 9) : ∀ n : Nat, n ≤ 40 → GI (foA J a n).2 ∧ (foA J a n).2 (-1) = J (-1) ∧ (∀ k x, k ≠ 21 → k ≠ 22 → k ≠ 26 → k ≠ 25 → k ≠ 10 → (foA J a n).2 k x = J k x) ∧ 0 ≤ (foA J a n).1 ∧ (foA J a n).1 ≤ n
  | 0, _ => ⟨h, rfl, fun _ _ _ _ _ _ _ => rfl, Int.le_refl _, Int.le_refl _⟩
  | n + 1, hn => by
    obtain ⟨g1, g2, g3, g4, g5⟩ := foA_i h ha n (by omega)
    by_cases c : (foA J a n).2 21 (40 * a + n) ≠ 0 ∨ usJ (foA J a n).2 a (40 * a + n) 6 ≠ 0
    · rw [show foA J a (n + 1) = foA J a n from if_pos c]
      exact ⟨g1, g2, g3, g4, by omega⟩
    · rw [show foA J a (n + 1) = ((foA J a n).1 + 1, frP (foA J a n).2 a (40 * a + n) 12) from if_neg c]
      obtain ⟨f1, f2, f3, f4⟩ := frP_i (s := 40 * a + n) g1 ha (by omega) 12 (by decide)
      exact ⟨f1, f2.trans g2, fun k x k1 k2 k3 k4 k5 => (f3 k x k1 k2 k3 k4 k5).trans (g3 k x k1 k2 k3 k4 k5), (by show 0 ≤ (foA J a n).1 + 1; omega), (by show (foA J a n).1 + 1 ≤ _; omega)⟩
set_option maxHeartbeats 1000000 in
theorem m_forget {d : Nat} {K : Kt} {X : Xt} {J : Int → Int → Int} {ty : Nm → Nat} {ln : Nm → Int} {I : Nm → Int → Int} {R : Nm → Int → Option Nm} {c w : Nat} {a n : Int} (h : MOk ty ln R) (hG : GI J) :
    Mth (d + 4) M_Mo_forget [vR (some [2]), vI a, vI n] (ty, ln, pJ I J, R, c, w) K X = (if ((0 ≤ a ∧ a ≤ 9) ∧ 0 < J 5 a) ∧ 0 ≤ slotJ J a n then (if J 7 a = 0 then K (some (vI ((foA (uJ (uJ J (-1) 0 0) 16 (slotJ J a n) (-1)) a (J 20 a).toNat).1))) (ty, ln, pJ I ((foA (uJ (uJ J (-1) 0 0) 16 (slotJ J a n) (-1)) a (J 20 a).toNat).2), R, c, w) else K (some (vI (0))) (ty, ln, pJ I (uJ J (-1) 0 2), R, c, w)) else K (some (vI (0))) (ty, ln, pJ I (uJ J (-1) 0 1), R, c, w)) := by
  have h0 := h.1
  have a7 := h.a7
  have a16 := h.a16
  have a20 := h.a20
  have a21 := h.a21
  have a22 := h.a22
  have a25 := h.a25
  by_cases q1 : ((0 ≤ a ∧ a ≤ 9) ∧ 0 < J 5 a)
  · have sr := slotJ_r (J := J) (a := a) (n := n)
    by_cases q2 : 0 ≤ slotJ J a n
    · rw [if_pos ⟨q1, q2⟩]
      by_cases q3 : J 7 a = 0
      · rw [if_pos q3]
        have d1 := hG.1.k20 a
        obtain ⟨sl, hsl⟩ : ∃ sl, sl = slotJ J a n := ⟨_, rfl⟩
        rw [← hsl] at sr q2 ⊢
        have hG2 : GI (uJ (uJ J (-1) 0 0) 16 sl (-1)) := (hG.u (Or.inl rfl) (Or.inr (Or.inl rfl)) (by decide)).u (Or.inr ⟨by decide, by decide⟩) (Or.inl (by decide)) (by decide)
        have e20 : J 20 a = (uJ (uJ J (-1) 0 0) 16 sl (-1)) 20 a := by rw [uJ_ne (by decide), uJ_ne (by decide)]
        have start : Mth (d + 4) M_Mo_forget [vR (some [2]), vI a, vI n] (ty, ln, pJ I J, R, c, w) K X = Rn (d + 3) M_Mo_forget K X 66 [vR (some [2]), vI a, vI n, vI sl, vI 0, vI (40 * a), vJ] [] (ty, ln, pJ I (uJ (uJ J (-1) 0 0) 16 sl (-1)), R, c, w) := by
          simp (disch := omega) only [in_Mo_forget, b_Mo_forget_0, b_Mo_forget_5, b_Mo_forget_14, b_Mo_forget_18, b_Mo_forget_42, b_Mo_forget_45, m_isHouse h, m_refused h, m_slotOf h, ← hsl, ↓h.e7, ↓h.e16, Option.toList_some, Option.toList_none, List.cons_append, List.nil_append, ↓if_pos, ↓if_neg, ↓and_t, pJ_a, pJ_m, up_a, up_m, Option.some.injEq, exists_eq_left', wr_a, wr_m, true_and, and_true, not_true_eq_false, not_false_eq_true, if_true, if_false, or_true, true_or, uJ_self, uJ_ne, upI_self, upI_ne, w32_id, reduceCtorEq, ne_eq, wJ_ne, wJ_out]
        rw [start]
        rw [e20] at d1 ⊢
        generalize (uJ (uJ J (-1) 0 0) 16 sl (-1)) = J at hG2 d1 ⊢
        have key : ∀ q i : Nat, i + q = (J 20 a).toNat → ∀ u6 : Vl, isLg u6 = false → Rn (d + 3) M_Mo_forget K X 66 [vR (some [2]), vI a, vI n, vI sl, vI (foA J a i).1, vI (40 * a + i), u6] [] (ty, ln, pJ I (foA J a i).2, R, c, w) = K (some (vI (foA J a (J 20 a).toNat).1)) (ty, ln, pJ I (foA J a (J 20 a).toNat).2, R, c, w) := by
          intro q
          induction q with
          | zero =>
            intro i hi u6 v6
            obtain ⟨g1, g2, g3, g4, g5⟩ := foA_i hG2 q1.1 i (by omega)
            have e2 := g3 20 a (by decide) (by decide) (by decide) (by decide) (by decide)
            rw [b_Mo_forget_66 v6, and_t h0, h.e20, and_t ⟨Or.inl a20.2.1, by omega, by omega⟩, pJ_a (by decide), e2, w32_id (x := 40 * a) (by omega) (by omega), w32_id (x := 40 * a + J 20 a) (by omega) (by omega), if_pos (by omega), show i = (J 20 a).toNat by omega]
          | succ q ih =>
            intro i hi u6 v6
            have ih' := ih (i + 1) (by omega)
            obtain ⟨g1, g2, g3, g4, g5⟩ := foA_i hG2 q1.1 i (by omega)
            have e2 := g3 20 a (by decide) (by decide) (by decide) (by decide) (by decide)
            have e9 : 40 * a + (i : Int) + 1 = 40 * a + ((i + 1 : Nat) : Int) := by omega
            rw [b_Mo_forget_66 v6, and_t h0, h.e20, and_t ⟨Or.inl a20.2.1, by omega, by omega⟩, pJ_a (by decide), e2, w32_id (x := 40 * a) (by omega) (by omega), w32_id (x := 40 * a + J 20 a) (by omega) (by omega), if_neg (by omega), and_t h0, h.e21, and_t ⟨a21.2.1, by omega, by omega⟩, pJ_a (by decide)]
            by_cases c1 : (foA J a i).2 21 (40 * a + i) = 0
            · rw [if_neg (fun z => z c1), and_t h0, m_isUsed h g1.1 q1.1]
              show Rn (d + 3) M_Mo_forget K X 99 [vR (some [2]), vI a, vI n, vI sl, vI (foA J a i).1, vI (40 * a + i), u6] [vI (usJ (foA J a i).2 a (40 * a + i) 6)] (ty, ln, pJ I (foA J a i).2, R, c, w) = _
              rw [b_Mo_forget_99 v6]
              by_cases c2 : usJ (foA J a i).2 a (40 * a + i) 6 = 0
              · rw [show foA J a (i + 1) = ((foA J a i).1 + 1, frP (foA J a i).2 a (40 * a + i) 12) from if_neg (fun z => z.elim (fun y => y c1) (fun y => y c2))] at ih'
                rw [if_neg (fun z => z c2), and_t h0, h.e21, and_t ⟨a21.2.1, rfl, by omega, by omega, by decide⟩, and_t h0, h.e22, and_t ⟨a22.2.1, rfl, by omega, by omega, by decide⟩, up_a (by decide), up_a (by decide), w32_id (x := 12 * (40 * a + (i : Int))) (by omega) (by omega)]
                have inner : ∀ p t : Nat, t + p = 12 → Rn (d + 3) M_Mo_forget K X 125 [vR (some [2]), vI a, vI n, vI sl, vI (foA J a i).1, vI (40 * a + i), vI (12 * (40 * a + i) + t)] [] (ty, ln, pJ I (frP (foA J a i).2 a (40 * a + i) t), R, c, w) = K (some (vI (foA J a (J 20 a).toNat).1)) (ty, ln, pJ I (foA J a (J 20 a).toNat).2, R, c, w) := by
                  intro p
                  induction p with
                  | zero =>
                    intro t ht
                    rw [b_Mo_forget_125, w32_id (x := 12 * (40 * a + (i : Int))) (by omega) (by omega), w32_id (x := 12 * (40 * a + (i : Int)) + 12) (by omega) (by omega), if_pos (by omega), w32_id (x := (foA J a i).1 + 1) (by omega) (by omega), b_Mo_forget_162 rfl, w32_id (by omega) (by omega), e9, show t = 12 by omega]
                    exact ih' _ rfl
                  | succ p jh =>
                    intro t ht
                    have jh' := jh (t + 1) (by omega)
                    obtain ⟨f1, f2, f3, f4⟩ := frP_i (s := 40 * a + i) g1 q1.1 (by omega) t (by omega)
                    have f9 : 12 * (40 * a + (i : Int)) + (t : Int) + 1 = 12 * (40 * a + (i : Int)) + ((t + 1 : Nat) : Int) := by omega
                    rw [b_Mo_forget_125, w32_id (x := 12 * (40 * a + (i : Int))) (by omega) (by omega), w32_id (x := 12 * (40 * a + (i : Int)) + 12) (by omega) (by omega), if_neg (by omega), and_t h0, m_lose h (by omega) q1.1 (f1.1.k25 _).2 (fun j => f1.1.k10 j)]
                    show Rn (d + 3) M_Mo_forget K X 145 [vR (some [2]), vI a, vI n, vI sl, vI (foA J a i).1, vI (40 * a + i), vI (12 * (40 * a + i) + t)] [] (ty, ln, pJ I (loseJ (frP (foA J a i).2 a (40 * a + i) t) a (12 * (40 * a + i) + t)), R, c, w) = _
                    rw [b_Mo_forget_145, and_t h0, h.e25, and_t ⟨a25.2.1, rfl, by omega, by omega⟩, up_a (by decide), w32_id (by omega) (by omega), f9]
                    exact jh'
                have z := inner 12 0 rfl
                rw [show 12 * (40 * a + (i : Int)) + ((0 : Nat) : Int) = 12 * (40 * a + i) by omega] at z
                exact z
              · rw [show foA J a (i + 1) = foA J a i from if_pos (Or.inr c2)] at ih'
                rw [if_pos c2, b_Mo_forget_162 v6, w32_id (by omega) (by omega), e9]
                exact ih' _ v6
            · rw [show foA J a (i + 1) = foA J a i from if_pos (Or.inl c1)] at ih'
              rw [if_pos c1, b_Mo_forget_162 v6, w32_id (by omega) (by omega), e9]
              exact ih' _ v6
        have z := key (J 20 a).toNat 0 (by omega) vJ rfl
        rw [show 40 * a + ((0 : Nat) : Int) = 40 * a by omega] at z
        exact z
      · rw [if_neg q3]
        simp (disch := omega) only [in_Mo_forget, b_Mo_forget_0, b_Mo_forget_5, b_Mo_forget_14, b_Mo_forget_18, b_Mo_forget_42, b_Mo_forget_45, m_isHouse h, m_refused h, m_slotOf h, ↓h.e7, Option.toList_some, Option.toList_none, List.cons_append, List.nil_append, ↓if_pos, ↓if_neg, ↓and_t, pJ_a, pJ_m, up_a, up_m, Option.some.injEq, exists_eq_left', wr_a, wr_m, true_and, and_true, not_true_eq_false, not_false_eq_true, if_true, if_false, or_true, true_or, uJ_self, uJ_ne, upI_self, upI_ne, w32_id, reduceCtorEq, ne_eq, wJ_ne, wJ_out]
    · rw [if_neg (fun z => q2 z.2)]
      simp (disch := omega) only [in_Mo_forget, b_Mo_forget_0, b_Mo_forget_5, b_Mo_forget_14, b_Mo_forget_18, b_Mo_forget_42, b_Mo_forget_45, m_isHouse h, m_refused h, m_slotOf h, ↓h.e7, Option.toList_some, Option.toList_none, List.cons_append, List.nil_append, ↓if_pos, ↓if_neg, ↓and_t, pJ_a, pJ_m, up_a, up_m, Option.some.injEq, exists_eq_left', wr_a, wr_m, true_and, and_true, not_true_eq_false, not_false_eq_true, if_true, if_false, or_true, true_or, uJ_self, uJ_ne, upI_self, upI_ne, w32_id, reduceCtorEq, ne_eq, wJ_ne, wJ_out]
  · rw [if_neg (fun z => q1 z.1)]
    exact n_forget h q1
