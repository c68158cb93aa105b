/-! ===== the class on the relation: files ===== -/
theorem LK.nf {J J' : Int → Int → Int} {n : Nm} {x k y : Int} (e1 : ∀ x, J' 5 x = J 5 x) (e4 : ∀ x, J' 20 x = J 20 x) (e6 : J' (-1) 2 = J (-1) 2) (e7 : J' (-1) 3 = J (-1) 3) (h : LK J' n x k y) (hk : k ≠ 14) : LK J n x k y := by
  unfold LK hsJ sgJ piJ at h ⊢
  simp only [e1, e4, e6, e7] at h
  rcases h with h | h | ⟨a, t, h1, h2, h3, h4, h5, h6⟩ | h | h | h | h | h
  · exact Or.inl h
  · exact Or.inr (Or.inl h)
  · exact absurd h5 hk
  · exact Or.inr (Or.inr (Or.inr (Or.inl h)))
  · exact Or.inr (Or.inr (Or.inr (Or.inr (Or.inl h))))
  · exact Or.inr (Or.inr (Or.inr (Or.inr (Or.inr (Or.inl h)))))
  · exact Or.inr (Or.inr (Or.inr (Or.inr (Or.inr (Or.inr (Or.inl h))))))
  · exact Or.inr (Or.inr (Or.inr (Or.inr (Or.inr (Or.inr (Or.inr h))))))
/-- the file t of house a changes -/
theorem RC.fil {J J' : Int → Int → Int} {E : Nm → Int → Int} {ty : Nm → Nat} {ln : Nm → Int} {I I' : Nm → Int → Int} {R : Nm → Int → Option Nm} {a t : Int} (h : RC J E ty ln I R) (ha : 0 ≤ a ∧ a ≤ 9) (ht : 0 ≤ t ∧ t ≤ 9)
    (j : ∀ k x, k ≠ 12 → k ≠ 13 → k ≠ 14 → J' k x = J k x)
    (j2 : ∀ x, x ≠ 10 * a + t → J' 12 x = J 12 x ∧ J' 13 x = J 13 x)
    (j3 : ∀ x, ¬ (200 * (10 * a + t) ≤ x ∧ x < 200 * (10 * a + t) + 200) → J' 14 x = J 14 x)
    (i : ∀ n x, n ≠ [4, a, 5, t] → ¬ (n = [4, a, 6] ∧ x = t) → I' n x = I n x)
    (i2 : I' [4, a, 6] t = if J' 12 (10 * a + t) = 0 then -1 else J' 13 (10 * a + t))
    (i3 : ∀ x, 0 ≤ x → x < 200 → x < J' 13 (10 * a + t) → J' 12 (10 * a + t) ≠ 0 → I' [4, a, 5, t] x = J' 14 (200 * (10 * a + t) + x)) : RC J' E ty ln I' R := by
  have j5 : ∀ x, J' 5 x = J 5 x := fun x => j 5 x (by decide) (by decide) (by decide)
  have j20 : ∀ x, J' 20 x = J 20 x := fun x => j 20 x (by decide) (by decide) (by decide)
  have jm : ∀ x, J' (-1) x = J (-1) x := fun x => j (-1) x (by decide) (by decide) (by decide)
  have i0 : ∀ n x, (∀ l, n ≠ 4 :: l) → I' n x = I n x := fun n x hn => i n x (fun e => hn _ e) (fun e => hn _ e.1)
  refine ⟨h.g.cg (fun n hn _ _ _ x _ => i0 n x (fun l e => by rw [e] at hn; revert hn; show ¬ ((4 : Int) = 1 ∨ (4 : Int) = 17); decide)) (fun x _ _ => jm x) j5 (fun x => j 36 x (by decide) (by decide) (by decide)), ?_, ?_, ?_, ?_, ?_, ?_, ?_, ?_⟩
  · intro b hb; rw [hsJ, j5] at hb; exact h.hs b hb
  · intro b hb; rw [hsJ, j5] at hb; rw [i _ _ (by simp) (by simp)]; exact h.nm b hb
  · intro b hb; rw [hsJ, j5] at hb; rw [i _ _ (by simp) (by simp), j20]; exact h.sn b hb
  · intro b s hb; rw [sgJ, j5, j20] at hb; exact h.sr b s hb
  · intro b s hb; rw [sgJ, j5, j20] at hb; rw [jm, jm]; exact h.sg b s hb
  · intro n x k y hl
    by_cases hk : k = 14
    · subst hk
      unfold LK at hl
      rcases hl with ⟨a', h1, rfl, h3, h4⟩ | ⟨a', b', h1, rfl, h3, h4, h5, h6⟩ | ⟨a', t', h1, rfl, h3, h4, h5, h6⟩ | ⟨a', s', h1, rfl, h3, h4⟩ | ⟨a', s', b', h1, rfl, h3, h4, h5, h6⟩ | ⟨a', s', j', h1, rfl, h3, h4⟩ | ⟨a', s', j', h1, rfl, h3, h4, h5⟩ | ⟨a', s', j', h1, rfl, h3, h4, h5⟩
      · omega
      · omega
      · by_cases q : a' = a ∧ t' = t
        · obtain ⟨rfl, rfl⟩ := q
          rw [h6]
          exact i3 x h4.1 h4.2.1 h4.2.2.1 h4.2.2.2
        · have nq : 10 * a' + t' ≠ 10 * a + t := fun e => q ⟨by omega, by omega⟩
          rw [(j2 _ nq).1, (j2 _ nq).2] at h4
          rw [hsJ, j5] at h1
          rw [i _ _ (fun e => q (by simp only [List.cons.injEq, true_and, and_true] at e; exact e)) (by simp), h6, j3 _ (by omega)]
          exact h.ri _ _ _ _ (l14 ⟨h1, h3, h4⟩)
      · omega
      · omega
      · omega
      · omega
      · omega
    · have hl' := hl.nf (J := J) j5 j20 (jm 2) (jm 3) hk
      have hk2 : k ≠ 12 ∧ k ≠ 13 ∧ n ≠ [4, a, 5, t] := by
        refine ⟨?_, ?_, ?_⟩
        · unfold LK at hl'
          rcases hl' with ⟨a', h1, rfl, h3, h4⟩ | ⟨a', b', h1, rfl, h3, h4, h5, h6⟩ | ⟨a', t', h1, rfl, h3, h4, h5, h6⟩ | ⟨a', s', h1, rfl, h3, h4⟩ | ⟨a', s', b', h1, rfl, h3, h4, h5, h6⟩ | ⟨a', s', j', h1, rfl, h3, h4⟩ | ⟨a', s', j', h1, rfl, h3, h4, h5⟩ | ⟨a', s', j', h1, rfl, h3, h4, h5⟩ <;> omega
        · unfold LK at hl'
          rcases hl' with ⟨a', h1, rfl, h3, h4⟩ | ⟨a', b', h1, rfl, h3, h4, h5, h6⟩ | ⟨a', t', h1, rfl, h3, h4, h5, h6⟩ | ⟨a', s', h1, rfl, h3, h4⟩ | ⟨a', s', b', h1, rfl, h3, h4, h5, h6⟩ | ⟨a', s', j', h1, rfl, h3, h4⟩ | ⟨a', s', j', h1, rfl, h3, h4, h5⟩ | ⟨a', s', j', h1, rfl, h3, h4, h5⟩ <;> omega
        · intro e
          unfold LK at hl'
          rcases hl' with ⟨a', h1, rfl, h3, h4⟩ | ⟨a', b', h1, rfl, h3, h4, h5, h6⟩ | ⟨a', t', h1, rfl, h3, h4, h5, h6⟩ | ⟨a', s', h1, rfl, h3, h4⟩ | ⟨a', s', b', h1, rfl, h3, h4, h5, h6⟩ | ⟨a', s', j', h1, rfl, h3, h4⟩ | ⟨a', s', j', h1, rfl, h3, h4, h5⟩ | ⟨a', s', j', h1, rfl, h3, h4, h5⟩ <;> simp only [List.cons.injEq, true_and, and_true, reduceCtorEq, and_false, false_and] at e <;> omega
      rw [i _ _ hk2.2.2 (fun e => hl'.n6.1 _ e.1), j k y hk2.1 hk2.2.1 hk]
      exact h.ri _ _ _ _ hl'
  · intro b t' hb t0 t1
    rw [hsJ, j5] at hb
    by_cases q : b = a ∧ t' = t
    · obtain ⟨rfl, rfl⟩ := q
      exact i2
    · have nq : 10 * b + t' ≠ 10 * a + t := fun e => q ⟨by omega, by omega⟩
      rw [(j2 _ nq).1, (j2 _ nq).2, i _ _ (by simp) (fun e => q (by have := e.1; simp only [List.cons.injEq, true_and, and_true] at this; exact ⟨this, e.2⟩))]
      exact h.rf b t' hb t0 t1
  · intro n x hn
    rw [← h.ev n x hn]
    refine i n x (fun e => ?_) (fun e => ?_)
    · rw [e] at hn
      rcases hn with g | ⟨a', k', l', g, g'⟩ | ⟨a', g⟩ | ⟨a', g, g'⟩ | ⟨a', s', g, g'⟩
      · revert g; show ¬ ((4 : Int) = 2 ∨ (4 : Int) = 3 ∨ (4 : Int) = -3 ∨ (4 : Int) = 18 ∨ (4 : Int) = 12); decide
      all_goals (simp only [List.cons.injEq, true_and, and_true, reduceCtorEq, and_false, false_and] at g <;> omega)
    · rw [e.1] at hn
      rcases hn with g | ⟨a', k', l', g, g'⟩ | ⟨a', g⟩ | ⟨a', g, g'⟩ | ⟨a', s', g, g'⟩
      · revert g; show ¬ ((4 : Int) = 2 ∨ (4 : Int) = 3 ∨ (4 : Int) = -3 ∨ (4 : Int) = 18 ∨ (4 : Int) = 12); decide
      all_goals (simp only [List.cons.injEq, true_and, and_true, reduceCtorEq, and_false, false_and] at g <;> omega)
set_option maxHeartbeats 2000000 in
theorem z_file {d : Nat} {K : Kt} {X : Xt} {J : Int → Int → Int} {E : Nm → Int → Int} {ty : Nm → Nat} {ln : Nm → Int} {I : Nm → Int → Int} {R : Nm → Int → Option Nm} {c w : Nat} {a t x : Int} (h : RC J E ty ln I R) (hG : GI J) (hV : VI J) (ha : hsJ J a) (hx : x = 0 ∨ x = 1) (k0 : (0 ≤ t ∧ t ≤ 9) → J 7 a = 0 → ∀ I', RC (uJ (uJ J 12 (10 * a + t) x) 13 (10 * a + t) 0) E ty ln I' R → K (some (vI (J 12 (10 * a + t)))) (ty, ln, I', R, c, w)) (k1 : ¬ (0 ≤ t ∧ t ≤ 9) → (1 ≤ c ∧ 6 ≤ w) ∧ X 1 (ty, ln, I, R, c - 1, w - 6)) (k2 : (0 ≤ t ∧ t ≤ 9) → ¬ (J 7 a = 0) → (1 ≤ c ∧ 6 ≤ w) ∧ X 2 (ty, ln, I, R, c - 1, w - 6)) :
    Mth (d + 7) M_FB_file [vR (some [1]), vI a, vI t, vI x] (ty, ln, I, R, c, w) K X := by
  obtain ⟨f1, fr0, fr1, fr2, fr3, fr4, fr5, ⟨ft0, fl0⟩, ⟨ft3, fl3⟩, ⟨ft4, fl4⟩, ⟨ft5, fl5⟩, ft16, fr160, fr161, ⟨ft160, fl160⟩, ⟨ft161, fl161⟩⟩ := id h.g.1
  obtain ⟨t0, ⟨r2, t2, ll2⟩, ⟨r3, t3, ll3⟩, ⟨r4, t4, ll4⟩, ⟨r5, t5, ll5⟩, rw5, ⟨r6, t6, ll6⟩, ⟨r7, t7⟩, ⟨r8, t8⟩, ⟨r9, t9⟩⟩ := h.hs a ha
  have i12 := h.ri _ _ _ _ (l7 ha)
  by_cases q1 : 0 ≤ t ∧ t ≤ 9
  · have i6 := h.rf a t ha q1.1 q1.2
    have b12 := hG.1.k12 (10 * a + t)
    have b13 := hG.1.k13 (10 * a + t)
    by_cases q2 : J 7 a = 0
    · have go : ∀ v : Int, v = (if x = 0 then -1 else 0) → RC (uJ (uJ J 12 (10 * a + t) x) 13 (10 * a + t) 0) E ty ln (up2 I [4, a, 6] t v) R := by
        intro v hv
        have e12 : ∀ y, uJ (uJ J 12 (10 * a + t) x) 13 (10 * a + t) 0 12 y = upI (J 12) (10 * a + t) x y := fun y => by rw [uJ_ne (by decide), uJ_self]
        have e13 : ∀ y, uJ (uJ J 12 (10 * a + t) x) 13 (10 * a + t) 0 13 y = upI (J 13) (10 * a + t) 0 y := fun y => by rw [uJ_self, uJ_ne (by decide)]
        refine h.fil ha.1 q1 (fun k y k1 k2 _ => by rw [uJ_ne k2, uJ_ne k1]) (fun y hy => by rw [e12, e13, upI_ne _ _ hy, upI_ne _ _ hy]; exact ⟨rfl, rfl⟩) (fun y _ => by rw [uJ_ne (by decide), uJ_ne (by decide)]) (fun n y n1 n2 => ?_) ?_ (fun y y0 y1 y2 _ => ?_)
        · by_cases z : n = [4, a, 6]
          · subst z; rw [up2_self, upI_ne _ _ (fun e => n2 ⟨rfl, e⟩)]
          · rw [up2_ne z]
        · rw [up2_self, upI_self, e12, e13, upI_self, upI_self]; exact hv
        · rw [e13, upI_self] at y2; omega
      by_cases q3 : x = 0
      · have z := k0 q1 q2 _ (go (-1) (by rw [if_pos q3]))
        by_cases q4 : J 12 (10 * a + t) = 0
        · rw [if_pos q4] at i6
          rw [q4] at z
          simp (disch := first | omega | assumption | rfl) only [in_FB_file, b_FB_file_0, b_FB_file_5, b_FB_file_11, b_FB_file_14, b_FB_file_27, b_FB_file_30, b_FB_file_36, b_FB_file_53, x_houseOf_yes h.g ha, s_FB_isTag, x_rA, x_rA1, x_rS, x_rS1, i12, i6, r6, s_House_hasFile t0 r6 t6, Option.toList_some, Option.toList_none, List.cons_append, List.nil_append, ↓if_pos, ↓if_neg, ↓and_t, ↓ck, ↓ex_some, true_and, and_true, not_true_eq_false, not_false_eq_true, if_true, if_false, or_true, true_or, w32_id, reduceCtorEq, ne_eq, wr_4]
          exact z
        · have q5 : J 12 (10 * a + t) = 1 := by omega
          have q6 : ¬ J 13 (10 * a + t) = -1 := by omega
          rw [if_neg q4] at i6
          rw [q5] at z
          simp (disch := first | omega | assumption | rfl) only [in_FB_file, b_FB_file_0, b_FB_file_5, b_FB_file_11, b_FB_file_14, b_FB_file_27, b_FB_file_30, b_FB_file_36, b_FB_file_53, x_houseOf_yes h.g ha, s_FB_isTag, x_rA, x_rA1, x_rS, x_rS1, i12, i6, r6, s_House_hasFile t0 r6 t6, Option.toList_some, Option.toList_none, List.cons_append, List.nil_append, ↓if_pos, ↓if_neg, ↓and_t, ↓ck, ↓ex_some, true_and, and_true, not_true_eq_false, not_false_eq_true, if_true, if_false, or_true, true_or, w32_id, reduceCtorEq, ne_eq, wr_4]
          exact z
      · have z := k0 q1 q2 _ (go 0 (by rw [if_neg q3]))
        by_cases q4 : J 12 (10 * a + t) = 0
        · rw [if_pos q4] at i6
          rw [q4] at z
          simp (disch := first | omega | assumption | rfl) only [in_FB_file, b_FB_file_0, b_FB_file_5, b_FB_file_11, b_FB_file_14, b_FB_file_27, b_FB_file_30, b_FB_file_36, b_FB_file_53, x_houseOf_yes h.g ha, s_FB_isTag, x_rA, x_rA1, x_rS, x_rS1, i12, i6, r6, s_House_hasFile t0 r6 t6, Option.toList_some, Option.toList_none, List.cons_append, List.nil_append, ↓if_pos, ↓if_neg, ↓and_t, ↓ck, ↓ex_some, true_and, and_true, not_true_eq_false, not_false_eq_true, if_true, if_false, or_true, true_or, w32_id, reduceCtorEq, ne_eq, wr_4]
          exact z
        · have q5 : J 12 (10 * a + t) = 1 := by omega
          have q6 : ¬ J 13 (10 * a + t) = -1 := by omega
          rw [if_neg q4] at i6
          rw [q5] at z
          simp (disch := first | omega | assumption | rfl) only [in_FB_file, b_FB_file_0, b_FB_file_5, b_FB_file_11, b_FB_file_14, b_FB_file_27, b_FB_file_30, b_FB_file_36, b_FB_file_53, x_houseOf_yes h.g ha, s_FB_isTag, x_rA, x_rA1, x_rS, x_rS1, i12, i6, r6, s_House_hasFile t0 r6 t6, Option.toList_some, Option.toList_none, List.cons_append, List.nil_append, ↓if_pos, ↓if_neg, ↓and_t, ↓ck, ↓ex_some, true_and, and_true, not_true_eq_false, not_false_eq_true, if_true, if_false, or_true, true_or, w32_id, reduceCtorEq, ne_eq, wr_4]
          exact z
    · have z := k2 q1 q2
      simp (disch := first | omega | assumption | rfl) only [in_FB_file, b_FB_file_0, b_FB_file_5, b_FB_file_11, b_FB_file_14, b_FB_file_27, b_FB_file_30, b_FB_file_36, b_FB_file_53, x_houseOf_yes h.g ha, s_FB_isTag, x_rA, x_rA1, x_rS, x_rS1, i12, i6, r6, s_House_hasFile t0 r6 t6, Option.toList_some, Option.toList_none, List.cons_append, List.nil_append, ↓if_pos, ↓if_neg, ↓and_t, ↓ck, ↓ex_some, true_and, and_true, not_true_eq_false, not_false_eq_true, if_true, if_false, or_true, true_or, w32_id, reduceCtorEq, ne_eq, wr_4]
      first | exact z | exact z.2
  · have z := k1 q1
    simp (disch := first | omega | assumption | rfl) only [in_FB_file, b_FB_file_0, b_FB_file_5, b_FB_file_11, b_FB_file_14, b_FB_file_27, b_FB_file_30, b_FB_file_36, b_FB_file_53, x_houseOf_yes h.g ha, s_FB_isTag, x_rA, x_rA1, x_rS, x_rS1, Option.toList_some, Option.toList_none, List.cons_append, List.nil_append, ↓if_pos, ↓if_neg, ↓and_t, ↓ck, ↓ex_some, true_and, and_true, not_true_eq_false, not_false_eq_true, if_true, if_false, or_true, true_or, w32_id, reduceCtorEq, ne_eq, wr_4]
    first | exact z | exact z.2
set_option maxHeartbeats 2000000 in
theorem z_write {d : Nat} {K : Kt} {X : Xt} {J : Int → Int → Int} {E : Nm → Int → Int} {ty : Nm → Nat} {ln : Nm → Int} {I : Nm → Int → Int} {R : Nm → Int → Option Nm} {c w : Nat} {a t b : Int} (h : RC J E ty ln I R) (hG : GI J) (hV : VI J) (ha : hsJ J a) (kn : ((0 ≤ t ∧ t ≤ 9) ∧ 0 ≤ b ∧ b ≤ 255) → J 7 a = 0 → J 12 (10 * a + t) = 0 → ∀ I', RC (uJ (uJ (uJ (uJ J 12 (10 * a + t) 1) 13 (10 * a + t) 0) 14 (200 * (10 * a + t)) b) 13 (10 * a + t) 1) E ty ln I' R → K (some (vI 1)) (ty, ln, I', R, c, w)) (k0 : ((0 ≤ t ∧ t ≤ 9) ∧ 0 ≤ b ∧ b ≤ 255) → J 7 a = 0 → J 12 (10 * a + t) ≠ 0 → J 13 (10 * a + t) ≠ 200 → ∀ I', RC (uJ (uJ J 14 (200 * (10 * a + t) + J 13 (10 * a + t)) b) 13 (10 * a + t) (J 13 (10 * a + t) + 1)) E ty ln I' R → K (some (vI (J 13 (10 * a + t) + 1))) (ty, ln, I', R, c, w)) (k1 : ¬ (((0 ≤ t ∧ t ≤ 9) ∧ 0 ≤ b ∧ b ≤ 255)) → (1 ≤ c ∧ 6 ≤ w) ∧ X 1 (ty, ln, I, R, c - 1, w - 6)) (k2 : ((0 ≤ t ∧ t ≤ 9) ∧ 0 ≤ b ∧ b ≤ 255) → (J 7 a ≠ 0 ∨ (J 12 (10 * a + t) ≠ 0 ∧ J 13 (10 * a + t) = 200)) → (1 ≤ c ∧ 6 ≤ w) ∧ X 2 (ty, ln, I, R, c - 1, w - 6)) :
    Mth (d + 7) M_FB_write [vR (some [1]), vI a, vI t, vI b] (ty, ln, I, R, c, w) K X := by
  obtain ⟨f1, fr0, fr1, fr2, fr3, fr4, fr5, ⟨ft0, fl0⟩, ⟨ft3, fl3⟩, ⟨ft4, fl4⟩, ⟨ft5, fl5⟩, ft16, fr160, fr161, ⟨ft160, fl160⟩, ⟨ft161, fl161⟩⟩ := id h.g.1
  obtain ⟨t0, ⟨r2, t2, ll2⟩, ⟨r3, t3, ll3⟩, ⟨r4, t4, ll4⟩, ⟨r5, t5, ll5⟩, rw5, ⟨r6, t6, ll6⟩, ⟨r7, t7⟩, ⟨r8, t8⟩, ⟨r9, t9⟩⟩ := h.hs a ha
  have i12 := h.ri _ _ _ _ (l7 ha)
  by_cases q1 : 0 ≤ t ∧ t ≤ 9
  · obtain ⟨rr, tr, lr⟩ := rw5 t q1.1 (by omega)
    have i6 := h.rf a t ha q1.1 q1.2
    have b12 := hG.1.k12 (10 * a + t)
    have b13 := hG.1.k13 (10 * a + t)
    by_cases q2 : 0 ≤ b ∧ b ≤ 255
    · by_cases q3 : J 7 a = 0
      · by_cases q4 : J 12 (10 * a + t) = 0
        · rw [if_pos q4] at i6
          have z := kn ⟨q1, q2⟩ q3 q4 (up2 (up2 I [4, a, 5, t] 0 b) [4, a, 6] t 1) (by
            have e12 : ∀ y, (uJ (uJ (uJ (uJ J 12 (10 * a + t) 1) 13 (10 * a + t) 0) 14 (200 * (10 * a + t)) b) 13 (10 * a + t) 1) 12 y = upI (J 12) (10 * a + t) 1 y := fun y => by rw [uJ_ne (by decide), uJ_ne (by decide), uJ_ne (by decide), uJ_self]
            have e13 : ∀ y, y ≠ (10 * a + t) → (uJ (uJ (uJ (uJ J 12 (10 * a + t) 1) 13 (10 * a + t) 0) 14 (200 * (10 * a + t)) b) 13 (10 * a + t) 1) 13 y = J 13 y := fun y hy => by rw [uJ_self, upI_ne _ _ hy, uJ_ne (by decide), uJ_self, upI_ne _ _ hy, uJ_ne (by decide)]
            have e14 : ∀ y, (uJ (uJ (uJ (uJ J 12 (10 * a + t) 1) 13 (10 * a + t) 0) 14 (200 * (10 * a + t)) b) 13 (10 * a + t) 1) 14 y = upI (J 14) (200 * (10 * a + t)) b y := fun y => by
              rw [uJ_ne (by decide), uJ_self]
              by_cases q : y = 200 * (10 * a + t)
              · rw [q, upI_self, upI_self]
              · rw [upI_ne _ _ q, upI_ne _ _ q, uJ_ne (by decide), uJ_ne (by decide)]
            refine h.fil ha.1 q1 (fun k y k1 k2 k3 => by rw [uJ_ne k2, uJ_ne k3, uJ_ne k2, uJ_ne k1]) (fun y hy => by rw [e12, e13 _ hy, upI_ne _ _ hy]; exact ⟨rfl, rfl⟩) (fun y hy => by rw [e14, upI_ne _ _ (by omega)]) (fun n y n1 n2 => ?_) ?_ (fun y y0 y1 y2 _ => ?_)
            · by_cases z : n = [4, a, 6]
              · subst z; rw [up2_self, upI_ne _ _ (fun e => n2 ⟨rfl, e⟩), up2_ne (by simp)]
              · rw [up2_ne z, up2_ne n1]
            · rw [up2_self, upI_self, e12, upI_self, uJ_self, upI_self, if_neg (by decide)]
            · rw [uJ_self, upI_self] at y2
              have : y = 0 := by omega
              subst this
              rw [up2_ne (by simp), up2_self, upI_self, e14, Int.add_zero, upI_self])
          simp (disch := first | omega | assumption | rfl) only [in_FB_write, b_FB_write_0, b_FB_write_5, b_FB_write_11, b_FB_write_22, b_FB_write_29, b_FB_write_30, b_FB_write_33, b_FB_write_58, b_FB_write_59, b_FB_write_62, x_houseOf_yes h.g ha, s_FB_isTag, s_FB_isWithin, x_rA, x_rA1, x_rS, x_rS1, i12, i6, r6, r5, rr, Option.toList_some, Option.toList_none, List.cons_append, List.nil_append, ↓if_pos, ↓if_neg, ↓and_t, ↓ck, ↓ex_some, true_and, and_true, not_true_eq_false, not_false_eq_true, if_true, if_false, or_true, true_or, w32_id, reduceCtorEq, ne_eq, wr_4]
          exact z
        · rw [if_neg q4] at i6
          by_cases q5 : J 13 (10 * a + t) = 200
          · have z := k2 ⟨q1, q2⟩ (Or.inr ⟨q4, q5⟩)
            simp (disch := first | omega | assumption | rfl) only [in_FB_write, b_FB_write_0, b_FB_write_5, b_FB_write_11, b_FB_write_22, b_FB_write_29, b_FB_write_30, b_FB_write_33, b_FB_write_58, b_FB_write_59, b_FB_write_62, x_houseOf_yes h.g ha, s_FB_isTag, s_FB_isWithin, x_rA, x_rA1, x_rS, x_rS1, i12, i6, r6, r5, rr, Option.toList_some, Option.toList_none, List.cons_append, List.nil_append, ↓if_pos, ↓if_neg, ↓and_t, ↓ck, ↓ex_some, true_and, and_true, not_true_eq_false, not_false_eq_true, if_true, if_false, or_true, true_or, w32_id, reduceCtorEq, ne_eq, wr_4]
            first | exact z | exact z.2
          · have z := k0 ⟨q1, q2⟩ q3 q4 q5 (up2 (up2 I [4, a, 5, t] (J 13 (10 * a + t)) b) [4, a, 6] t (J 13 (10 * a + t) + 1)) (by
              have e12 : ∀ y, (uJ (uJ J 14 (200 * (10 * a + t) + J 13 (10 * a + t)) b) 13 (10 * a + t) (J 13 (10 * a + t) + 1)) 12 y = J 12 y := fun y => by rw [uJ_ne (by decide), uJ_ne (by decide)]
              have e13 : ∀ y, (uJ (uJ J 14 (200 * (10 * a + t) + J 13 (10 * a + t)) b) 13 (10 * a + t) (J 13 (10 * a + t) + 1)) 13 y = upI (J 13) (10 * a + t) (J 13 (10 * a + t) + 1) y := fun y => by
                rw [uJ_self]
                by_cases q : y = (10 * a + t)
                · rw [q, upI_self, upI_self]
                · rw [upI_ne _ _ q, upI_ne _ _ q, uJ_ne (by decide)]
              have e14 : ∀ y, (uJ (uJ J 14 (200 * (10 * a + t) + J 13 (10 * a + t)) b) 13 (10 * a + t) (J 13 (10 * a + t) + 1)) 14 y = upI (J 14) (200 * (10 * a + t) + J 13 (10 * a + t)) b y := fun y => by rw [uJ_ne (by decide), uJ_self]
              refine h.fil ha.1 q1 (fun k y k1 k2 k3 => by rw [uJ_ne k2, uJ_ne k3]) (fun y hy => by rw [e12, e13, upI_ne _ _ hy]; exact ⟨rfl, rfl⟩) (fun y hy => by rw [e14, upI_ne _ _ (by omega)]) (fun n y n1 n2 => ?_) ?_ (fun y y0 y1 y2 _ => ?_)
              · by_cases z : n = [4, a, 6]
                · subst z; rw [up2_self, upI_ne _ _ (fun e => n2 ⟨rfl, e⟩), up2_ne (by simp)]
                · rw [up2_ne z, up2_ne n1]
              · rw [up2_self, upI_self, e12, e13, upI_self, if_neg q4]
              · rw [e13, upI_self] at y2
                rw [up2_ne (by simp), up2_self, e14]
                by_cases q : y = J 13 (10 * a + t)
                · subst q; rw [upI_self, upI_self]
                · rw [upI_ne _ _ q, upI_ne _ _ (by omega)]
                  exact h.ri _ _ _ _ (l14 ⟨ha, q1, y0, y1, by omega, q4⟩))
            simp (disch := first | omega | assumption | rfl) only [in_FB_write, b_FB_write_0, b_FB_write_5, b_FB_write_11, b_FB_write_22, b_FB_write_29, b_FB_write_30, b_FB_write_33, b_FB_write_58, b_FB_write_59, b_FB_write_62, x_houseOf_yes h.g ha, s_FB_isTag, s_FB_isWithin, x_rA, x_rA1, x_rS, x_rS1, i12, i6, r6, r5, rr, Option.toList_some, Option.toList_none, List.cons_append, List.nil_append, ↓if_pos, ↓if_neg, ↓and_t, ↓ck, ↓ex_some, true_and, and_true, not_true_eq_false, not_false_eq_true, if_true, if_false, or_true, true_or, w32_id, reduceCtorEq, ne_eq, wr_4]
            exact z
      · have z := k2 ⟨q1, q2⟩ (Or.inl q3)
        simp (disch := first | omega | assumption | rfl) only [in_FB_write, b_FB_write_0, b_FB_write_5, b_FB_write_11, b_FB_write_22, b_FB_write_29, b_FB_write_30, b_FB_write_33, b_FB_write_58, b_FB_write_59, b_FB_write_62, x_houseOf_yes h.g ha, s_FB_isTag, s_FB_isWithin, x_rA, x_rA1, x_rS, x_rS1, i12, i6, r6, r5, rr, Option.toList_some, Option.toList_none, List.cons_append, List.nil_append, ↓if_pos, ↓if_neg, ↓and_t, ↓ck, ↓ex_some, true_and, and_true, not_true_eq_false, not_false_eq_true, if_true, if_false, or_true, true_or, w32_id, reduceCtorEq, ne_eq, wr_4]
        first | exact z | exact z.2
    · have z := k1 (fun y => q2 y.2)
      simp (disch := first | omega | assumption | rfl) only [in_FB_write, b_FB_write_0, b_FB_write_5, b_FB_write_11, b_FB_write_22, b_FB_write_29, b_FB_write_30, b_FB_write_33, b_FB_write_58, b_FB_write_59, b_FB_write_62, x_houseOf_yes h.g ha, s_FB_isTag, s_FB_isWithin, x_rA, x_rA1, Option.toList_some, Option.toList_none, List.cons_append, List.nil_append, ↓if_pos, ↓if_neg, ↓and_t, ↓ck, ↓ex_some, true_and, and_true, not_true_eq_false, not_false_eq_true, if_true, if_false, or_true, true_or, w32_id, reduceCtorEq, ne_eq, wr_4]
      first | exact z | exact z.2
  · have z := k1 (fun y => q1 y.1)
    simp (disch := first | omega | assumption | rfl) only [in_FB_write, b_FB_write_0, b_FB_write_5, b_FB_write_11, b_FB_write_22, b_FB_write_29, b_FB_write_30, b_FB_write_33, b_FB_write_58, b_FB_write_59, b_FB_write_62, x_houseOf_yes h.g ha, s_FB_isTag, s_FB_isWithin, x_rA, x_rA1, Option.toList_some, Option.toList_none, List.cons_append, List.nil_append, ↓if_pos, ↓if_neg, ↓and_t, ↓ck, ↓ex_some, true_and, and_true, not_true_eq_false, not_false_eq_true, if_true, if_false, or_true, true_or, w32_id, reduceCtorEq, ne_eq, wr_4]
    first | exact z | exact z.2
