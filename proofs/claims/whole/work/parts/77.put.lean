/-! ===== the reference: a chunk put ===== -/
/-- one segment more -/
def opJ (J : Int → Int → Int) (a : Int) : Int → Int → Int := uJ (wJ (uJ (uJ (uJ J 20 a (J 20 a + 1)) 21 (40 * a + J 20 a) 0) 22 (40 * a + J 20 a) 0) 23 (60 * (40 * a + J 20 a)) (60 * (40 * a + J 20 a) + 60) (fun _ => 0)) (-1) 30 0
/-- z bytes of file f from fr on behind what the last segment has -/
def pcJ (J : Int → Int → Int) (a : Int) : Int := 60 * (40 * a + J 20 a - 1) + J (-1) 30
def flJ1 (J : Int → Int → Int) (a f fr z : Int) : Int → Int → Int := uJ (wJ J 23 (pcJ J a) (pcJ J a + z) (fun x => J 14 (200 * f + fr + (x - pcJ J a)))) (-1) 30 (J (-1) 30 + z)
def ptJ (J : Int → Int → Int) (a f fr z : Int) : Int × (Int → Int → Int) := if J (-1) 30 + z ≤ 60 then (pcJ J a, flJ1 J a f fr z) else if J 20 a = 40 then (-1, J) else (pcJ (opJ J a) a, flJ1 (opJ J a) a f fr z)
theorem opJ_20 {J : Int → Int → Int} {a : Int} : opJ J a 20 a = J 20 a + 1 ∧ opJ J a (-1) 30 = 0 := by
  unfold opJ
  refine ⟨?_, by rw [uJ_self, upI_self]⟩
  rw [uJ_ne (by decide), wJ_ne (by decide), uJ_ne (by decide), uJ_ne (by decide), uJ_self, upI_self]
theorem opJ_r {J : Int → Int → Int} {a : Int} (h : MR J) (h4 : J 20 a ≠ 40) : MR (opJ J a) := by
  have := h.k20 a
  exact ((((h.u (Or.inr ⟨by show (0 : Int) ≤ _; omega, by show _ ≤ (40 : Int); omega⟩)).u (Or.inr ⟨by decide, by decide⟩)).u (Or.inr ⟨by decide, by decide⟩)).w (fun _ _ _ => ⟨by decide, by decide⟩)).u (Or.inl rfl)
theorem flJ1_r {J : Int → Int → Int} {a f fr z : Int} (h : MR J) : MR (flJ1 J a f fr z) := (h.w (fun x _ _ => h.k14 (200 * f + fr + (x - pcJ J a)))).u (Or.inl rfl)
theorem ptJ_o {J : Int → Int → Int} {a f fr z k x : Int} (h : k ≠ -1 ∧ k ≠ 20 ∧ k ≠ 21 ∧ k ≠ 22 ∧ k ≠ 23) : (ptJ J a f fr z).2 k x = J k x := by
  unfold ptJ
  by_cases q : J (-1) 30 + z ≤ 60
  · rw [if_pos q]
    show flJ1 J a f fr z k x = _
    unfold flJ1
    rw [uJ_ne h.1, wJ_ne h.2.2.2.2]
  · rw [if_neg q]
    by_cases q2 : J 20 a = 40
    · rw [if_pos q2]
    · rw [if_neg q2]
      show flJ1 (opJ J a) a f fr z k x = _
      unfold flJ1 opJ
      rw [uJ_ne h.1, wJ_ne h.2.2.2.2, uJ_ne h.1, wJ_ne h.2.2.2.2, uJ_ne h.2.2.2.1, uJ_ne h.2.2.1, uJ_ne h.2.1]
theorem ptJ_m {J : Int → Int → Int} {a f fr z x : Int} (h : x ≠ 30) : (ptJ J a f fr z).2 (-1) x = J (-1) x := by
  unfold ptJ
  by_cases q : J (-1) 30 + z ≤ 60
  · rw [if_pos q]
    show flJ1 J a f fr z (-1) x = _
    unfold flJ1
    rw [uJ_self, upI_ne _ _ h, wJ_ne (by decide)]
  · rw [if_neg q]
    by_cases q2 : J 20 a = 40
    · rw [if_pos q2]
    · rw [if_neg q2]
      show flJ1 (opJ J a) a f fr z (-1) x = _
      unfold flJ1 opJ
      rw [uJ_self, upI_ne _ _ h, wJ_ne (by decide), uJ_self, upI_ne _ _ h, wJ_ne (by decide), uJ_ne (by decide), uJ_ne (by decide), uJ_ne (by decide)]
/-- what holds of the words while a house is sealed -/
def SI (J : Int → Int → Int) (a : Int) : Prop := MR J ∧ PL J ∧ (0 ≤ J (-1) 30 ∧ J (-1) 30 ≤ 60) ∧ (J (-1) 30 = 60 ∨ 1 ≤ J 20 a)
theorem ptJ_i {J : Int → Int → Int} {a f fr z : Int} (h : SI J a) (ha : 0 ≤ a ∧ a ≤ 9) (hz : 1 ≤ z ∧ z ≤ 16) : SI (ptJ J a f fr z).2 a ∧ -1 ≤ (ptJ J a f fr z).1 ∧ (ptJ J a f fr z).1 + z ≤ 24000 ∧ (0 ≤ (ptJ J a f fr z).1 → 1 ≤ (ptJ J a f fr z).2 20 a) ∧ J 20 a ≤ (ptJ J a f fr z).2 20 a := by
  obtain ⟨h1, h2, h3, h4⟩ := h
  have hP : PL (ptJ J a f fr z).2 := fun c => by rw [ptJ_o (by decide), ptJ_o (by decide)]; exact h2 c
  have d1 := h1.k20 a
  unfold ptJ at *
  by_cases q : J (-1) 30 + z ≤ 60
  · rw [if_pos q] at hP ⊢
    have e20 : flJ1 J a f fr z 20 a = J 20 a := by unfold flJ1; rw [uJ_ne (by decide), wJ_ne (by decide)]
    have e30 : flJ1 J a f fr z (-1) 30 = J (-1) 30 + z := by unfold flJ1; rw [uJ_self, upI_self]
    refine ⟨⟨flJ1_r h1, hP, ?_, ?_⟩, ?_, ?_, ?_, ?_⟩
    · show 0 ≤ flJ1 J a f fr z (-1) 30 ∧ flJ1 J a f fr z (-1) 30 ≤ 60
      rw [e30]; omega
    · show flJ1 J a f fr z (-1) 30 = 60 ∨ 1 ≤ flJ1 J a f fr z 20 a
      rw [e20]; omega
    · show -1 ≤ pcJ J a
      unfold pcJ; omega
    · show pcJ J a + z ≤ 24000
      unfold pcJ; omega
    · show 0 ≤ pcJ J a → 1 ≤ flJ1 J a f fr z 20 a
      rw [e20]; omega
    · show J 20 a ≤ flJ1 J a f fr z 20 a
      rw [e20]; omega
  · rw [if_neg q] at hP ⊢
    by_cases q2 : J 20 a = 40
    · rw [if_pos q2] at hP ⊢
      exact ⟨⟨h1, hP, h3, h4⟩, Int.le_refl _, by show (-1 : Int) + z ≤ 24000; omega, fun z => absurd z (by show ¬ (0 : Int) ≤ -1; decide), Int.le_refl _⟩
    · rw [if_neg q2] at hP ⊢
      obtain ⟨o1, o2⟩ := opJ_20 (J := J) (a := a)
      have e20 : flJ1 (opJ J a) a f fr z 20 a = J 20 a + 1 := by unfold flJ1; rw [uJ_ne (by decide), wJ_ne (by decide), o1]
      have e30 : flJ1 (opJ J a) a f fr z (-1) 30 = z := by unfold flJ1; rw [uJ_self, upI_self, o2]; omega
      refine ⟨⟨flJ1_r (opJ_r h1 q2), hP, ?_, ?_⟩, ?_, ?_, ?_, ?_⟩
      · show 0 ≤ flJ1 (opJ J a) a f fr z (-1) 30 ∧ flJ1 (opJ J a) a f fr z (-1) 30 ≤ 60
        rw [e30]; omega
      · show flJ1 (opJ J a) a f fr z (-1) 30 = 60 ∨ 1 ≤ flJ1 (opJ J a) a f fr z 20 a
        rw [e20]; omega
      · show -1 ≤ pcJ (opJ J a) a
        unfold pcJ; rw [o1, o2]; omega
      · show pcJ (opJ J a) a + z ≤ 24000
        unfold pcJ; rw [o1, o2]; omega
      · show 0 ≤ pcJ (opJ J a) a → 1 ≤ flJ1 (opJ J a) a f fr z 20 a
        rw [e20]; omega
      · show J 20 a ≤ flJ1 (opJ J a) a f fr z 20 a
        rw [e20]; omega
theorem m_put {d : Nat} {K : Kt} {X : Xt} {J : Int → Int → Int} {ty : Nm → Nat} {ln : Nm → Int} {I : Nm → Int → Int} {R : Nm → Int → Option Nm} {c w : Nat} {a f fr z : Int} (h : MOk ty ln R) (hI : SI J a) (a0 : 0 ≤ a ∧ a ≤ 9) (f0 : 0 ≤ f ∧ f < 100) (r0 : 0 ≤ fr) (z0 : 1 ≤ z ∧ z ≤ 16 ∧ fr + z ≤ 200) :
    Mth (d + 1) M_Mo_put [vR (some [2]), vI a, vI f, vI fr, vI z] (ty, ln, pJ I J, R, c, w) K X = K (some (vI ((ptJ J a f fr z).1))) (ty, ln, pJ I ((ptJ J a f fr z).2), R, c, w) := by
  have a14 := h.a14
  have a20 := h.a20
  have a21 := h.a21
  have a22 := h.a22
  have a23 := h.a23
  have h0 := h.1
  obtain ⟨hR, hP, h3, h4⟩ := hI
  have d1 := hR.k20 a
  have back : ∀ J1, MR J1 → 0 ≤ J1 (-1) 30 → J1 (-1) 30 + z ≤ 60 → 1 ≤ J1 20 a → ∀ u5 u6, isLg u5 = false → isLg u6 = false → Rn d M_Mo_put K X 99 [vR (some [2]), vI a, vI f, vI fr, vI z, u5, u6] [] (ty, ln, pJ I J1, R, c, w) = K (some (vI (pcJ J1 a))) (ty, ln, pJ I (flJ1 J1 a f fr z), R, c, w) := by
    intro J1 g1 g2 g3 g4 u5 u6 v5 v6
    have d2 := g1.k20 a
    have ep : pcJ J1 a = 60 * (40 * a + J1 20 a - 1) + J1 (-1) 30 := rfl
    have key : ∀ q t : Nat, t + q = z.toNat → Rn d M_Mo_put K X 125 [vR (some [2]), vI a, vI f, vI fr, vI z, vI (pcJ J1 a), vI (t : Int)] [] (ty, ln, pJ I (wJ J1 23 (pcJ J1 a) (pcJ J1 a + t) (fun x => J1 14 (200 * f + fr + (x - pcJ J1 a)))), R, c, w) = K (some (vI (pcJ J1 a))) (ty, ln, pJ I (flJ1 J1 a f fr z), R, c, w) := by
      intro q
      induction q with
      | zero =>
        intro t ht
        rw [b_Mo_put_125, if_pos (by omega), and_t h0, and_t ⟨h0, rfl⟩, pJ_m, wJ_ne (by decide), w32_id (by omega) (by omega), up_m, show (t : Int) = z by omega]
        rfl
      | succ q ih =>
        intro t ht
        rw [b_Mo_put_125, if_neg (by omega), and_t h0, and_t h0, h.e14, w32_id (x := 200 * f) (by omega) (by omega), w32_id (x := 200 * f + fr) (by omega) (by omega), w32_id (x := 200 * f + fr + (t : Int)) (by omega) (by omega), and_t ⟨Or.inl a14.2.1, by omega, by omega⟩, h.e23, w32_id (x := pcJ J1 a + (t : Int)) (by omega) (by omega), and_t ⟨a23.2.1, rfl, by omega, by omega⟩, pJ_a (by decide), wJ_ne (by decide), up_a (by decide), wJ_up (by omega) (by rw [show pcJ J1 a + (t : Int) - pcJ J1 a = t by omega]), w32_id (by omega) (by omega), Int.add_assoc (pcJ J1 a)]
        exact ih (t + 1) (by omega)
    have k0 := key z.toNat 0 (Nat.zero_add _)
    rw [show pcJ J1 a + ((0 : Nat) : Int) = pcJ J1 a by omega, wJ_nil (by omega)] at k0
    rw [b_Mo_put_99 v5 v6, and_t h0, h.e20, and_t ⟨Or.inl a20.2.1, by omega, by omega⟩, pJ_a (by decide), and_t h0, pJ_m, w32_id (x := 40 * a) (by omega) (by omega), w32_id (x := 40 * a + J1 20 a) (by omega) (by omega), w32_id (x := 40 * a + J1 20 a - 1) (by omega) (by omega), w32_id (x := 60 * (40 * a + J1 20 a - 1)) (by omega) (by omega), w32_id (by omega) (by omega), ← ep]
    exact k0
  rw [in_Mo_put, b_Mo_put_0, and_t h0, pJ_m, w32_id (x := J (-1) 30 + z) (by omega) (by omega)]
  unfold ptJ
  by_cases c1 : J (-1) 30 + z ≤ 60
  · rw [if_pos c1, if_pos c1]
    exact back J hR h3.1 c1 (by omega) _ _ rfl rfl
  · rw [if_neg c1, if_neg c1, and_t h0, h.e20, and_t ⟨Or.inl a20.2.1, by omega, by omega⟩, pJ_a (by decide)]
    by_cases c2 : J 20 a = 40
    · rw [if_neg (fun u => u c2), if_pos c2]
    · rw [if_pos c2, if_neg c2]
      obtain ⟨o1, o2⟩ := opJ_20 (J := J) (a := a)
      have fin := back (opJ J a) (opJ_r hR c2) (by omega) (by omega) (by omega) (vI (40 * a + J 20 a)) (vI 60) rfl rfl
      have key : ∀ q t : Nat, t + q = 60 → Rn d M_Mo_put K X 67 [vR (some [2]), vI a, vI f, vI fr, vI z, vI (40 * a + J 20 a), vI (t : Int)] [] (ty, ln, pJ I (wJ (uJ (uJ (uJ J 20 a (J 20 a + 1)) 21 (40 * a + J 20 a) 0) 22 (40 * a + J 20 a) 0) 23 (60 * (40 * a + J 20 a)) (60 * (40 * a + J 20 a) + t) (fun _ => 0)), R, c, w) = K (some (vI (pcJ (opJ J a) a))) (ty, ln, pJ I (flJ1 (opJ J a) a f fr z), R, c, w) := by
        intro q
        induction q with
        | zero =>
          intro t ht
          rw [b_Mo_put_67, if_pos (by omega), and_t ⟨h0, rfl⟩, up_m, show (t : Int) = 60 by omega]
          exact fin
        | succ q ih =>
          intro t ht
          rw [b_Mo_put_67, if_neg (by omega), and_t h0, h.e23, w32_id (x := 60 * (40 * a + J 20 a)) (by omega) (by omega), w32_id (x := 60 * (40 * a + J 20 a) + (t : Int)) (by omega) (by omega), and_t ⟨a23.2.1, rfl, by omega, by omega⟩, up_a (by decide), wJ_up (by omega) (by rfl), w32_id (by omega) (by omega), Int.add_assoc (60 * (40 * a + J 20 a))]
          exact ih (t + 1) (by omega)
      have k0 := key 60 0 rfl
      rw [show 60 * (40 * a + J 20 a) + ((0 : Nat) : Int) = 60 * (40 * a + J 20 a) by omega, wJ_nil (by omega)] at k0
      simp (disch := omega) only [↓h.e20, ↓h.e21, ↓h.e22, Option.toList_some, Option.toList_none, List.cons_append, List.nil_append, ↓if_pos, ↓if_neg, ↓and_t, pJ_a, pJ_m, up_a, up_m, Option.some.injEq, exists_eq_left', wr_a, wr_m, true_and, and_true, not_true_eq_false, not_false_eq_true, if_true, if_false, or_true, true_or, uJ_self, uJ_ne, upI_self, upI_ne, w32_id, reduceCtorEq, ne_eq, wJ_ne, wJ_out]
      exact k0
