/-! ===== the reference: seal, walked ===== -/
theorem tgL_i {J : Int → Int → Int} {a sl : Int} (h : SI J a) (ha : 0 ≤ a ∧ a ≤ 9) : ∀ t : Nat, t ≤ 10 → ((tgL J a sl t).1 = 0 ∨ (tgL J a sl t).1 = 1) ∧ SI (tgL J a sl t).2.2 a ∧ (∀ k x, k ≠ -1 → k ≠ 17 → k ≠ 18 → k ≠ 19 → k ≠ 20 → k ≠ 21 → k ≠ 22 → k ≠ 23 → (tgL J a sl t).2.2 k x = J k x) ∧ (∀ x, x ≠ 30 → (tgL J a sl t).2.2 (-1) x = J (-1) x) ∧ 500 * sl ≤ (tgL J a sl t).2.1 ∧ (tgL J a sl t).2.1 ≤ 500 * sl + 50 * t ∧ J 20 a ≤ (tgL J a sl t).2.2 20 a
  | 0, _ => ⟨Or.inr rfl, h, fun _ _ _ _ _ _ _ _ _ _ => rfl, fun _ _ => rfl, Int.le_refl _, by show 500 * sl ≤ _; omega, Int.le_refl _⟩
  | t + 1, ht => by
    obtain ⟨i1, i2, i3, i4, i5, i6, i7⟩ := tgL_i (sl := sl) h ha t (by omega)
    by_cases q : (tgL J a sl t).1 = 0 ∨ (tgL J a sl t).2.2 12 (10 * a + t) = 0
    · rw [show tgL J a sl (t + 1) = tgL J a sl t from if_pos q]
      exact ⟨i1, i2, i3, i4, i5, by omega, i7⟩
    · rw [show tgL J a sl (t + 1) = fiL a sl t 200 (tgL J a sl t).2.1 0 (uJ (tgL J a sl t).2.2 17 (10 * sl + t) 0) from if_neg q]
      have e13 : ∀ k x, k ≠ 17 → uJ (tgL J a sl t).2.2 17 (10 * sl + t) 0 k x = (tgL J a sl t).2.2 k x := fun k x hk => by rw [uJ_ne hk]
      have z17 : uJ (tgL J a sl t).2.2 17 (10 * sl + t) 0 17 (10 * sl + t) = 0 := by rw [uJ_self, upI_self]
      have k13 := i2.1.k13 (10 * a + t)
      have hF : FI (uJ (tgL J a sl t).2.2 17 (10 * sl + t) 0) a sl t (tgL J a sl t).2.1 0 := by
        refine ⟨⟨i2.1.u (Or.inr ⟨by decide, by decide⟩), fun c => by rw [e13 18 c (by decide), e13 19 c (by decide)]; exact i2.2.1 c, by rw [e13 (-1) 30 (by decide)]; exact i2.2.2.1, by rw [e13 (-1) 30 (by decide), e13 20 a (by decide)]; exact i2.2.2.2⟩, ?_, ?_, ?_, i5, ?_⟩
        · rw [e13 13 _ (by decide)]; omega
        · rw [z17]; omega
        · rw [z17]; omega
        · rw [z17]; omega
      obtain ⟨y1, y2, y3, y4, y5, y6, y7, y8⟩ := fiL_i (sl := sl) (t := t) ha 200 (tgL J a sl t).2.1 0 (uJ (tgL J a sl t).2.2 17 (10 * sl + t) 0) hF (by rw [e13 13 _ (by decide)]; omega)
      rw [e13 20 a (by decide)] at y8
      exact ⟨y1, y2, fun k x k1 k2 k3 k4 k5 k6 k7 k8 => ((y3 k x k1 k2 k3 k4 k5 k6 k7 k8).trans (e13 k x k2)).trans (i3 k x k1 k2 k3 k4 k5 k6 k7 k8), fun x hx => ((y4 x hx).trans (e13 (-1) x (by decide))).trans (i4 x hx), y6, by omega, by omega⟩
theorem frJ_r {J : Int → Int → Int} {a : Int} : ∀ k : Nat, k ≤ 6 → frJ J a k = -1 ∨ (6 * a ≤ frJ J a k ∧ frJ J a k < 6 * a + 6)
  | 0, _ => Or.inl rfl
  | k + 1, hk => by
    by_cases q : 0 ≤ J 16 (6 * a + (5 - k))
    · rw [show frJ J a (k + 1) = frJ J a k from if_pos q]
      exact frJ_r k (by omega)
    · rw [show frJ J a (k + 1) = 6 * a + (5 - k) from if_neg q]
      exact Or.inr ⟨by omega, by omega⟩
/-- the first n new segments are held -/
def hcL (J : Int → Int → Int) (a hd : Int) : Nat → Int → Int → Int
  | 0 => J
  | i + 1 => wJ (uJ (hcL J a hd i) 22 (40 * a + hd + i) 1) 24 (60 * (40 * a + hd + i)) (60 * (40 * a + hd + i) + 60) (fun x => J 23 x)
theorem hcL_i {J : Int → Int → Int} {a hd : Int} (h : MR J) : ∀ n : Nat, MR (hcL J a hd n) ∧ ∀ k x, k ≠ 22 → k ≠ 24 → hcL J a hd n k x = J k x
  | 0 => ⟨h, fun _ _ _ _ => rfl⟩
  | n + 1 => by
    obtain ⟨i1, i2⟩ := hcL_i (a := a) (hd := hd) h n
    exact ⟨(i1.u (Or.inr ⟨by decide, by decide⟩)).w (fun x _ _ => h.k23 x), fun k x k1 k2 => by show wJ _ _ _ _ _ k x = _; rw [wJ_ne k2, uJ_ne k1]; exact i2 k x k1 k2⟩
/-- the words of a sealed house, behind the chunks -/
def sdJ (J : Int → Int → Int) (a sl hd : Int) : Int → Int → Int := uJ (uJ (uJ (hcL J a hd (J 20 a - hd).toNat) (-1) 4 1) 16 sl (J 15 a)) 15 a (J 15 a + 1)
def slS (J : Int → Int → Int) (a : Int) : Int × (Int → Int → Int) :=
  if frJ J a 6 < 0 ∨ J 15 a = 30 then (-1, uJ J (-1) 0 0)
  else if (tgL (wJ (uJ (uJ J (-1) 0 0) (-1) 30 60) 17 (10 * frJ J a 6) (10 * frJ J a 6 + 10) (fun _ => -1)) a (frJ J a 6) 10).1 = 0 then (-1, uJ (tgL (wJ (uJ (uJ J (-1) 0 0) (-1) 30 60) 17 (10 * frJ J a 6) (10 * frJ J a 6 + 10) (fun _ => -1)) a (frJ J a 6) 10).2.2 20 a (J 20 a))
  else (J 15 a, sdJ (tgL (wJ (uJ (uJ J (-1) 0 0) (-1) 30 60) 17 (10 * frJ J a 6) (10 * frJ J a 6 + 10) (fun _ => -1)) a (frJ J a 6) 10).2.2 a (frJ J a 6) (J 20 a))
theorem m_seal2 {d : Nat} {K : Kt} {X : Xt} {J : Int → Int → Int} {ty : Nm → Nat} {ln : Nm → Int} {I : Nm → Int → Int} {R : Nm → Int → Option Nm} {c w : Nat} {a sl hd : Int} (h : MOk ty ln R) (hR : MR J) (a0 : 0 ≤ a ∧ a ≤ 9) (s0 : 0 ≤ sl ∧ sl < 60) (h0d : 0 ≤ hd ∧ hd ≤ J 20 a) (h15 : J 15 a < 30) :
    ∀ (x4 : Int) (u6 u7 u8 u9 : Vl), isLg u6 = false → isLg u7 = false → isLg u8 = false → isLg u9 = false → Rn (d + 5) M_Mo_seal K X 287 [vR (some [2]), vI a, vI sl, vI hd, vI x4, vI (40 * a + hd), u6, u7, u8, u9] [] (ty, ln, pJ I J, R, c, w) = K (some (vI (J 15 a))) (ty, ln, pJ I (sdJ J a sl hd), R, c, w) := by
  have h0 := h.1
  have a15 := h.a15
  have a16 := h.a16
  have a20 := h.a20
  have a22 := h.a22
  have a23 := h.a23
  have a24 := h.a24
  have d1 := hR.k20 a
  have d2 := hR.k15 a
  intro x4
  have key : ∀ q i : Nat, i + q = (J 20 a - hd).toNat → ∀ (u6 u7 u8 u9 : Vl), isLg u6 = false → isLg u7 = false → isLg u8 = false → isLg u9 = false → Rn (d + 5) M_Mo_seal K X 287 [vR (some [2]), vI a, vI sl, vI hd, vI x4, vI (40 * a + hd + (i : Int)), u6, u7, u8, u9] [] (ty, ln, pJ I (hcL J a hd i), R, c, w) = K (some (vI (J 15 a))) (ty, ln, pJ I (sdJ J a sl hd), R, c, w) := by
    intro q
    induction q with
    | zero =>
      intro i hi u6 u7 u8 u9 v6 v7 v8 v9
      obtain ⟨i1, i2⟩ := hcL_i (a := a) (hd := hd) hR i
      have e15 : ∀ x, hcL J a hd i 15 x = J 15 x := fun x => i2 15 x (by decide) (by decide)
      rw [b_Mo_seal_287 v6 v7 v8 v9, and_t h0, h.e20, and_t ⟨Or.inl a20.2.1, by omega, by omega⟩, pJ_a (by decide), i2 20 _ (by decide) (by decide), w32_id (x := 40 * a) (by omega) (by omega), w32_id (x := 40 * a + J 20 a) (by omega) (by omega), if_pos (by omega)]
      unfold sdJ
      rw [show (J 20 a - hd).toNat = i by omega]
      simp (disch := omega) only [↓h.e15, ↓h.e16, e15, Option.toList_some, Option.toList_none, List.cons_append, List.nil_append, ↓if_pos, ↓if_neg, ↓and_t, pJ_a, pJ_m, up_a, up_m, Option.some.injEq, exists_eq_left', wr_a, wr_m, true_and, and_true, not_true_eq_false, not_false_eq_true, if_true, if_false, or_true, true_or, uJ_self, uJ_ne, upI_self, upI_ne, w32_id, reduceCtorEq, ne_eq, wJ_ne, wJ_out]
    | succ q ih =>
      intro i hi u6 u7 u8 u9 v6 v7 v8 v9
      obtain ⟨i1, i2⟩ := hcL_i (a := a) (hd := hd) hR i
      have e9 : 40 * a + hd + (i : Int) + 1 = 40 * a + hd + ((i + 1 : Nat) : Int) := by omega
      have ih' := ih (i + 1) (by omega)
      rw [b_Mo_seal_287 v6 v7 v8 v9, and_t h0, h.e20, and_t ⟨Or.inl a20.2.1, by omega, by omega⟩, pJ_a (by decide), i2 20 _ (by decide) (by decide), w32_id (x := 40 * a) (by omega) (by omega), w32_id (x := 40 * a + J 20 a) (by omega) (by omega), if_neg (by omega), and_t h0, h.e22, and_t ⟨a22.2.1, rfl, by omega, by omega, Or.inr rfl⟩, up_a (by decide)]
      have inner : ∀ q t : Nat, t + q = 60 → Rn (d + 5) M_Mo_seal K X 314 [vR (some [2]), vI a, vI sl, vI hd, vI x4, vI (40 * a + hd + (i : Int)), vI (t : Int), u7, u8, u9] [] (ty, ln, pJ I (wJ (uJ (hcL J a hd i) 22 (40 * a + hd + i) 1) 24 (60 * (40 * a + hd + i)) (60 * (40 * a + hd + i) + t) (fun x => J 23 x)), R, c, w) = K (some (vI (J 15 a))) (ty, ln, pJ I (sdJ J a sl hd), R, c, w) := by
        intro q
        induction q with
        | zero =>
          intro t ht
          rw [b_Mo_seal_314 v7 v8 v9, if_pos (by omega), w32_id (by omega) (by omega), e9, show (t : Int) = 60 by omega]
          exact ih' _ _ _ _ rfl v7 v8 v9
        | succ q ih2 =>
          intro t ht
          rw [b_Mo_seal_314 v7 v8 v9, if_neg (by omega), and_t h0, and_t h0, h.e23, w32_id (x := 60 * (40 * a + hd + (i : Int))) (by omega) (by omega), w32_id (x := 60 * (40 * a + hd + (i : Int)) + (t : Int)) (by omega) (by omega), and_t ⟨Or.inl a23.2.1, by omega, by omega⟩, h.e24, and_t ⟨a24.2.1, rfl, by omega, by omega⟩, pJ_a (by decide), wJ_ne (by decide), uJ_ne (by decide), i2 23 _ (by decide) (by decide), up_a (by decide), wJ_up (by omega) (by rfl), w32_id (by omega) (by omega), Int.add_assoc (60 * (40 * a + hd + (i : Int)))]
          exact ih2 (t + 1) (by omega)
      have k0 := inner 60 0 rfl
      rw [show 60 * (40 * a + hd + (i : Int)) + ((0 : Nat) : Int) = 60 * (40 * a + hd + i) by omega, wJ_nil (by omega)] at k0
      exact k0
  intro u6 u7 u8 u9 v6 v7 v8 v9
  have k0 := key (J 20 a - hd).toNat 0 (Nat.zero_add _) u6 u7 u8 u9 v6 v7 v8 v9
  rw [show 40 * a + hd + ((0 : Nat) : Int) = 40 * a + hd by omega] at k0
  exact k0
/-- the chunks of a file, walked -/
theorem m_seal1 {d : Nat} {K : Kt} {X : Xt} {ty : Nm → Nat} {ln : Nm → Int} {I : Nm → Int → Int} {R : Nm → Int → Option Nm} {c w : Nat} {a sl hd t : Int} {P : Prop} (h : MOk ty ln R) (a0 : 0 ≤ a ∧ a ≤ 9) (s0 : 0 ≤ sl ∧ sl < 60) (t0 : 0 ≤ t ∧ t ≤ 9) :
    ∀ (n : Nat) (cc fr : Int) (J : Int → Int → Int), FI J a sl t cc fr → J 13 (10 * a + t) - fr ≤ n → ∀ (u8 u9 : Vl), isLg u8 = false → isLg u9 = false →
    ((fiL a sl t n cc fr J).1 = 0 → K (some (vI (-1))) (ty, ln, pJ I (uJ (fiL a sl t n cc fr J).2.2 20 a hd), R, c, w) = P) →
    ((fiL a sl t n cc fr J).1 = 1 → ∀ (u7 u8 u9 : Vl), isLg u7 = false → isLg u8 = false → isLg u9 = false → Rn (d + 5) M_Mo_seal K X 273 [vR (some [2]), vI a, vI sl, vI hd, vI (fiL a sl t n cc fr J).2.1, vI t, vI (10 * a + t), u7, u8, u9] [] (ty, ln, pJ I (fiL a sl t n cc fr J).2.2, R, c, w) = P) →
    Rn (d + 5) M_Mo_seal K X 152 [vR (some [2]), vI a, vI sl, vI hd, vI cc, vI t, vI (10 * a + t), vI fr, u8, u9] [] (ty, ln, pJ I J, R, c, w) = P := by
  have h0 := h.1
  have a13 := h.a13
  have a17 := h.a17
  have a18 := h.a18
  have a19 := h.a19
  have a20 := h.a20
  intro n
  induction n with
  | zero =>
    intro cc fr J hF hn u8 u9 v8 v9 k0 k1
    have := hF.2.1
    rw [b_Mo_seal_152 v8 v9, and_t h0, h.e13, and_t ⟨Or.inl a13.2.1, by omega, by omega⟩, pJ_a (by decide), if_pos (by omega)]
    exact k1 rfl _ _ _ rfl v8 v9
  | succ n ih =>
    intro cc fr J hF hn u8 u9 v8 v9 k0 k1
    have f2 := hF.2.1
    have s13 := hF.1.1.k13 (10 * a + t)
    rw [b_Mo_seal_152 v8 v9, and_t h0, h.e13, and_t ⟨Or.inl a13.2.1, by omega, by omega⟩, pJ_a (by decide)]
    by_cases q1 : J 13 (10 * a + t) ≤ fr
    · rw [show fiL a sl t (n + 1) cc fr J = (1, cc, J) from if_pos q1] at k0 k1
      rw [if_pos q1]
      exact k1 rfl _ _ _ rfl v8 v9
    · have hf : fr < J 13 (10 * a + t) := by omega
      obtain ⟨g1, c1, c2, c3, c4⟩ := chJ_i (sl := sl) (f := 10 * a + t) hF.1 a0 ⟨f2.1, hf⟩
      have ce := ceJ_r (J := J) (f := 10 * a + t) ⟨f2.1, hf⟩
      have h17 := hF.2.2.1 hf
      have h17' := hF.2.2.2.1
      have hcb := hF.2.2.2.2
      obtain ⟨hR, hP, hfl, hfm⟩ := id hF.1
      rw [if_neg q1, and_t h0, m_chunkEnd h hR (by omega) (by omega)]
      refine (b_Mo_seal_172 v8 v9).trans ?_
      rw [and_t h0, w32_id (x := ceJ J (10 * a + t) fr - fr) (by omega) (by omega), m_findChunk h hR hP a0 (by omega) f2.1 (by omega)]
      refine (b_Mo_seal_189 v9).trans ?_
      -- behind the place
      have go : Rn (d + 5) M_Mo_seal K X 212 [vR (some [2]), vI a, vI sl, vI hd, vI cc, vI t, vI (10 * a + t), vI fr, vI (ceJ J (10 * a + t) fr), vI (chJ J a sl (10 * a + t) fr).1] [] (ty, ln, pJ I (chJ J a sl (10 * a + t) fr).2, R, c, w) = P := by
        rw [b_Mo_seal_212]
        by_cases q2 : (chJ J a sl (10 * a + t) fr).1 < 0
        · rw [show fiL a sl t (n + 1) cc fr J = (0, cc, (chJ J a sl (10 * a + t) fr).2) by show (if _ then _ else _) = _; rw [if_neg q1, if_pos q2]] at k0 k1
          rw [if_neg (by omega), and_t h0, h.e20, and_t ⟨a20.2.1, rfl, by omega, by omega⟩, up_a (by decide)]
          exact k0 rfl
        · rw [show fiL a sl t (n + 1) cc fr J = fiL a sl t n (cc + 1) (ceJ J (10 * a + t) fr) (nxJ J a sl t (10 * a + t) fr cc) by show (if _ then _ else _) = _; rw [if_neg q1, if_neg q2]] at k0 k1
          obtain ⟨x1, x2, x3, x4, x5⟩ := nxJ_i hF a0 hf (by omega)
          have kk := ih (cc + 1) (ceJ J (10 * a + t) fr) (nxJ J a sl t (10 * a + t) fr cc) x1 (by rw [x2 13 _ (by decide) (by decide) (by decide) (by decide) (by decide) (by decide) (by decide) (by decide)]; omega) (vI (ceJ J (10 * a + t) fr)) (vI (chJ J a sl (10 * a + t) fr).1) rfl rfl k0 k1
          have e17 : (chJ J a sl (10 * a + t) fr).2 17 (10 * sl + t) = J 17 (10 * sl + t) := chJ_o (by decide)
          unfold nxJ at kk
          rw [if_pos (by omega)]
          simp (disch := omega) only [↓h.e17, ↓h.e18, ↓h.e19, Option.toList_some, Option.toList_none, List.cons_append, List.nil_append, ↓if_pos, ↓if_neg, ↓and_t, pJ_a, pJ_m, up_a, up_m, Option.some.injEq, exists_eq_left', wr_a, wr_m, true_and, and_true, not_true_eq_false, not_false_eq_true, if_true, if_false, or_true, true_or, uJ_self, uJ_ne, upI_self, upI_ne, w32_id, reduceCtorEq, ne_eq, wJ_ne, wJ_out]
          exact kk
      by_cases q3 : 0 ≤ fcJ J a sl (10 * a + t) fr (ceJ J (10 * a + t) fr - fr) 6
      · rw [show chJ J a sl (10 * a + t) fr = (fcJ J a sl (10 * a + t) fr (ceJ J (10 * a + t) fr - fr) 6, J) from if_pos q3] at go
        rw [if_pos q3]
        exact go
      · rw [show chJ J a sl (10 * a + t) fr = ptJ J a (10 * a + t) fr (ceJ J (10 * a + t) fr - fr) from if_neg q3] at go
        rw [if_neg q3, and_t h0, w32_id (x := ceJ J (10 * a + t) fr - fr) (by omega) (by omega), m_put h hF.1 a0 (by omega) f2.1 (by omega)]
        exact b_Mo_seal_210.trans go

