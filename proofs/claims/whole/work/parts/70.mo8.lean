/-! ===== the reference: audit, loseDisk, harm, recover ===== -/
theorem GI.mp {J : Int → Int → Int} {a s j : Int} (h : GI J) : GI (mpJ J a s j) := ⟨mpJ_r h.1, h.2.1.m mpJ_m, h.2.2.keep (fun x _ _ => mpJ_o (by decide)) (fun p => ⟨mpJ_o (by decide), mpJ_o (by decide)⟩)⟩
theorem GI.u {J : Int → Int → Int} {k j v : Int} (h : GI J) (hv : k = -1 ∨ (loK k ≤ v ∧ v ≤ hiK k)) (hk : k ≠ -1 ∨ j = 0 ∨ j = 30) (hn : k ≠ 10 ∧ k ≠ 25 ∧ k ≠ 26) : GI (uJ J k j v) := ⟨h.1.u hv, h.2.1.u hk, h.2.2.keep (fun x _ _ => by rw [uJ_ne (fun e => hn.1 e.symm)]) (fun p => ⟨by rw [uJ_ne (fun e => hn.2.1 e.symm)], by rw [uJ_ne (fun e => hn.2.2 e.symm)]⟩)⟩
theorem GI.w {J : Int → Int → Int} {k lo hi : Int} {f : Int → Int} (h : GI J) (hv : ∀ x, lo ≤ x → x < hi → loK k ≤ f x ∧ f x ≤ hiK k) (hn : k ≠ -1 ∧ k ≠ 10 ∧ k ≠ 25 ∧ k ≠ 26) : GI (wJ J k lo hi f) := ⟨h.1.w hv, h.2.1.w hn.1, h.2.2.keep (fun x _ _ => by rw [wJ_ne (fun e => hn.2.1 e.symm)]) (fun p => ⟨by rw [wJ_ne (fun e => hn.2.2.1 e.symm)], by rw [wJ_ne (fun e => hn.2.2.2 e.symm)]⟩)⟩
/-- a piece that does not lie anywhere is struck out of the book -/
theorem GI.unbook {J : Int → Int → Int} {o p : Int} (h : GI J) (ho : 0 ≤ o ∧ o ≤ 9) (hp : 480 * o ≤ p ∧ p < 480 * o + 480) (h26 : J 26 p = 0) : GI (uJ J 25 p (-1)) := by
  refine ⟨h.1.u (Or.inr ⟨by decide, by decide⟩), h.2.1.u (Or.inl (by decide)), ?_⟩
  have z26 : ∀ x, uJ J 25 p (-1) 26 x = J 26 x := fun x => by rw [uJ_ne (by decide)]
  have t0 : ∀ k, tk (uJ J 25 p (-1)) k p = 0 := fun k => if_neg (fun z => z.2 (by rw [z26, h26]))
  have t1 : ∀ k, tk J k p = 0 := fun k => if_neg (fun z => z.2 h26)
  refine h.2.2.one (k0 := 0) ho hp (fun q hq => ⟨by rw [uJ_self, upI_ne _ _ hq], z26 q⟩) (by decide) ?_ (fun x _ => by rw [uJ_ne (by decide)]) (fun k _ _ => by rw [t0, t1])
  rw [t0, t1, uJ_ne (by decide)]
  omega
/-- one piece looked at -/
def auP (J : Int → Int → Int) (a s j : Int) : Int × (Int → Int → Int) :=
  if 0 ≤ J 25 (12 * s + j) ∧ J 6 (J 25 (12 * s + j)) ≠ 0 then
    (if J 26 (12 * s + j) = 0 then (1, uJ (loseJ J a (12 * s + j)) 25 (12 * s + j) (-1))
     else if rtJ J 24 s j ≠ 0 then (0, mpJ J 24 s j) else (1, uJ (loseJ (mpJ J 24 s j) a (12 * s + j)) 25 (12 * s + j) (-1)))
  else (0, J)
theorem loseJ_m {J : Int → Int → Int} {a p : Int} : loseJ J a p (-1) = J (-1) := by
  unfold loseJ
  split
  · rw [uJ_m (by decide), uJ_m (by decide)]
  · rfl
theorem auP_i {J : Int → Int → Int} {a s j : Int} (h : GI J) (ha : 0 ≤ a ∧ a ≤ 9) (hp : 480 * a ≤ 12 * s + j ∧ 12 * s + j < 480 * a + 480) : GI (auP J a s j).2 ∧ (auP J a s j).2 (-1) = J (-1) ∧ (∀ k x, k ≠ 31 → k ≠ 26 → k ≠ 25 → k ≠ 10 → (auP J a s j).2 k x = J k x) ∧ 0 ≤ (auP J a s j).1 ∧ (auP J a s j).1 ≤ 1 := by
  unfold auP
  by_cases q1 : 0 ≤ J 25 (12 * s + j) ∧ J 6 (J 25 (12 * s + j)) ≠ 0
  · rw [if_pos q1]
    by_cases q2 : J 26 (12 * s + j) = 0
    · rw [if_pos q2]
      obtain ⟨g1, g2, g3, g4⟩ := loseJ_g h ha hp
      exact ⟨g1.unbook ha hp (g4 q1.1), (by show uJ (loseJ J a (12 * s + j)) 25 (12 * s + j) (-1) (-1) = _; rw [uJ_m (by decide), loseJ_m]), fun k x k1 k2 k3 k4 => by show uJ (loseJ J a (12 * s + j)) 25 (12 * s + j) (-1) k x = _; rw [uJ_ne k3]; exact g2 k x k2 k4, (by show (0 : Int) ≤ 1; decide), (by show (1 : Int) ≤ 1; decide)⟩
    · rw [if_neg q2]
      by_cases q3 : rtJ J 24 s j ≠ 0
      · rw [if_pos q3]
        exact ⟨h.mp, mpJ_m (J := J) (a := 24) (s := s) (j := j), fun k x k1 _ _ _ => mpJ_o (J := J) (a := 24) (s := s) (j := j) k1, (by show (0 : Int) ≤ 0; decide), (by show (0 : Int) ≤ 1; decide)⟩
      · rw [if_neg q3]
        obtain ⟨g1, g2, g3, g4⟩ := loseJ_g (p := 12 * s + j) (h.mp (a := 24) (s := s) (j := j)) ha hp
        exact ⟨g1.unbook ha hp (g4 (by rw [mpJ_o (by decide)]; exact q1.1)), (by show uJ (loseJ (mpJ J 24 s j) a (12 * s + j)) 25 (12 * s + j) (-1) (-1) = _; rw [uJ_m (by decide), loseJ_m, mpJ_m]), fun k x k1 k2 k3 k4 => by show uJ (loseJ (mpJ J 24 s j) a (12 * s + j)) 25 (12 * s + j) (-1) k x = _; rw [uJ_ne k3]; exact (g2 k x k2 k4).trans (mpJ_o k1), (by show (0 : Int) ≤ 1; decide), (by show (1 : Int) ≤ 1; decide)⟩
  · rw [if_neg q1]
    exact ⟨h, rfl, fun _ _ _ _ _ _ => rfl, (by show (0 : Int) ≤ 0; decide), (by show (0 : Int) ≤ 1; decide)⟩
def auA (J : Int → Int → Int) (a s : Int) : Nat → Int × (Int → Int → Int)
  | 0 => (0, J)
  | j + 1 => ((auA J a s j).1 + (auP (auA J a s j).2 a s j).1, (auP (auA J a s j).2 a s j).2)
theorem auA_i {J : Int → Int → Int} {a s : Int} (h : GI J) (ha : 0 ≤ a ∧ a ≤ 9) (hs : 40 * a ≤ s ∧ s < 40 * a + 40) : ∀ n : Nat, n ≤ 12 → GI (auA J a s n).2 ∧ (auA J a s n).2 (-1) = J (-1) ∧ (∀ k x, k ≠ 31 → k ≠ 26 → k ≠ 25 → k ≠ 10 → (auA J a s n).2 k x = J k x) ∧ 0 ≤ (auA J a s n).1 ∧ (auA J a s n).1 ≤ n
  | 0, _ => ⟨h, rfl, fun _ _ _ _ _ _ => rfl, Int.le_refl _, Int.le_refl _⟩
  | n + 1, hn => by
    obtain ⟨i1, i2, i3, i4, i5⟩ := auA_i h ha hs n (by omega)
    obtain ⟨p1, p2, p3, p4, p5⟩ := auP_i (s := s) (j := n) i1 ha (by omega)
    refine ⟨p1, p2.trans i2, fun k x k1 k2 k3 k4 => (p3 k x k1 k2 k3 k4).trans (i3 k x k1 k2 k3 k4), ?_, ?_⟩
    · show 0 ≤ (auA J a s n).1 + _
      omega
    · show (auA J a s n).1 + _ ≤ _
      omega
def auB (J : Int → Int → Int) (a : Int) : Nat → Int × (Int → Int → Int)
  | 0 => (0, J)
  | s + 1 => if J 22 (40 * a + s) = 0 then auB J a s else ((auB J a s).1 + (auA (auB J a s).2 a (40 * a + s) (J (-1) 3).toNat).1, (auA (auB J a s).2 a (40 * a + s) (J (-1) 3).toNat).2)
theorem auB_i {J : Int → Int → Int} {a : Int} (h : GI J) (ha : 0 ≤ a ∧ a ≤ 9) : ∀ n : Nat, n ≤ 40 → GI (auB J a n).2 ∧ (auB J a n).2 (-1) = J (-1) ∧ (∀ k x, k ≠ 31 → k ≠ 26 → k ≠ 25 → k ≠ 10 → (auB J a n).2 k x = J k x) ∧ 0 ≤ (auB J a n).1 ∧ (auB J a n).1 ≤ 12 * n
  | 0, _ => ⟨h, rfl, fun _ _ _ _ _ _ => rfl, Int.le_refl _, Int.le_refl _⟩
  | n + 1, hn => by
    obtain ⟨i1, i2, i3, i4, i5⟩ := auB_i h ha n (by omega)
    by_cases q : J 22 (40 * a + n) = 0
    · rw [show auB J a (n + 1) = auB J a n from if_pos q]
      exact ⟨i1, i2, i3, i4, by omega⟩
    · rw [show auB J a (n + 1) = ((auB J a n).1 + (auA (auB J a n).2 a (40 * a + n) (J (-1) 3).toNat).1, (auA (auB J a n).2 a (40 * a + n) (J (-1) 3).toNat).2) from if_neg q]
      have hN := h.2.1.2.1
      obtain ⟨p1, p2, p3, p4, p5⟩ := auA_i (s := 40 * a + n) i1 ha (by omega) (J (-1) 3).toNat (by omega)
      refine ⟨p1, p2.trans i2, fun k x k1 k2 k3 k4 => (p3 k x k1 k2 k3 k4).trans (i3 k x k1 k2 k3 k4), ?_, ?_⟩
      · show 0 ≤ (auB J a n).1 + _
        omega
      · show (auB J a n).1 + _ ≤ _
        omega
set_option maxHeartbeats 1000000 in
theorem m_audit {d : Nat} {K : Kt} {X : Xt} {J : Int → Int → Int} {ty : Nm → Nat} {ln : Nm → Int} {I : Nm → Int → Int} {R : Nm → Int → Option Nm} {c w : Nat} {a : Int} (h : MOk ty ln R) (hG : GI J) :
    Mth (d + 7) M_Mo_audit [vR (some [2]), vI a] (ty, ln, pJ I J, R, c, w) K X = (if ((0 ≤ a ∧ a ≤ 9) ∧ 0 < J 5 a) then (if J 7 a = 0 then K (some (vI ((auB (uJ J (-1) 0 0) a (J 20 a).toNat).1))) (ty, ln, pJ I ((auB (uJ J (-1) 0 0) a (J 20 a).toNat).2), R, c, w) else K (some (vI (0))) (ty, ln, pJ I (uJ J (-1) 0 2), R, c, w)) else K (some (vI (0))) (ty, ln, pJ I (uJ J (-1) 0 1), R, c, w)) := by
  have h0 := h.1
  have a6 := h.a6
  have a7 := h.a7
  have a20 := h.a20
  have a22 := h.a22
  have a25 := h.a25
  have a26 := h.a26
  by_cases q1 : ((0 ≤ a ∧ a ≤ 9) ∧ 0 < J 5 a)
  · by_cases q2 : J 7 a = 0
    · have d1 := hG.1.k20 a
      have hN := hG.2.1.2.1
      have hk := hG.2.1.1
      have hG' : GI (uJ J (-1) 0 0) := hG.u (Or.inl rfl) (Or.inr (Or.inl rfl)) (by decide)
      have eN : (uJ J (-1) 0 0) (-1) 3 = J (-1) 3 := by rw [uJ_self, upI_ne _ _ (by decide)]
      have key : ∀ q i : Nat, i + q = (J 20 a).toNat → ∀ u4 u5 u6, isLg u4 = false → isLg u5 = false → isLg u6 = false → Rn (d + 6) M_Mo_audit K X 42 [vR (some [2]), vI a, vI (auB (uJ J (-1) 0 0) a i).1, vI (40 * a + (i : Int)), u4, u5, u6] [] (ty, ln, pJ I (auB (uJ J (-1) 0 0) a i).2, R, c, w) = K (some (vI (auB (uJ J (-1) 0 0) a (J 20 a).toNat).1)) (ty, ln, pJ I (auB (uJ J (-1) 0 0) a (J 20 a).toNat).2, R, c, w) := by
        intro q
        induction q with
        | zero =>
          intro i hi u4 u5 u6 v4 v5 v6
          obtain ⟨i1, i2, i3, i4, i5⟩ := auB_i hG' q1.1 i (by omega)
          rw [b_Mo_audit_42 v4 v5 v6, and_t h0, h.e20, and_t ⟨Or.inl a20.2.1, by omega, by omega⟩, pJ_a (by decide), i3 20 _ (by decide) (by decide) (by decide) (by decide), uJ_ne (by decide), w32_id (x := 40 * a) (by omega) (by omega), w32_id (by omega) (by omega), if_pos (by omega), show i = (J 20 a).toNat by omega]
        | succ q ih =>
          intro i hi u4 u5 u6 v4 v5 v6
          obtain ⟨i1, i2, i3, i4, i5⟩ := auB_i hG' q1.1 i (by omega)
          have ih' := ih (i + 1) (by omega)
          have e9 : 40 * a + (i : Int) + 1 = 40 * a + ((i + 1 : Nat) : Int) := by omega
          have e22 : (auB (uJ J (-1) 0 0) a i).2 22 (40 * a + i) = J 22 (40 * a + i) := by rw [i3 22 _ (by decide) (by decide) (by decide) (by decide), uJ_ne (by decide)]
          rw [b_Mo_audit_42 v4 v5 v6, and_t h0, h.e20, and_t ⟨Or.inl a20.2.1, by omega, by omega⟩, pJ_a (by decide), i3 20 _ (by decide) (by decide) (by decide) (by decide), uJ_ne (by decide), w32_id (x := 40 * a) (by omega) (by omega), w32_id (x := 40 * a + J 20 a) (by omega) (by omega), if_neg (by omega)]
          by_cases q3 : J 22 (40 * a + i) = 0
          · rw [show auB (uJ J (-1) 0 0) a (i + 1) = auB (uJ J (-1) 0 0) a i from if_pos (by rw [uJ_ne (by decide)]; exact q3)] at ih'
            rw [b_Mo_audit_60 v5 v6, and_t h0, pJ_m, i2, eN, if_neg (by omega), and_t h0, h.e22, and_t ⟨a22.2.1, by omega, by omega⟩, pJ_a (by decide), e22, if_pos q3, b_Mo_audit_172 v5 v6, w32_id (by omega) (by omega), e9]
            exact ih' _ _ _ rfl v5 v6
          · rw [show auB (uJ J (-1) 0 0) a (i + 1) = ((auB (uJ J (-1) 0 0) a i).1 + (auA (auB (uJ J (-1) 0 0) a i).2 a (40 * a + i) ((uJ J (-1) 0 0) (-1) 3).toNat).1, (auA (auB (uJ J (-1) 0 0) a i).2 a (40 * a + i) ((uJ J (-1) 0 0) (-1) 3).toNat).2) from if_neg (by rw [uJ_ne (by decide)]; exact q3), eN] at ih'
            have inner : ∀ q j : Nat, j + q = (J (-1) 3).toNat → ∀ u5 u6, isLg u5 = false → isLg u6 = false → Rn (d + 6) M_Mo_audit K X 60 [vR (some [2]), vI a, vI ((auB (uJ J (-1) 0 0) a i).1 + (auA (auB (uJ J (-1) 0 0) a i).2 a (40 * a + i) j).1), vI (40 * a + (i : Int)), vI (j : Int), u5, u6] [] (ty, ln, pJ I (auA (auB (uJ J (-1) 0 0) a i).2 a (40 * a + i) j).2, R, c, w) = K (some (vI (auB (uJ J (-1) 0 0) a (J 20 a).toNat).1)) (ty, ln, pJ I (auB (uJ J (-1) 0 0) a (J 20 a).toNat).2, R, c, w) := by
              intro q
              induction q with
              | zero =>
                intro j hj u5 u6 v5 v6
                obtain ⟨p1, p2, p3, p4, p5⟩ := auA_i (s := 40 * a + i) i1 q1.1 (by omega) j (by omega)
                rw [b_Mo_audit_60 v5 v6, and_t h0, pJ_m, p2, i2, eN, if_pos (by omega), b_Mo_audit_172 v5 v6, w32_id (by omega) (by omega), e9, show j = (J (-1) 3).toNat by omega]
                exact ih' _ _ _ rfl v5 v6
              | succ q ih2 =>
                intro j hj u5 u6 v5 v6
                obtain ⟨p1, p2, p3, p4, p5⟩ := auA_i (s := 40 * a + i) i1 q1.1 (by omega) j (by omega)
                have ih3 := ih2 (j + 1) (by omega)
                obtain ⟨JJ, hJJ⟩ : ∃ x, x = auA (auB (uJ J (-1) 0 0) a i).2 a (40 * a + i) j := ⟨_, rfl⟩
                rw [show auA (auB (uJ J (-1) 0 0) a i).2 a (40 * a + i) (j + 1) = (JJ.1 + (auP JJ.2 a (40 * a + i) j).1, (auP JJ.2 a (40 * a + i) j).2) by rw [hJJ]; rfl] at ih3
                rw [← hJJ] at p1 p2 p3 p4 p5 ⊢
                have kb := p1.1.k25 (12 * (40 * a + i) + j)
                have e22' : JJ.2 22 (40 * a + i) = J 22 (40 * a + i) := by rw [p3 22 _ (by decide) (by decide) (by decide) (by decide), e22]
                rw [b_Mo_audit_60 v5 v6, and_t h0, pJ_m, p2, i2, eN, if_neg (by omega), and_t h0, h.e22, and_t ⟨a22.2.1, by omega, by omega⟩, pJ_a (by decide), e22', if_neg q3, and_t h0, h.e25, w32_id (x := 12 * (40 * a + (i : Int))) (by omega) (by omega), w32_id (x := 12 * (40 * a + (i : Int)) + (j : Int)) (by omega) (by omega), and_t ⟨Or.inl a25.2.1, by omega, by omega⟩, pJ_a (by decide)]
                have no : auP JJ.2 a (40 * a + i) j = (0, JJ.2) → Rn (d + 6) M_Mo_audit K X 116 [vR (some [2]), vI a, vI ((auB (uJ J (-1) 0 0) a i).1 + JJ.1), vI (40 * a + (i : Int)), vI (j : Int), vI (12 * (40 * a + (i : Int)) + (j : Int)), u6] [] (ty, ln, pJ I JJ.2, R, c, w) = K (some (vI (auB (uJ J (-1) 0 0) a (J 20 a).toNat).1)) (ty, ln, pJ I (auB (uJ J (-1) 0 0) a (J 20 a).toNat).2, R, c, w) := by
                  intro e
                  rw [e, Int.add_zero] at ih3
                  rw [b_Mo_audit_116 v6, b_Mo_audit_117 v6, if_pos rfl, b_Mo_audit_166, w32_id (by omega) (by omega)]
                  exact ih3 _ _ rfl rfl
                by_cases c1 : JJ.2 25 (12 * (40 * a + i) + j) < 0
                · rw [if_pos c1]
                  exact no (if_neg (fun z => by omega))
                · rw [if_neg c1, and_t h0, and_t h0, h.e25, and_t ⟨Or.inl a25.2.1, by omega, by omega⟩, h.e6, pJ_a (by decide), and_t ⟨a6.2.1, by omega, by omega⟩, pJ_a (by decide)]
                  by_cases c2 : JJ.2 6 (JJ.2 25 (12 * (40 * a + i) + j)) = 0
                  · rw [if_pos c2]
                    exact no (if_neg (fun z => z.2 c2))
                  · have look : 0 ≤ JJ.2 25 (12 * (40 * a + i) + j) ∧ JJ.2 6 (JJ.2 25 (12 * (40 * a + i) + j)) ≠ 0 := ⟨by omega, c2⟩
                    rw [if_neg c2, b_Mo_audit_117 v6, if_neg (by decide), and_t h0, h.e26, and_t ⟨a26.2.1, by omega, by omega⟩, pJ_a (by decide)]
                    have yes : ∀ J2, GI J2 → auP JJ.2 a (40 * a + i) j = (1, uJ (loseJ J2 a (12 * (40 * a + i) + j)) 25 (12 * (40 * a + i) + j) (-1)) → Rn (d + 6) M_Mo_audit K X 148 [vR (some [2]), vI a, vI ((auB (uJ J (-1) 0 0) a i).1 + JJ.1), vI (40 * a + (i : Int)), vI (j : Int), vI (12 * (40 * a + (i : Int)) + (j : Int)), vI 1] [] (ty, ln, pJ I J2, R, c, w) = K (some (vI (auB (uJ J (-1) 0 0) a (J 20 a).toNat).1)) (ty, ln, pJ I (auB (uJ J (-1) 0 0) a (J 20 a).toNat).2, R, c, w) := by
                      intro J2 g2 e
                      rw [e] at ih3
                      rw [b_Mo_audit_148, and_t h0, m_lose h (by omega) q1.1 (g2.1.k25 _).2 g2.1.k10]
                      refine b_Mo_audit_155.trans ?_
                      rw [and_t h0, h.e25, and_t ⟨a25.2.1, rfl, by omega, by omega⟩, up_a (by decide), w32_id (by omega) (by omega), b_Mo_audit_166, w32_id (by omega) (by omega), Int.add_assoc]
                      exact ih3 _ _ rfl rfl
                    by_cases c3 : JJ.2 26 (12 * (40 * a + i) + j) = 0
                    · rw [if_pos c3]
                      exact yes JJ.2 p1 (by unfold auP; rw [if_pos look, if_pos c3])
                    · rw [if_neg c3, and_t h0, and_t h0, h.a24.1, m_isRight h (Or.inr rfl) (by omega) (by omega) p1.1 p1.2.1]
                      refine b_Mo_audit_145.trans ?_
                      by_cases c4 : rtJ JJ.2 24 (40 * a + i) j = 0
                      · rw [if_neg (fun z => z c4)]
                        exact yes _ p1.mp (by unfold auP; rw [if_pos look, if_neg c3, if_neg (fun z => z c4)])
                      · rw [if_pos c4, b_Mo_audit_166, w32_id (by omega) (by omega)]
                        rw [show auP JJ.2 a (40 * a + i) j = (0, mpJ JJ.2 24 (40 * a + i) j) by unfold auP; rw [if_pos look, if_neg c3, if_pos c4], Int.add_zero] at ih3
                        exact ih3 _ _ rfl rfl
            have k1 := inner (J (-1) 3).toNat 0 (Nat.zero_add _) u5 u6 v5 v6
            rw [show (auB (uJ J (-1) 0 0) a i).1 + (auA (auB (uJ J (-1) 0 0) a i).2 a (40 * a + i) 0).1 = (auB (uJ J (-1) 0 0) a i).1 from Int.add_zero _] at k1
            exact k1
      have k0 := key (J 20 a).toNat 0 (Nat.zero_add _) vJ vJ vJ rfl rfl rfl
      rw [show (40 * a + ((0 : Nat) : Int)) = 40 * a by omega] at k0
      simp (disch := omega) only [in_Mo_audit, b_Mo_audit_0, b_Mo_audit_6, b_Mo_audit_27, b_Mo_audit_30, m_isHouse h, m_refused h, ↓h.e7, Option.toList_some, Option.toList_none, List.cons_append, List.nil_append, ↓if_pos, ↓if_neg, ↓and_t, pJ_a, pJ_m, up_a, up_m, Option.some.injEq, exists_eq_left', wr_a, wr_m, true_and, and_true, not_true_eq_false, not_false_eq_true, if_true, if_false, or_true, true_or, uJ_self, uJ_ne, upI_self, upI_ne, w32_id, reduceCtorEq, ne_eq, wJ_ne, wJ_out]
      exact k0
    · simp (disch := omega) only [in_Mo_audit, b_Mo_audit_0, b_Mo_audit_6, b_Mo_audit_27, b_Mo_audit_30, m_isHouse h, m_refused h, ↓h.e7, Option.toList_some, Option.toList_none, List.cons_append, List.nil_append, ↓if_pos, ↓if_neg, ↓and_t, pJ_a, pJ_m, up_a, up_m, Option.some.injEq, exists_eq_left', wr_a, wr_m, true_and, and_true, not_true_eq_false, not_false_eq_true, if_true, if_false, or_true, true_or, uJ_self, uJ_ne, upI_self, upI_ne, w32_id, reduceCtorEq, ne_eq, wJ_ne, wJ_out]
  · rw [if_neg q1]
    exact n_audit h q1
