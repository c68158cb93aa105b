/-! ===== the reference: repair ===== -/
/-- no pivot is 0 (proved below, of the factors alone) -/
def PVok : Prop := ∀ (J : Int → Int → Int) (s : Int), SC J → J (-1) 2 ≤ cntR J s (J (-1) 3).toNat → ∀ i : Nat, (i : Int) < J (-1) 2 → elA (sysA J s (J (-1) 2) (selJ J s (J (-1) 2).toNat (J (-1) 3).toNat)) i i i ≠ 0
theorem solJ_m {J : Int → Int → Int} {s : Int} : solJ J s (-1) = J (-1) := by
  unfold solJ
  rw [wJ_m (by decide)]
  funext x
  exact mx_o (by decide) (by decide)
theorem solJ_o {J : Int → Int → Int} {s k x : Int} (h : k ≠ 32 ∧ k ≠ 33 ∧ k ≠ 34) : solJ J s k x = J k x := by
  unfold solJ
  rw [wJ_ne h.2.1, mx_o h.1 h.2.2]
theorem solE_g {J : Int → Int → Int} {s : Int} (h : MR J) (hS : SC J) : rg8 (solE J s) (J (-1) 2) (60 / J (-1) 2) := by
  have lr := l_rg hS.1 rfl
  have := hS.1
  exact elA_g (by omega) (sys_g h) _ (by omega)
theorem sol_ix {k l x : Int} (hk : 2 ≤ k ∧ k ≤ 6) (hl : l = 60 / k) (hx : 0 ≤ x ∧ x < 60) : 0 ≤ x / l ∧ x / l < k ∧ 0 ≤ x % l ∧ x % l < l := by
  have : k = 2 ∨ k = 3 ∨ k = 4 ∨ k = 5 ∨ k = 6 := by omega
  rcases this with rfl | rfl | rfl | rfl | rfl
  · rw [show l = 30 from hl]; omega
  · rw [show l = 20 from hl]; omega
  · rw [show l = 15 from hl]; omega
  · rw [show l = 12 from hl]; omega
  · rw [show l = 10 from hl]; omega
theorem solJ_33 {J : Int → Int → Int} {s x : Int} (hx : 0 ≤ x ∧ x < 60) : solJ J s 33 x = solE J s (x / (60 / J (-1) 2)) (J (-1) 2 + x % (60 / J (-1) 2)) := wJ_in hx
theorem GI.sol {J : Int → Int → Int} {s : Int} (h : GI J) : GI (solJ J s) := by
  have hk := h.2.1.1
  have lr := l_rg hk rfl
  have g := solE_g (s := s) h.1 h.2.1
  refine ⟨?_, h.2.1.m solJ_m, h.2.2.keep (fun x _ _ => solJ_o (by decide)) (fun p => ⟨solJ_o (by decide), solJ_o (by decide)⟩)⟩
  unfold solJ
  have m : MR (mxJ J (J (-1) 2) (60 / J (-1) 2) (solE J s)) := by
    intro q j a b c d
    unfold mxJ
    by_cases c1 : q = 32 ∧ 0 ≤ j ∧ j < 6 * J (-1) 2 ∧ j % 6 < J (-1) 2
    · rw [if_pos c1, c1.1]
      have := g (j / 6) (j % 6) (by omega) (by omega) (by omega) (by omega)
      exact ⟨this.1, by show _ ≤ (255 : Int); omega⟩
    · rw [if_neg c1]
      by_cases c2 : q = 34 ∧ 0 ≤ j ∧ j < 30 * J (-1) 2 ∧ j % 30 < 60 / J (-1) 2
      · rw [if_pos c2, c2.1]
        have := g (j / 30) (J (-1) 2 + j % 30) (by omega) (by omega) (by omega) (by omega)
        exact ⟨this.1, by show _ ≤ (255 : Int); omega⟩
      · rw [if_neg c2]
        exact h.1 q j a b c d
  refine m.w (fun x x0 x1 => ?_)
  obtain ⟨y1, y2, y3, y4⟩ := sol_ix hk rfl ⟨x0, x1⟩
  have := g (x / (60 / J (-1) 2)) (J (-1) 2 + x % (60 / J (-1) 2)) y1 y2 (by omega) (by omega)
  exact ⟨this.1, by show _ ≤ (255 : Int); omega⟩
/-- a segment that is not held is solved, if it can be -/
def reJ (J : Int → Int → Int) (s : Int) : Int → Int → Int := if J 22 s = 0 ∧ J (-1) 2 ≤ cntR J s (J (-1) 3).toNat then uJ (wJ (solJ J s) 24 (60 * s) (60 * s + 60) (fun x => solJ J s 33 (x - 60 * s))) 22 s 1 else J
theorem reJ_m {J : Int → Int → Int} {s : Int} : reJ J s (-1) = J (-1) := by
  unfold reJ
  split
  · rw [uJ_m (by decide), wJ_m (by decide), solJ_m]
  · rfl
theorem GI.re {J : Int → Int → Int} {s : Int} (h : GI J) : GI (reJ J s) := by
  unfold reJ
  split
  · refine (GI.w (k := 24) h.sol (fun x _ _ => ?_) (by decide)).u (Or.inr ⟨by decide, by decide⟩) (Or.inl (by decide)) (by decide)
    have := (h.sol (s := s)).1.k33 (x - 60 * s)
    exact ⟨this.1, this.2⟩
  · exact h
/-- the first n pieces of a segment that a house that is up does not have are struck out -/
def unJ (J : Int → Int → Int) (s : Int) : Nat → Int → Int → Int
  | 0 => J
  | j + 1 => if 0 ≤ unJ J s j 25 (12 * s + j) ∧ unJ J s j 6 (unJ J s j 25 (12 * s + j)) ≠ 0 ∧ unJ J s j 26 (12 * s + j) = 0 then uJ (unJ J s j) 25 (12 * s + j) (-1) else unJ J s j
theorem unJ_i {J : Int → Int → Int} {a s : Int} (h : GI J) (ha : 0 ≤ a ∧ a ≤ 9) (hs : 40 * a ≤ s ∧ s < 40 * a + 40) : ∀ n : Nat, n ≤ 12 → GI (unJ J s n) ∧ unJ J s n (-1) = J (-1) ∧ ∀ k x, k ≠ 25 → unJ J s n k x = J k x
  | 0, _ => ⟨h, rfl, fun _ _ _ => rfl⟩
  | n + 1, hn => by
    obtain ⟨i1, i2, i3⟩ := unJ_i h ha hs n (by omega)
    by_cases q : 0 ≤ unJ J s n 25 (12 * s + n) ∧ unJ J s n 6 (unJ J s n 25 (12 * s + n)) ≠ 0 ∧ unJ J s n 26 (12 * s + n) = 0
    · rw [show unJ J s (n + 1) = uJ (unJ J s n) 25 (12 * s + n) (-1) from if_pos q]
      exact ⟨i1.unbook ha (by omega) q.2.2, by rw [uJ_m (by decide), i2], fun k x hk => by rw [uJ_ne hk]; exact i3 k x hk⟩
    · rw [show unJ J s (n + 1) = unJ J s n from if_neg q]
      exact ⟨i1, i2, i3⟩
def roJ (J : Int → Int → Int) (a s : Int) : Int × (Int → Int → Int) := if reJ J s 22 s = 0 then (0, reJ J s) else plA (unJ (reJ J s) s (J (-1) 3).toNat) a s (J (-1) 3).toNat
theorem plA_g {J : Int → Int → Int} {a s : Int} (h : GI J) (ha : 0 ≤ a ∧ a ≤ 9) (hs : 40 * a ≤ s ∧ s < 40 * a + 40) : ∀ n : Nat, n ≤ 12 → GI (plA J a s n).2
  | 0, _ => h
  | n + 1, hn => by
    have i1 := plA_g h ha hs n (by omega)
    by_cases q : (plA J a s n).2 25 (12 * s + n) < 0
    · rw [show plA J a s (n + 1) = ((plA J a s n).1 + (if bestJ (plA J a s n).2 a s 10 < 0 then 0 else 1), plJ (plA J a s n).2 a s n) from if_pos q]
      exact plJ_g i1 ha (by omega) q
    · rw [show plA J a s (n + 1) = plA J a s n from if_neg q]
      exact i1
theorem roJ_i {J : Int → Int → Int} {a s : Int} (h : GI J) (ha : 0 ≤ a ∧ a ≤ 9) (hs : 40 * a ≤ s ∧ s < 40 * a + 40) : GI (roJ J a s).2 ∧ (roJ J a s).2 (-1) = J (-1) ∧ 0 ≤ (roJ J a s).1 ∧ (roJ J a s).1 ≤ 12 ∧ (∀ x, (roJ J a s).2 20 x = J 20 x ∧ (roJ J a s).2 21 x = J 21 x) := by
  have hN := h.2.1.2.1
  have e20 : ∀ k x, k = 20 ∨ k = 21 → reJ J s k x = J k x := fun k x hk => by
    unfold reJ
    split
    · rw [uJ_ne (by omega), wJ_ne (by omega), solJ_o (by omega)]
    · rfl
  unfold roJ
  by_cases q : reJ J s 22 s = 0
  · rw [if_pos q]
    exact ⟨h.re, reJ_m, Int.le_refl _, by show (0 : Int) ≤ 12; decide, fun x => ⟨e20 20 x (Or.inl rfl), e20 21 x (Or.inr rfl)⟩⟩
  · rw [if_neg q]
    obtain ⟨u1, u2, u3⟩ := unJ_i (a := a) (s := s) (h.re (s := s)) ha hs (J (-1) 3).toNat (by omega)
    obtain ⟨p1, p2, p3, p4⟩ := plA_i (a := a) (s := s) u1.1 u1.2.1 (J (-1) 3).toNat
    exact ⟨plA_g u1 ha hs _ (by omega), (p2.trans u2).trans reJ_m, p3, by omega, fun x => ⟨by rw [plA_o (by decide), u3 20 x (by decide), e20 20 x (Or.inl rfl)], by rw [plA_o (by decide), u3 21 x (by decide), e20 21 x (Or.inr rfl)]⟩⟩
theorem m_repairOne {d : Nat} {K : Kt} {X : Xt} {J : Int → Int → Int} {ty : Nm → Nat} {ln : Nm → Int} {I : Nm → Int → Int} {R : Nm → Int → Option Nm} {c w : Nat} {a s : Int} (h : MOk ty ln R) (hpv : PVok) (hG : GI J) (a0 : 0 ≤ a ∧ a ≤ 9) (s0 : 40 * a ≤ s ∧ s < 40 * a + 40) :
    Mth (d + 7) M_Mo_repairOne [vR (some [2]), vI a, vI s] (ty, ln, pJ I J, R, c, w) K X = K (some (vI ((roJ J a s).1))) (ty, ln, pJ I ((roJ J a s).2), R, c, w) := by
  have h0 := h.1
  have a6 := h.a6
  have a22 := h.a22
  have a24 := h.a24
  have a25 := h.a25
  have a26 := h.a26
  have a33 := h.a33
  have hN := hG.2.1.2.1
  have hk := hG.2.1.1
  -- from 64 on
  have back : ∀ J1, GI J1 → J1 (-1) = J (-1) → ∀ u3, isLg u3 = false → Rn (d + 6) M_Mo_repairOne K X 64 [vR (some [2]), vI a, vI s, u3] [] (ty, ln, pJ I J1, R, c, w) = (if J1 22 s = 0 then K (some (vI 0)) (ty, ln, pJ I J1, R, c, w) else K (some (vI (plA (unJ J1 s (J (-1) 3).toNat) a s (J (-1) 3).toNat).1)) (ty, ln, pJ I (plA (unJ J1 s (J (-1) 3).toNat) a s (J (-1) 3).toNat).2, R, c, w)) := by
    intro J1 g1 e1 u3 v3
    rw [b_Mo_repairOne_64 v3, and_t h0, h.e22, and_t ⟨a22.2.1, by omega, by omega⟩, pJ_a (by decide)]
    by_cases q : J1 22 s = 0
    · rw [if_neg (fun z => z q), if_pos q]
    · rw [if_pos q, if_neg q, w32_id (x := 12 * s) (by omega) (by omega)]
      have key : ∀ q i : Nat, i + q = (J (-1) 3).toNat → Rn (d + 6) M_Mo_repairOne K X 80 [vR (some [2]), vI a, vI s, vI (12 * s + (i : Int))] [] (ty, ln, pJ I (unJ J1 s i), R, c, w) = K (some (vI (plA (unJ J1 s (J (-1) 3).toNat) a s (J (-1) 3).toNat).1)) (ty, ln, pJ I (plA (unJ J1 s (J (-1) 3).toNat) a s (J (-1) 3).toNat).2, R, c, w) := by
        intro q
        induction q with
        | zero =>
          intro i hi
          obtain ⟨i1, i2, i3⟩ := unJ_i g1 a0 s0 i (by omega)
          rw [b_Mo_repairOne_80, and_t h0, pJ_m, i2, e1, w32_id (x := 12 * s) (by omega) (by omega), w32_id (by omega) (by omega), if_pos (by omega), and_t h0, m_placeAll h i1.1 i1.2.1 a0 (by omega), i2, e1, show i = (J (-1) 3).toNat by omega]
          exact b_Mo_repairOne_144
        | succ q ih =>
          intro i hi
          obtain ⟨i1, i2, i3⟩ := unJ_i g1 a0 s0 i (by omega)
          have kb := i1.1.k25 (12 * s + i)
          have ih' := ih (i + 1) (by omega)
          have e9 : 12 * s + (i : Int) + 1 = 12 * s + ((i + 1 : Nat) : Int) := by omega
          rw [b_Mo_repairOne_80, and_t h0, pJ_m, i2, e1, w32_id (x := 12 * s) (by omega) (by omega), w32_id (x := 12 * s + J (-1) 3) (by omega) (by omega), if_neg (by omega), and_t h0, h.e25, and_t ⟨Or.inl a25.2.1, by omega, by omega⟩, pJ_a (by decide)]
          have no : ¬ (0 ≤ unJ J1 s i 25 (12 * s + i) ∧ unJ J1 s i 6 (unJ J1 s i 25 (12 * s + i)) ≠ 0 ∧ unJ J1 s i 26 (12 * s + i) = 0) → Rn (d + 6) M_Mo_repairOne K X 132 [vR (some [2]), vI a, vI s, vI (12 * s + (i : Int))] [] (ty, ln, pJ I (unJ J1 s i), R, c, w) = K (some (vI (plA (unJ J1 s (J (-1) 3).toNat) a s (J (-1) 3).toNat).1)) (ty, ln, pJ I (plA (unJ J1 s (J (-1) 3).toNat) a s (J (-1) 3).toNat).2, R, c, w) := by
            intro z
            rw [show unJ J1 s (i + 1) = unJ J1 s i from if_neg z] at ih'
            rw [b_Mo_repairOne_132, w32_id (by omega) (by omega), e9]
            exact ih'
          by_cases c1 : unJ J1 s i 25 (12 * s + i) < 0
          · rw [if_pos c1]
            exact no (fun z => by omega)
          · rw [if_neg c1, and_t h0, and_t h0, h.e25, and_t ⟨Or.inl a25.2.1, by omega, by omega⟩, h.e6, pJ_a (by decide), and_t ⟨a6.2.1, by omega, by omega⟩, pJ_a (by decide)]
            by_cases c2 : unJ J1 s i 6 (unJ J1 s i 25 (12 * s + i)) = 0
            · rw [if_pos c2]
              exact no (fun z => z.2.1 c2)
            · rw [if_neg c2, and_t h0, h.e26, and_t ⟨a26.2.1, by omega, by omega⟩, pJ_a (by decide)]
              by_cases c3 : unJ J1 s i 26 (12 * s + i) = 0
              · rw [if_neg (fun z => z c3), and_t h0, h.e25, and_t ⟨a25.2.1, rfl, by omega, by omega⟩, up_a (by decide), b_Mo_repairOne_132, w32_id (by omega) (by omega), e9]
                rw [show unJ J1 s (i + 1) = uJ (unJ J1 s i) 25 (12 * s + i) (-1) from if_pos ⟨by omega, c2, c3⟩] at ih'
                exact ih'
              · rw [if_pos c3]
                exact no (fun z => c3 z.2.2)
      have k0 := key (J (-1) 3).toNat 0 (Nat.zero_add _)
      rw [show 12 * s + ((0 : Nat) : Int) = 12 * s by omega] at k0
      exact k0
  have fin : ∀ u3, isLg u3 = false → Rn (d + 6) M_Mo_repairOne K X 64 [vR (some [2]), vI a, vI s, u3] [] (ty, ln, pJ I (reJ J s), R, c, w) = K (some (vI (roJ J a s).1)) (ty, ln, pJ I (roJ J a s).2, R, c, w) := by
    intro u3 v3
    rw [back (reJ J s) hG.re reJ_m u3 v3]
    unfold roJ
    by_cases q : reJ J s 22 s = 0
    · rw [if_pos q, if_pos q]
    · rw [if_neg q, if_neg q]
  rw [in_Mo_repairOne, b_Mo_repairOne_0, and_t h0, h.e22, and_t ⟨a22.2.1, by omega, by omega⟩, pJ_a (by decide)]
  by_cases c1 : J 22 s = 0
  · rw [if_neg (fun z => z c1), and_t h0, m_reachable h (by omega) (by omega) (fun p => (hG.1.k25 p).2)]
    refine b_Mo_repairOne_14.trans ?_
    rw [and_t h0, pJ_m]
    by_cases c2 : cntR J s (J (-1) 3).toNat < J (-1) 2
    · rw [if_pos c2]
      have := fin vJ rfl
      rw [show reJ J s = J from if_neg (fun z => by omega)] at this
      exact this
    · rw [if_neg c2, and_t h0, m_solve h hG.1 hG.2.1 (by omega) (by omega) (hpv J s hG.2.1 (by omega))]
      refine b_Mo_repairOne_26.trans ?_
      have key : ∀ q i : Nat, i + q = 60 → Rn (d + 6) M_Mo_repairOne K X 28 [vR (some [2]), vI a, vI s, vI (i : Int)] [] (ty, ln, pJ I (wJ (solJ J s) 24 (60 * s) (60 * s + i) (fun x => solJ J s 33 (x - 60 * s))), R, c, w) = K (some (vI (roJ J a s).1)) (ty, ln, pJ I (roJ J a s).2, R, c, w) := by
        intro q
        induction q with
        | zero =>
          intro i hi
          have := fin (vI (i : Int)) rfl
          rw [show reJ J s = uJ (wJ (solJ J s) 24 (60 * s) (60 * s + 60) (fun x => solJ J s 33 (x - 60 * s))) 22 s 1 from if_pos ⟨c1, by omega⟩] at this
          rw [b_Mo_repairOne_28, if_pos (by omega), and_t h0, h.e22, and_t ⟨a22.2.1, rfl, by omega, by omega, Or.inr rfl⟩, up_a (by decide)]
          rw [show (i : Int) = 60 by omega] at this ⊢
          exact this
        | succ q ih =>
          intro i hi
          rw [b_Mo_repairOne_28, if_neg (by omega), and_t h0, and_t h0, h.e33, and_t ⟨Or.inl a33.2.1, by omega, by omega⟩, h.e24, w32_id (x := 60 * s) (by omega) (by omega), w32_id (x := 60 * s + (i : Int)) (by omega) (by omega), and_t ⟨a24.2.1, rfl, by omega, by omega⟩, pJ_a (by decide), wJ_ne (by decide), up_a (by decide), wJ_up (by omega) (by rw [show 60 * s + (i : Int) - 60 * s = i by omega]), w32_id (by omega) (by omega), Int.add_assoc]
          exact ih (i + 1) (by omega)
      have k0 := key 60 0 rfl
      rw [show 60 * s + ((0 : Nat) : Int) = 60 * s by omega, wJ_nil (by omega)] at k0
      exact k0
  · rw [if_pos c1]
    have := fin vJ rfl
    rw [show reJ J s = J from if_neg (fun z => c1 z.1)] at this
    exact this
def rpA (J : Int → Int → Int) (a : Int) : Nat → Int × (Int → Int → Int)
  | 0 => (0, J)
  | s + 1 => if J 21 (40 * a + s) = 0 then ((rpA J a s).1 + (roJ (rpA J a s).2 a (40 * a + s)).1, (roJ (rpA J a s).2 a (40 * a + s)).2) else rpA J a s
theorem rpA_i {J : Int → Int → Int} {a : Int} (h : GI J) (ha : 0 ≤ a ∧ a ≤ 9) : ∀ n : Nat, n ≤ 40 → GI (rpA J a n).2 ∧ (rpA J a n).2 (-1) = J (-1) ∧ 0 ≤ (rpA J a n).1 ∧ (rpA J a n).1 ≤ 12 * n ∧ (∀ x, (rpA J a n).2 20 x = J 20 x ∧ (rpA J a n).2 21 x = J 21 x)
  | 0, _ => ⟨h, rfl, Int.le_refl _, Int.le_refl _, fun _ => ⟨rfl, rfl⟩⟩
  | n + 1, hn => by
    obtain ⟨i1, i2, i3, i4, i5⟩ := rpA_i h ha n (by omega)
    by_cases q : J 21 (40 * a + n) = 0
    · rw [show rpA J a (n + 1) = ((rpA J a n).1 + (roJ (rpA J a n).2 a (40 * a + n)).1, (roJ (rpA J a n).2 a (40 * a + n)).2) from if_pos q]
      obtain ⟨p1, p2, p3, p4, p5⟩ := roJ_i (s := 40 * a + n) i1 ha (by omega)
      refine ⟨p1, p2.trans i2, ?_, ?_, fun x => ⟨(p5 x).1.trans (i5 x).1, (p5 x).2.trans (i5 x).2⟩⟩
      · show 0 ≤ (rpA J a n).1 + _
        omega
      · show (rpA J a n).1 + _ ≤ _
        omega
    · rw [show rpA J a (n + 1) = rpA J a n from if_neg q]
      exact ⟨i1, i2, i3, by omega, i5⟩
theorem m_repair {d : Nat} {K : Kt} {X : Xt} {J : Int → Int → Int} {ty : Nm → Nat} {ln : Nm → Int} {I : Nm → Int → Int} {R : Nm → Int → Option Nm} {c w : Nat} {a : Int} (h : MOk ty ln R) (hpv : PVok) (hG : GI J) :
    Mth (d + 8) M_Mo_repair [vR (some [2]), vI a] (ty, ln, pJ I J, R, c, w) K X = (if ((0 ≤ a ∧ a ≤ 9) ∧ 0 < J 5 a) then (if J 7 a = 0 ∧ J 6 a ≠ 0 then K (some (vI ((rpA (uJ J (-1) 0 0) a (J 20 a).toNat).1))) (ty, ln, pJ I ((rpA (uJ J (-1) 0 0) a (J 20 a).toNat).2), R, c, w) else K (some (vI (0))) (ty, ln, pJ I (uJ J (-1) 0 2), R, c, w)) else K (some (vI (0))) (ty, ln, pJ I (uJ J (-1) 0 1), R, c, w)) := by
  have h0 := h.1
  have a6 := h.a6
  have a7 := h.a7
  have a20 := h.a20
  have a21 := h.a21
  by_cases q1 : ((0 ≤ a ∧ a ≤ 9) ∧ 0 < J 5 a)
  · by_cases q2 : J 7 a = 0 ∧ J 6 a ≠ 0
    · have d1 := hG.1.k20 a
      have hG' : GI (uJ J (-1) 0 0) := hG.u (Or.inl rfl) (Or.inr (Or.inl rfl)) (by decide)
      have key : ∀ q i : Nat, i + q = (J 20 a).toNat → Rn (d + 7) M_Mo_repair K X 51 [vR (some [2]), vI a, vI (rpA (uJ J (-1) 0 0) a i).1, vI (40 * a + (i : Int))] [] (ty, ln, pJ I (rpA (uJ J (-1) 0 0) a i).2, R, c, w) = K (some (vI (rpA (uJ J (-1) 0 0) a (J 20 a).toNat).1)) (ty, ln, pJ I (rpA (uJ J (-1) 0 0) a (J 20 a).toNat).2, R, c, w) := by
        intro q
        induction q with
        | zero =>
          intro i hi
          obtain ⟨i1, i2, i3, i4, i5⟩ := rpA_i hG' q1.1 i (by omega)
          rw [b_Mo_repair_51, and_t h0, h.e20, and_t ⟨Or.inl a20.2.1, by omega, by omega⟩, pJ_a (by decide), (i5 a).1, uJ_ne (by decide), w32_id (x := 40 * a) (by omega) (by omega), w32_id (by omega) (by omega), if_pos (by omega), show i = (J 20 a).toNat by omega]
        | succ q ih =>
          intro i hi
          obtain ⟨i1, i2, i3, i4, i5⟩ := rpA_i hG' q1.1 i (by omega)
          obtain ⟨p1, p2, p3, p4, p5⟩ := roJ_i (s := 40 * a + i) i1 q1.1 (by omega)
          have ih' := ih (i + 1) (by omega)
          have e9 : 40 * a + (i : Int) + 1 = 40 * a + ((i + 1 : Nat) : Int) := by omega
          have e21 : (uJ J (-1) 0 0) 21 (40 * a + i) = J 21 (40 * a + i) := by rw [uJ_ne (by decide)]
          rw [b_Mo_repair_51, and_t h0, h.e20, and_t ⟨Or.inl a20.2.1, by omega, by omega⟩, pJ_a (by decide), (i5 a).1, uJ_ne (by decide), w32_id (x := 40 * a) (by omega) (by omega), w32_id (x := 40 * a + J 20 a) (by omega) (by omega), if_neg (by omega), and_t h0, h.e21, and_t ⟨a21.2.1, by omega, by omega⟩, pJ_a (by decide), (i5 _).2, e21]
          by_cases q3 : J 21 (40 * a + i) = 0
          · rw [show rpA (uJ J (-1) 0 0) a (i + 1) = ((rpA (uJ J (-1) 0 0) a i).1 + (roJ (rpA (uJ J (-1) 0 0) a i).2 a (40 * a + i)).1, (roJ (rpA (uJ J (-1) 0 0) a i).2 a (40 * a + i)).2) from if_pos (by rw [e21]; exact q3)] at ih'
            rw [if_neg (fun z => z q3), and_t h0, m_repairOne h hpv i1 q1.1 (by omega)]
            refine b_Mo_repair_82.trans ?_
            rw [w32_id (x := (rpA (uJ J (-1) 0 0) a i).1 + (roJ (rpA (uJ J (-1) 0 0) a i).2 a (40 * a + i)).1) (by omega) (by omega), b_Mo_repair_84, w32_id (by omega) (by omega), e9]
            exact ih'
          · rw [show rpA (uJ J (-1) 0 0) a (i + 1) = rpA (uJ J (-1) 0 0) a i from if_neg (by rw [e21]; exact q3)] at ih'
            rw [if_pos q3, b_Mo_repair_84, w32_id (by omega) (by omega), e9]
            exact ih'
      have k0 := key (J 20 a).toNat 0 (Nat.zero_add _)
      rw [show (40 * a + ((0 : Nat) : Int)) = 40 * a by omega] at k0
      simp (disch := omega) only [in_Mo_repair, b_Mo_repair_0, b_Mo_repair_6, b_Mo_repair_31, b_Mo_repair_36, b_Mo_repair_39, m_isHouse h, m_refused h, ↓h.e6, ↓h.e7, Option.toList_some, Option.toList_none, List.cons_append, List.nil_append, ↓if_pos, ↓if_neg, ↓and_t, pJ_a, pJ_m, up_a, up_m, Option.some.injEq, exists_eq_left', wr_a, wr_m, true_and, and_true, not_true_eq_false, not_false_eq_true, if_true, if_false, or_true, true_or, uJ_self, uJ_ne, upI_self, upI_ne, w32_id, reduceCtorEq, ne_eq, wJ_ne, wJ_out]
      exact k0
    · by_cases q3 : J 7 a = 0
      · simp (disch := omega) only [in_Mo_repair, b_Mo_repair_0, b_Mo_repair_6, b_Mo_repair_31, b_Mo_repair_36, b_Mo_repair_39, m_isHouse h, m_refused h, ↓h.e6, ↓h.e7, Option.toList_some, Option.toList_none, List.cons_append, List.nil_append, ↓if_pos, ↓if_neg, ↓and_t, pJ_a, pJ_m, up_a, up_m, Option.some.injEq, exists_eq_left', wr_a, wr_m, true_and, and_true, not_true_eq_false, not_false_eq_true, if_true, if_false, or_true, true_or, uJ_self, uJ_ne, upI_self, upI_ne, w32_id, reduceCtorEq, ne_eq, wJ_ne, wJ_out]
      · simp (disch := omega) only [in_Mo_repair, b_Mo_repair_0, b_Mo_repair_6, b_Mo_repair_31, b_Mo_repair_36, b_Mo_repair_39, m_isHouse h, m_refused h, ↓h.e6, ↓h.e7, Option.toList_some, Option.toList_none, List.cons_append, List.nil_append, ↓if_pos, ↓if_neg, ↓and_t, pJ_a, pJ_m, up_a, up_m, Option.some.injEq, exists_eq_left', wr_a, wr_m, true_and, and_true, not_true_eq_false, not_false_eq_true, if_true, if_false, or_true, true_or, uJ_self, uJ_ne, upI_self, upI_ne, w32_id, reduceCtorEq, ne_eq, wJ_ne, wJ_out]
  · rw [if_neg q1]
    exact n_repair h q1
