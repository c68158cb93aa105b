/-! ===== class and reference side by side: what does not belong to a house ===== -/
def RG (J : Int → Int → Int) (ty : Nm → Nat) (ln : Nm → Int) (I : Nm → Int → Int) (R : Nm → Int → Option Nm) : Prop :=
  FS ty ln R ∧ CdS ty ln R ∧ CV I ∧ (I [17] 3 = J (-1) 2 ∧ I [17] 4 = J (-1) 3 ∧ I [17] 5 = 60 / J (-1) 2) ∧ (I [1] 6 = J (-1) 35 ∧ I [1] 7 = J (-1) 4 ∧ I [1] 8 = J (-1) 1) ∧ (∀ i : Int, 0 ≤ i → i < J (-1) 35 → I [1, 3] i = J 36 i) ∧ (∀ a : Int, 0 ≤ a → a ≤ 9 → R [1, 0] a = if 0 < J 5 a then some [4, a] else none) ∧ ((2 ≤ J (-1) 2 ∧ J (-1) 2 ≤ 6) ∧ (J (-1) 2 ≤ J (-1) 3 ∧ J (-1) 3 ≤ 12) ∧ (0 ≤ J (-1) 35 ∧ J (-1) 35 ≤ 200) ∧ (J (-1) 4 = 0 ∨ J (-1) 4 = 1) ∧ (0 ≤ J (-1) 1 ∧ J (-1) 1 ≤ 10000))
theorem RG.no {J : Int → Int → Int} {ty : Nm → Nat} {ln : Nm → Int} {I : Nm → Int → Int} {R : Nm → Int → Option Nm} (h : RG J ty ln I R) {a : Int} (hn : ¬ ((0 ≤ a ∧ a ≤ 9) ∧ 0 < J 5 a)) : hsAt R [1, 0] a = none := by
  unfold hsAt
  by_cases q : 0 ≤ a ∧ a ≤ 9
  · rw [if_pos q, h.2.2.2.2.2.2.1 a q.1 q.2, if_neg (fun z => hn ⟨q, z⟩)]
  · rw [if_neg q]
theorem RG.yes {J : Int → Int → Int} {ty : Nm → Nat} {ln : Nm → Int} {I : Nm → Int → Int} {R : Nm → Int → Option Nm} (h : RG J ty ln I R) {a : Int} (hy : (0 ≤ a ∧ a ≤ 9) ∧ 0 < J 5 a) : hsAt R [1, 0] a = some [4, a] := by
  unfold hsAt
  rw [if_pos hy.1, h.2.2.2.2.2.2.1 a hy.1.1 hy.1.2, if_pos hy.2]
theorem x_houseOf_no {d : Nat} {K : Kt} {X : Xt} {J : Int → Int → Int} {ty : Nm → Nat} {ln : Nm → Int} {I : Nm → Int → Int} {R : Nm → Int → Option Nm} {c w : Nat} {a : Int} (h : RG J ty ln I R) (hn : ¬ ((0 ≤ a ∧ a ≤ 9) ∧ 0 < J 5 a)) : Mth (d + 6) M_FB_houseOf [vR (some [1]), vI a] (ty, ln, I, R, c, w) K X = ((1 ≤ c ∧ 6 ≤ w) ∧ X 1 (ty, ln, I, R, c - 1, w - 6)) := by
  obtain ⟨s1, s2, -, -, -, -, -, s8, -⟩ := id h.1
  rw [show d + 6 = (d + 4) + 2 from rfl, s_FB_houseOf s1 s2 s8.1 s8.2, if_pos (h.no hn)]
  exact propext ⟨fun z => ⟨z.1.2, z.2⟩, fun z => ⟨⟨by omega, z.1⟩, z.2⟩⟩
theorem x_houseOf_yes {d : Nat} {K : Kt} {X : Xt} {J : Int → Int → Int} {ty : Nm → Nat} {ln : Nm → Int} {I : Nm → Int → Int} {R : Nm → Int → Option Nm} {c w : Nat} {a : Int} (h : RG J ty ln I R) (hy : (0 ≤ a ∧ a ≤ 9) ∧ 0 < J 5 a) : Mth (d + 2) M_FB_houseOf [vR (some [1]), vI a] (ty, ln, I, R, c, w) K X = K (some (vR (some [4, a]))) (ty, ln, I, R, c, w) := by
  obtain ⟨s1, s2, -, -, -, -, -, s8, -⟩ := id h.1
  rw [s_FB_houseOf s1 s2 s8.1 s8.2, if_neg (by rw [h.yes hy]; simp), h.yes hy]
theorem x_rA {d : Nat} {K : Kt} {X : Xt} {ty : Nm → Nat} {ln : Nm → Int} {I : Nm → Int → Int} {R : Nm → Int → Option Nm} {c w : Nat} {x : Int} (hx : x = 0) : Mth (d + 6) M_FB_requireArgument [vI x] (ty, ln, I, R, c, w) K X = ((1 ≤ c ∧ 6 ≤ w) ∧ X 1 (ty, ln, I, R, c - 1, w - 6)) := by
  rw [show d + 6 = (d + 5) + 1 from rfl, s_FB_requireArgument, if_neg (fun z => z hx)]
  exact propext ⟨fun z => ⟨z.1.2, z.2⟩, fun z => ⟨⟨by omega, z.1⟩, z.2⟩⟩
theorem x_rA1 {d : Nat} {K : Kt} {X : Xt} {ty : Nm → Nat} {ln : Nm → Int} {I : Nm → Int → Int} {R : Nm → Int → Option Nm} {c w : Nat} {x : Int} (hx : x ≠ 0) : Mth (d + 1) M_FB_requireArgument [vI x] (ty, ln, I, R, c, w) K X = K none (ty, ln, I, R, c, w) := by
  rw [s_FB_requireArgument, if_pos hx]
theorem x_rS {d : Nat} {K : Kt} {X : Xt} {ty : Nm → Nat} {ln : Nm → Int} {I : Nm → Int → Int} {R : Nm → Int → Option Nm} {c w : Nat} {x : Int} (hx : x = 0) : Mth (d + 6) M_FB_requireState [vI x] (ty, ln, I, R, c, w) K X = ((1 ≤ c ∧ 6 ≤ w) ∧ X 2 (ty, ln, I, R, c - 1, w - 6)) := by
  rw [show d + 6 = (d + 5) + 1 from rfl, s_FB_requireState, if_neg (fun z => z hx)]
  exact propext ⟨fun z => ⟨z.1.2, z.2⟩, fun z => ⟨⟨by omega, z.1⟩, z.2⟩⟩
theorem x_rS1 {d : Nat} {K : Kt} {X : Xt} {ty : Nm → Nat} {ln : Nm → Int} {I : Nm → Int → Int} {R : Nm → Int → Option Nm} {c w : Nat} {x : Int} (hx : x ≠ 0) : Mth (d + 1) M_FB_requireState [vI x] (ty, ln, I, R, c, w) K X = K none (ty, ln, I, R, c, w) := by
  rw [s_FB_requireState, if_pos hx]
/-! ===== where the wrappers' exceptions go ===== -/
theorem thr_1 {M : Mt} {X : Xt} {P : Nx} {pc : Nat} {ls : List Vl} {h : AH} {a1 b1 p1 : Nat} (e : M.2.2.2.2.1 = [(a1, b1, p1, 13)]) (ec : M.2.2.2.2.2 = 11) (q1 : a1 ≤ pc) (q2 : pc < b1) : thr M X P pc ls 1 h = P p1 ls [vX] h := by
  unfold thr
  rw [e]
  exact propext ⟨fun z => z.2.2.2.2.2, fun z => ⟨q1, q2, ec, rfl, rfl, z⟩⟩
theorem thr_21 {M : Mt} {X : Xt} {P : Nx} {pc : Nat} {ls : List Vl} {h : AH} {a1 b1 p1 a2 b2 p2 : Nat} (e : M.2.2.2.2.1 = [(a1, b1, p1, 13), (a2, b2, p2, 15)]) (ec : M.2.2.2.2.2 = 11) (q1 : a1 ≤ pc) (q2 : pc < b1) (q3 : a2 ≤ pc) (q4 : pc < b2) : thr M X P pc ls 1 h = P p1 ls [vX] h := by
  unfold thr
  rw [e]
  refine propext ⟨fun z => ?_, fun z => ⟨q1, q2, q3, q4, ec, rfl, rfl, Or.inl ⟨rfl, z⟩⟩⟩
  obtain ⟨-, -, -, -, -, -, -, y⟩ := z
  rcases y with ⟨-, y⟩ | ⟨y, -⟩
  · exact y
  · exact absurd y (by decide)
theorem thr_22 {M : Mt} {X : Xt} {P : Nx} {pc : Nat} {ls : List Vl} {h : AH} {a1 b1 p1 a2 b2 p2 : Nat} (e : M.2.2.2.2.1 = [(a1, b1, p1, 13), (a2, b2, p2, 15)]) (ec : M.2.2.2.2.2 = 11) (q1 : a1 ≤ pc) (q2 : pc < b1) (q3 : a2 ≤ pc) (q4 : pc < b2) : thr M X P pc ls 2 h = P p2 ls [vX] h := by
  unfold thr
  rw [e]
  refine propext ⟨fun z => ?_, fun z => ⟨q1, q2, q3, q4, ec, rfl, rfl, Or.inr ⟨rfl, z⟩⟩⟩
  obtain ⟨-, -, -, -, -, -, -, y⟩ := z
  rcases y with ⟨y, -⟩ | ⟨-, y⟩
  · exact absurd y (by decide)
  · exact y
