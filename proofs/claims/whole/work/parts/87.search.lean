/-! ===== the class on the relation: searches ===== -/
/-- the first of n pieces of segment s that lies with k -/
def pwJ (J : Int → Int → Int) (k s : Int) : Nat → Int
  | 0 => -1
  | j + 1 => if pwJ J k s j = -1 then (if J 25 (12 * s + j) = k then (j : Int) else -1) else pwJ J k s j
theorem pwJ_r {J : Int → Int → Int} {k s : Int} : ∀ n : Nat, pwJ J k s n = -1 ∨ (0 ≤ pwJ J k s n ∧ pwJ J k s n < n ∧ J 25 (12 * s + pwJ J k s n) = k)
  | 0 => Or.inl rfl
  | n + 1 => by
    by_cases c : pwJ J k s n = -1
    · by_cases c2 : J 25 (12 * s + n) = k
      · rw [show pwJ J k s (n + 1) = n by show (if _ then _ else _) = _; rw [if_pos c, if_pos c2]]; exact Or.inr ⟨by omega, by omega, c2⟩
      · rw [show pwJ J k s (n + 1) = -1 by show (if _ then _ else _) = _; rw [if_pos c, if_neg c2]]; exact Or.inl rfl
    · rw [show pwJ J k s (n + 1) = pwJ J k s n from if_neg c]
      rcases pwJ_r (J := J) (k := k) (s := s) n with z | z
      · exact absurd z c
      · exact Or.inr ⟨z.1, by omega, z.2.2⟩
theorem pwJ_st {J : Int → Int → Int} {k s : Int} {i n : Nat} (h : pwJ J k s i ≠ -1) (hn : i ≤ n) : pwJ J k s n = pwJ J k s i := by
  induction n with
  | zero => rw [show i = 0 by omega]
  | succ n ih =>
    by_cases q : i = n + 1
    · rw [q]
    · have e := ih (by omega)
      rw [← e]
      exact if_neg (by rw [e]; exact h)
theorem pwJ_has {J : Int → Int → Int} {k s : Int} : ∀ n : Nat, pwJ J k s n = -1 ↔ hasP J k s n = 0
  | 0 => ⟨fun _ => rfl, fun _ => rfl⟩
  | n + 1 => by
    have ih := pwJ_has (J := J) (k := k) (s := s) n
    by_cases c : pwJ J k s n = -1
    · have c' := ih.mp c
      by_cases c2 : J 25 (12 * s + n) = k
      · rw [show pwJ J k s (n + 1) = n by show (if _ then _ else _) = _; rw [if_pos c, if_pos c2], show hasP J k s (n + 1) = 1 from if_pos (Or.inr c2)]; omega
      · rw [show pwJ J k s (n + 1) = -1 by show (if _ then _ else _) = _; rw [if_pos c, if_neg c2], show hasP J k s (n + 1) = 0 from if_neg (fun z => z.elim (fun y => y c') c2)]; omega
    · rw [show pwJ J k s (n + 1) = pwJ J k s n from if_neg c, show hasP J k s (n + 1) = 1 from if_pos (Or.inl (fun z => c (ih.mpr z)))]; omega
/-- whether a piece of the first n segments of a house can be read -/
def hrJ (J : Int → Int → Int) (a : Int) : Nat → Int
  | 0 => 0
  | s + 1 => if hrJ J a s ≠ 0 ∨ 0 < cntR J (40 * a + s) (J (-1) 3).toNat then 1 else 0
theorem hrJ_st {J : Int → Int → Int} {a : Int} {i n : Nat} (h : hrJ J a i ≠ 0) (hn : i ≤ n) : hrJ J a n ≠ 0 := by
  induction n with
  | zero => rw [show i = 0 by omega] at h; exact h
  | succ n ih =>
    by_cases q : i = n + 1
    · rw [← q]; exact h
    · rw [show hrJ J a (n + 1) = 1 from if_pos (Or.inl (ih (by omega)))]; decide
theorem y_pieceWith {d : Nat} {K : Kt} {X : Xt} {J : Int → Int → Int} {E : Nm → Int → Int} {ty : Nm → Nat} {ln : Nm → Int} {I : Nm → Int → Int} {R : Nm → Int → Option Nm} {c w : Nat} {a s k : Int} (h : RC J E ty ln I R) (hs : sgJ J a s) :
    Mth (d + 1) M_Segment_pieceWith [vR (some [4, a, 8, s]), vI k] (ty, ln, I, R, c, w) K X = K (some (vI (pwJ J k (40 * a + s) (J (-1) 3).toNat))) (ty, ln, I, R, c, w) := by
  obtain ⟨g0, ⟨gr0, gt0, gl0⟩, ⟨gr1, gt1, gl1⟩, ⟨gr2, gt2, gl2⟩, gp⟩ := h.sg a s hs
  have sc := h.g.2.2.2.2.2.2.2
  have key : ∀ q i : Nat, i + q = (J (-1) 3).toNat → pwJ J k (40 * a + s) i = -1 → Rn d M_Segment_pieceWith K X 2 [vR (some [4, a, 8, s]), vI k, vI (i : Int)] [] (ty, ln, I, R, c, w) = K (some (vI (pwJ J k (40 * a + s) (J (-1) 3).toNat))) (ty, ln, I, R, c, w) := by
    intro q
    induction q with
    | zero =>
      intro i hi e
      rw [b_Segment_pieceWith_2, and_t g0, gr2, ex_some, and_t (Or.inl (by omega)), if_pos (by omega), ← show i = (J (-1) 3).toNat by omega, e]
    | succ q ih =>
      intro i hi e
      obtain ⟨pr, pt, -⟩ := gp i (by omega) (by omega)
      have hp : piJ J a s i := ⟨hs, by omega, by omega, by omega⟩
      rw [b_Segment_pieceWith_2, and_t g0, gr2, ex_some, and_t (Or.inl (by omega)), if_neg (by omega), and_t g0, ex_some, and_t ⟨⟨by omega, by omega⟩, by omega, by omega⟩, pr, ex_some, and_t pt, h.ri _ _ _ _ (l25 hp)]
      by_cases c1 : J 25 (12 * (40 * a + s) + i) = k
      · have e2 : pwJ J k (40 * a + s) (i + 1) = i := by show (if _ then _ else _) = _; rw [if_pos e, if_pos c1]
        rw [if_neg (fun z => z c1), pwJ_st (i := i + 1) (n := (J (-1) 3).toNat) (by rw [e2]; omega) (by omega), e2]
      · rw [if_pos c1, w32_id (by omega) (by omega)]
        exact ih (i + 1) (by omega) (by show (if _ then _ else _) = _; rw [if_pos e, if_neg c1])
  rw [in_Segment_pieceWith, b_Segment_pieceWith_0]
  exact key (J (-1) 3).toNat 0 (by omega) rfl
theorem y_countReachable {d : Nat} {K : Kt} {X : Xt} {J : Int → Int → Int} {E : Nm → Int → Int} {ty : Nm → Nat} {ln : Nm → Int} {I : Nm → Int → Int} {R : Nm → Int → Option Nm} {c w : Nat} {a s : Int} (h : RC J E ty ln I R) (hs : sgJ J a s) (hb : ∀ p, 0 ≤ p → p < 4800 → J 25 p ≤ 9 ∧ (0 ≤ J 25 p → 0 < J 5 (J 25 p))) :
    Mth (d + 4) M_FB_countReachable [vR (some [1]), vR (some [4, a, 8, s])] (ty, ln, I, R, c, w) K X = K (some (vI (cntR J (40 * a + s) (J (-1) 3).toNat))) (ty, ln, I, R, c, w) := by
  obtain ⟨g0, ⟨gr0, gt0, gl0⟩, ⟨gr1, gt1, gl1⟩, ⟨gr2, gt2, gl2⟩, gp⟩ := h.sg a s hs
  obtain ⟨f1, fr0, fr1, fr2, fr3, fr4, fr5, ⟨ft0, fl0⟩, ⟨ft3, fl3⟩, ⟨ft4, fl4⟩, ⟨ft5, fl5⟩, ft16, fr160, fr161, ⟨ft160, fl160⟩, ⟨ft161, fl161⟩⟩ := id h.g.1
  have sc := h.g.2.2.2.2.2.2.2
  have key : ∀ q i : Nat, i + q = (J (-1) 3).toNat → Rn (d + 3) M_FB_countReachable K X 4 [vR (some [1]), vR (some [4, a, 8, s]), vI (cntR J (40 * a + s) i), vI (i : Int)] [] (ty, ln, I, R, c, w) = K (some (vI (cntR J (40 * a + s) (J (-1) 3).toNat))) (ty, ln, I, R, c, w) := by
    intro q
    induction q with
    | zero =>
      intro i hi
      rw [b_FB_countReachable_4, ex_some, and_t g0, gr2, ex_some, and_t (Or.inl (by omega)), if_pos (by omega), ← show i = (J (-1) 3).toNat by omega]
    | succ q ih =>
      intro i hi
      have ih' := ih (i + 1) (by omega)
      obtain ⟨pr, pt, -⟩ := gp i (by omega) (by omega)
      have hp : piJ J a s i := ⟨hs, by omega, by omega, by omega⟩
      have r := cntR_r (J := J) (s := 40 * a + s) i
      rw [b_FB_countReachable_4, ex_some, and_t g0, gr2, ex_some, and_t (Or.inl (by omega)), if_neg (by omega), ex_some, and_t g0, gr2, ex_some, and_t ⟨⟨by omega, by omega⟩, by omega, by omega⟩, and_t f1, pr, y_isReachable h hp (hb _ (by omega) (by omega))]
      show Rn (d + 3) M_FB_countReachable K X 23 [vR (some [1]), vR (some [4, a, 8, s]), vI (cntR J (40 * a + s) i), vI (i : Int)] [vI (if isR J (12 * (40 * a + s) + i) then 1 else 0)] (ty, ln, I, R, c, w) = _
      rw [b_FB_countReachable_23]
      by_cases c1 : isR J (12 * (40 * a + s) + i)
      · rw [show cntR J (40 * a + s) (i + 1) = cntR J (40 * a + s) i + 1 from if_pos c1] at ih'
        rw [if_pos c1, if_neg (by decide), b_FB_countReachable_29, w32_id (x := cntR J (40 * a + s) i + 1) (by omega) (by omega), w32_id (by omega) (by omega)]
        exact ih'
      · rw [show cntR J (40 * a + s) (i + 1) = cntR J (40 * a + s) i from if_neg c1] at ih'
        rw [if_neg c1, if_pos rfl, b_FB_countReachable_29, w32_id (by omega) (by omega)]
        exact ih'
  rw [in_FB_countReachable, b_FB_countReachable_0]
  exact key (J (-1) 3).toNat 0 (by omega)
theorem y_hasReachable {d : Nat} {K : Kt} {X : Xt} {J : Int → Int → Int} {E : Nm → Int → Int} {ty : Nm → Nat} {ln : Nm → Int} {I : Nm → Int → Int} {R : Nm → Int → Option Nm} {c w : Nat} {a : Int} (h : RC J E ty ln I R) (ha : hsJ J a) (hb : ∀ p, 0 ≤ p → p < 4800 → J 25 p ≤ 9 ∧ (0 ≤ J 25 p → 0 < J 5 (J 25 p))) :
    Mth (d + 5) M_FB_hasReachable [vR (some [1]), vR (some [4, a])] (ty, ln, I, R, c, w) K X = K (some (vI (if hrJ J a (J 20 a).toNat = 0 then 0 else 1))) (ty, ln, I, R, c, w) := by
  obtain ⟨t0, ⟨r2, t2, ll2⟩, ⟨r3, t3, ll3⟩, ⟨r4, t4, ll4⟩, ⟨r5, t5, ll5⟩, rw5, ⟨r6, t6, ll6⟩, ⟨r7, t7⟩, ⟨r8, t8⟩, ⟨r9, t9⟩⟩ := h.hs a ha
  obtain ⟨f1, fr0, fr1, fr2, fr3, fr4, fr5, ⟨ft0, fl0⟩, ⟨ft3, fl3⟩, ⟨ft4, fl4⟩, ⟨ft5, fl5⟩, ft16, fr160, fr161, ⟨ft160, fl160⟩, ⟨ft161, fl161⟩⟩ := id h.g.1
  obtain ⟨e1, e2, e3, -⟩ := h.sn a ha
  have key : ∀ q i : Nat, i + q = (J 20 a).toNat → hrJ J a i = 0 → Rn (d + 4) M_FB_hasReachable K X 2 [vR (some [1]), vR (some [4, a]), vI (i : Int)] [] (ty, ln, I, R, c, w) = K (some (vI (if hrJ J a (J 20 a).toNat = 0 then 0 else 1))) (ty, ln, I, R, c, w) := by
    intro q
    induction q with
    | zero =>
      intro i hi e
      rw [b_FB_hasReachable_2, ex_some, and_t t0, r8, ex_some, and_t t8, y_size h ha]
      show Rn (d + 4) M_FB_hasReachable K X 10 [vR (some [1]), vR (some [4, a]), vI (i : Int)] [vI (J 20 a), vI (i : Int)] (ty, ln, I, R, c, w) = _
      rw [b_FB_hasReachable_10, if_pos (by omega), and_t (Or.inl rfl), ← show i = (J 20 a).toNat by omega, if_pos e]
    | succ q ih =>
      intro i hi e
      have hs : sgJ J a i := ⟨ha, by omega, by omega, by omega⟩
      have g0 := (h.sg a i hs).1
      rw [b_FB_hasReachable_2, ex_some, and_t t0, r8, ex_some, and_t t8, y_size h ha]
      show Rn (d + 4) M_FB_hasReachable K X 10 [vR (some [1]), vR (some [4, a]), vI (i : Int)] [vI (J 20 a), vI (i : Int)] (ty, ln, I, R, c, w) = _
      rw [b_FB_hasReachable_10, if_neg (by omega), ex_some, and_t t0, r8, ex_some, and_t t8, y_get h hs]
      show Rn (d + 4) M_FB_hasReachable K X 22 [vR (some [1]), vR (some [4, a]), vI (i : Int)] [vR (some [4, a, 8, (i : Int)]), vR (some [1])] (ty, ln, I, R, c, w) = _
      rw [b_FB_hasReachable_22, ck g0, and_t f1, y_countReachable h hs hb]
      show Rn (d + 4) M_FB_hasReachable K X 28 [vR (some [1]), vR (some [4, a]), vI (i : Int)] [vI (cntR J (40 * a + i) (J (-1) 3).toNat)] (ty, ln, I, R, c, w) = _
      rw [b_FB_hasReachable_28]
      by_cases c1 : 0 < cntR J (40 * a + i) (J (-1) 3).toNat
      · have z : hrJ J a (i + 1) = 1 := if_pos (Or.inr c1)
        rw [if_neg (by omega), and_t (Or.inr rfl), if_neg (hrJ_st (i := i + 1) (by rw [z]; decide) (by omega))]
      · rw [if_pos (by omega), w32_id (by omega) (by omega)]
        exact ih (i + 1) (by omega) (if_neg (fun z => z.elim (fun y => y e) c1))
  rw [in_FB_hasReachable, b_FB_hasReachable_0]
  exact key (J 20 a).toNat 0 (by omega) rfl
