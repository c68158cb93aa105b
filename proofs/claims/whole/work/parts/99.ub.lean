/-! ===== what is always true, further ===== -/
theorem JI.ls {J : Int → Int → Int} {a : Int} (h : JI J) (ha : 0 ≤ a ∧ a ≤ 9) : JI (lsJ J a) := by
  obtain ⟨g, gm, e⟩ := ldJ_i (a := a) h.1 4800 (Nat.le_refl _)
  have o : ∀ k x, k ≠ 26 → k ≠ 10 → k ≠ 12 → k ≠ 22 → k ≠ 7 → lsJ J a k x = J k x := fun k x k1 k2 k3 k4 k5 => by
    unfold lsJ
    rw [uJ_ne k5, wJ_ne k4, wJ_ne k3, e k x k1 k2]
  refine ⟨lsJ_g h.1, h.2.1.ls h.1 ha, fun c => by rw [o 18 _ (by decide) (by decide) (by decide) (by decide) (by decide), o 19 _ (by decide) (by decide) (by decide) (by decide) (by decide)]; exact h.2.2.1 c, fun b s b0 b1 s0 s1 => ?_, fun j => by rw [o 11 _ (by decide) (by decide) (by decide) (by decide) (by decide), o (-1) 1 (by decide) (by decide) (by decide) (by decide) (by decide)]; exact h.2.2.2.2 j⟩
  rw [o 20 _ (by decide) (by decide) (by decide) (by decide) (by decide)] at s0
  have k20 := h.1.1.k20 b
  intro j j0 j1
  obtain ⟨u1, u2, u3, u4, u5⟩ := h.2.2.2.1 b s b0 b1 s0 s1 j j0 j1
  refine ⟨by rw [o 25 _ (by decide) (by decide) (by decide) (by decide) (by decide)]; exact u1, ?_, by rw [o 28 _ (by decide) (by decide) (by decide) (by decide) (by decide)]; exact u3, fun x x0 x1 => by rw [o 27 _ (by decide) (by decide) (by decide) (by decide) (by decide)]; exact u4 x x0 x1, fun x x0 x1 => by rw [o 29 _ (by decide) (by decide) (by decide) (by decide) (by decide)]; exact u5 x x0 x1⟩
  obtain ⟨p, hp⟩ : ∃ p : Nat, (p : Int) = 12 * (40 * b + s) + j := ⟨(12 * (40 * b + s) + j).toNat, by omega⟩
  rw [← hp] at u2 ⊢
  unfold lsJ
  rw [uJ_ne (by decide), wJ_ne (by decide), wJ_ne (by decide), (ldJ_26 h.1 ha.1 4800 (Nat.le_refl _)).1 p]
  split
  · rfl
  · exact u2
theorem JI.co {J : Int → Int → Int} {a b l : Int} (h : JI J) (ha : 0 ≤ a ∧ a ≤ 9) (hb : 0 ≤ b ∧ b ≤ 9) (hab : a ≠ b) (hl : 0 ≤ l ∧ l ≤ 100) : JI (uJ (uJ J 9 (10 * a + b) l) 9 (10 * b + a) l) := by
  have o : ∀ k x, k ≠ 9 → uJ (uJ J 9 (10 * a + b) l) 9 (10 * b + a) l k x = J k x := fun k x hk => by rw [uJ_ne hk, uJ_ne hk]
  have o9 : ∀ x, uJ (uJ J 9 (10 * a + b) l) 9 (10 * b + a) l 9 x = if x = 10 * b + a ∨ x = 10 * a + b then l else J 9 x := fun x => by
    rw [uJ_self]
    by_cases z : x = 10 * b + a
    · rw [z, upI_self, if_pos (Or.inl rfl)]
    · rw [upI_ne _ _ z, uJ_self]
      by_cases y : x = 10 * a + b
      · rw [y, upI_self, if_pos (Or.inr rfl)]
      · rw [upI_ne _ _ y, if_neg (fun q => q.elim z y)]
  refine h.same ((h.1.u (Or.inr hl) (Or.inl (by decide)) (by decide)).u (Or.inr hl) (Or.inl (by decide)) (by decide)) ?_ (fun k x hk => o k x (by omega)) (o _ _ (by decide))
  obtain ⟨v1, v2, v3, v4, v5, v6, v7, v8⟩ := h.2.1
  refine ⟨fun p p0 p1 => ?_, fun c c0 c1 => ?_, fun c e c0 c1 e0 e1 => ?_, fun s j j' => ?_, fun c s j => ?_, fun s => ?_, ?_, fun c => ?_⟩
  · rw [o 25 _ (by decide), o 26 _ (by decide), o 5 _ (by decide)]; exact v1 p p0 p1
  · rw [o9, if_neg (by omega)]; exact v2 c c0 c1
  · rw [o9, o9]
    by_cases z : 10 * c + e = 10 * b + a ∨ 10 * c + e = 10 * a + b
    · rw [if_pos z, if_pos (by omega)]
    · rw [if_neg z, if_neg (by omega)]; exact v3 c e c0 c1 e0 e1
  · rw [o 25 _ (by decide), o 25 _ (by decide)]; exact v4 s j j'
  · rw [o 20 _ (by decide), o (-1) _ (by decide), o 25 _ (by decide)]; exact v5 c s j
  · rw [o 21 _ (by decide), o 22 _ (by decide)]; exact v6 s
  · rw [o (-1) _ (by decide)]; intro z c c0 c1; rw [o 20 _ (by decide)]; exact v7 z c c0 c1
  · rw [o 20 _ (by decide), o 5 _ (by decide)]; exact v8 c
/-- words 31 to 37 are only work's -/
theorem JI.wk {J J' : Int → Int → Int} (h : JI J) (g : GI J') (e : ∀ k x, k ≠ -1 → k ≠ 31 → k ≠ 32 → k ≠ 33 → k ≠ 34 → k ≠ 36 → k ≠ 37 → J' k x = J k x) (em : ∀ x, x ≠ 35 → J' (-1) x = J (-1) x) : JI J' :=
  h.same g (h.2.1.lost (fun k x hk => e k x (by omega) (by omega) (by omega) (by omega) (by omega) (by omega) (by omega)) (fun x hx => em x (by omega)) (fun p _ _ => Or.inl ⟨e 25 p (by decide) (by decide) (by decide) (by decide) (by decide) (by decide) (by decide), e 26 p (by decide) (by decide) (by decide) (by decide) (by decide) (by decide) (by decide)⟩)) (fun k x hk => e k x (by omega) (by omega) (by omega) (by omega) (by omega) (by omega) (by omega)) (em 1 (by decide))
theorem lnS_0 {J : Int → Int → Int} {k : Int} (h : MR J) : ∀ q : Nat, 0 ≤ lnS J k q
  | 0 => Int.le_refl _
  | q + 1 => by
    have ih := lnS_0 (k := k) h q
    have := h.k19 (k + q)
    show 0 ≤ lnS J k q + J 19 (k + q)
    omega
theorem JI.rd {J : Int → Int → Int} {k : Int} {q : Nat} (h : JI J) : JI (rdS J k q) :=
  h.wk (rdS_g h.1 q) (fun m x m0 m1 m2 m3 m4 m5 m6 => rdS_o ⟨m2, m3, m4, m6⟩ q) (fun x _ => rdS_o (by decide) q)
theorem JI.re {J : Int → Int → Int} {k : Int} {q : Nat} (h : JI J) (h2 : lnS J k q ≤ 200) : JI (reS J k q) := by
  have g := rdS_g (k := k) h.1 q
  have l0 := lnS_0 (k := k) h.1.1 q
  refine (h.rd (k := k) (q := q)).wk (J' := reS J k q) (g.res ⟨l0, h2⟩ (fun x _ _ => g.1.k37 x)) (fun m x m0 m1 m2 m3 m4 m5 m6 => ?_) (fun x hx => ?_)
  · exact resQ_o m5 (Or.inl m0)
  · exact resQ_o (by decide) (Or.inr hx)
theorem JI.st {J : Int → Int → Int} {x : Int} (h : JI J) (hx : J (-1) 1 ≤ x ∧ x ≤ 10000) : JI (uJ (wJ J 11 0 100 (fun j => J 11 j + (x - J (-1) 1) * J 10 j)) (-1) 1 x) := by
  obtain ⟨J', hJ⟩ : ∃ J', J' = uJ (wJ J 11 0 100 (fun j => J 11 j + (x - J (-1) 1) * J 10 j)) (-1) 1 x := ⟨_, rfl⟩
  rw [← hJ]
  have o : ∀ k y, k ≠ -1 → k ≠ 11 → J' k y = J k y := fun k y k1 k2 => by rw [hJ, uJ_ne k1, wJ_ne k2]
  have om : ∀ y, y ≠ 1 → J' (-1) y = J (-1) y := fun y hy => by rw [hJ, uJ_self, upI_ne _ _ hy, wJ_ne (by decide)]
  have m1 : J' (-1) 1 = x := by rw [hJ, uJ_self, upI_self]
  have sc := h.1.2.1
  have d0 : 0 ≤ J (-1) 1 := sc.2.2.2.2.1
  have b11 : ∀ j, 0 ≤ J' 11 j ∧ J' 11 j ≤ 100 * x := fun j => by
    have b1 := h.1.1.k11 j
    have b2 := h.2.2.2.2 j
    have b3 := h.1.1.k10 j
    have y1 : 0 ≤ (x - J (-1) 1) * J 10 j := Int.mul_nonneg (by omega) b3.1
    have y2 : (x - J (-1) 1) * J 10 j ≤ (x - J (-1) 1) * 100 := Int.mul_le_mul_of_nonneg_left b3.2 (by omega)
    rw [hJ, uJ_ne (by decide)]
    by_cases z : 0 ≤ j ∧ j < 100
    · rw [wJ_in z]; omega
    · rw [wJ_out (by omega)]; omega
  have gR : MR J' := fun k j k1 k2 k3 k4 => by
    by_cases z : k = 11
    · subst z
      have := b11 j
      exact ⟨this.1, by show _ ≤ (1000000 : Int); omega⟩
    · rw [o k j (by omega) z]; exact h.1.1 k j k1 k2 k3 k4
  have gS : SC J' := by
    unfold SC at sc ⊢
    rw [om 2 (by decide), om 3 (by decide), om 35 (by decide), om 4 (by decide), m1]
    exact ⟨sc.1, sc.2.1, sc.2.2.1, sc.2.2.2.1, by omega⟩
  have g : GI J' := ⟨gR, gS, h.1.2.2.keep (fun y _ _ => o 10 y (by decide) (by decide)) (fun p => ⟨o 25 p (by decide) (by decide), o 26 p (by decide) (by decide)⟩)⟩
  have v : VI J' := h.2.1.lost (fun k y hk => o k y (by omega) (by omega)) (fun y hy => om y (by omega)) (fun p _ _ => Or.inl ⟨o 25 p (by decide) (by decide), o 26 p (by decide) (by decide)⟩)
  refine ⟨g, v, fun c => by rw [o 18 _ (by decide) (by decide), o 19 _ (by decide) (by decide)]; exact h.2.2.1 c, fun b s b0 b1 s0 s1 => ?_, fun j => by rw [m1]; exact (b11 j).2⟩
  rw [o 20 _ (by decide) (by decide)] at s0
  have k20 := h.1.1.k20 b
  exact (TC.none (lo := 40 * 0) (hi := 40 * 0 + 0) (fun k y hk => o k y (by omega) (by omega))).un (by decide) (by decide) ⟨b0, b1⟩ ⟨by omega, s1⟩ (Or.inr (by omega)) (h.2.2.2.1 b s b0 b1 s0 s1)
theorem JI.cd {J : Int → Int → Int} {a b : Int} (h : JI J) (h4 : J (-1) 4 = 0) (ha : 2 ≤ a ∧ a ≤ 6) (hb : a ≤ b ∧ b ≤ 12) : JI (uJ (uJ J (-1) 2 a) (-1) 3 b) := by
  have o : ∀ k y, k ≠ -1 → uJ (uJ J (-1) 2 a) (-1) 3 b k y = J k y := fun k y hk => by rw [uJ_ne hk, uJ_ne hk]
  have om : ∀ y, y ≠ 2 → y ≠ 3 → uJ (uJ J (-1) 2 a) (-1) 3 b (-1) y = J (-1) y := fun y y1 y2 => by rw [uJ_self, upI_ne _ _ y2, uJ_self, upI_ne _ _ y1]
  have m3 : uJ (uJ J (-1) 2 a) (-1) 3 b (-1) 3 = b := by rw [uJ_self, upI_self]
  have m2 : uJ (uJ J (-1) 2 a) (-1) 3 b (-1) 2 = a := by rw [uJ_self, upI_ne _ _ (by decide), uJ_self, upI_self]
  have sc := h.1.2.1
  have gS : SC (uJ (uJ J (-1) 2 a) (-1) 3 b) := by
    unfold SC at sc ⊢
    rw [om 35 (by decide) (by decide), om 4 (by decide) (by decide), om 1 (by decide) (by decide), m2, m3]
    exact ⟨ha, hb, sc.2.2⟩
  have g : GI (uJ (uJ J (-1) 2 a) (-1) 3 b) := ⟨(h.1.1.u (Or.inl rfl)).u (Or.inl rfl), gS, h.1.2.2.keep (fun y _ _ => o 10 y (by decide)) (fun p => ⟨o 25 p (by decide), o 26 p (by decide)⟩)⟩
  refine h.same g ?_ (fun k y hk => o k y (by omega)) (om 1 (by decide) (by decide))
  obtain ⟨v1, v2, v3, v4, v5, v6, v7, v8⟩ := h.2.1
  refine ⟨fun p p0 p1 => ?_, fun c c0 c1 => ?_, fun c e => ?_, fun s j j' => ?_, fun c s j c0 c1 s0 s1 j0 j1 _ => ?_, fun s => ?_, ?_, fun c => ?_⟩
  · rw [o 25 _ (by decide), o 26 _ (by decide), o 5 _ (by decide)]; exact v1 p p0 p1
  · rw [o 9 _ (by decide)]; exact v2 c c0 c1
  · rw [o 9 _ (by decide), o 9 _ (by decide)]; exact v3 c e
  · rw [o 25 _ (by decide), o 25 _ (by decide)]; exact v4 s j j'
  · rw [o 25 _ (by decide)]
    exact v5 c s j c0 c1 s0 s1 j0 j1 (Or.inl (by rw [v7 h4 c c0 c1]; exact s0))
  · rw [o 21 _ (by decide), o 22 _ (by decide)]; exact v6 s
  · rw [om 4 (by decide) (by decide)]; intro z c c0 c1; rw [o 20 _ (by decide)]; exact v7 z c c0 c1
  · rw [o 20 _ (by decide), o 5 _ (by decide)]; exact v8 c
theorem JI.ho {J : Int → Int → Int} {a b : Int} (h : JI J) (hb : 1 ≤ b ∧ b ≤ 400) (hn : ¬ 0 < J 5 a) : JI (uJ (uJ J 5 a b) 6 a 1) := by
  have o : ∀ k y, k ≠ 5 → k ≠ 6 → uJ (uJ J 5 a b) 6 a 1 k y = J k y := fun k y k1 k2 => by rw [uJ_ne k2, uJ_ne k1]
  have o5 : ∀ y, uJ (uJ J 5 a b) 6 a 1 5 y = if y = a then b else J 5 y := fun y => by
    rw [uJ_ne (by decide), uJ_self]
    by_cases z : y = a
    · rw [z, upI_self, if_pos rfl]
    · rw [upI_ne _ _ z, if_neg z]
  have g : GI (uJ (uJ J 5 a b) 6 a 1) := (h.1.u (Or.inr ⟨by show (0 : Int) ≤ _; omega, hb.2⟩) (Or.inl (by decide)) (by decide)).u (Or.inr ⟨by decide, by decide⟩) (Or.inl (by decide)) (by decide)
  refine h.same g ?_ (fun k y hk => o k y (by omega) (by omega)) (o _ _ (by decide) (by decide))
  obtain ⟨v1, v2, v3, v4, v5, v6, v7, v8⟩ := h.2.1
  refine ⟨fun p p0 p1 => ?_, fun c c0 c1 => ?_, fun c e => ?_, fun s j j' => ?_, fun c s j => ?_, fun s => ?_, ?_, fun c c0 c1 => ?_⟩
  · rw [o 25 _ (by decide) (by decide), o 26 _ (by decide) (by decide), o5]
    refine ⟨(v1 p p0 p1).1, fun z => ?_⟩
    split
    · omega
    · exact (v1 p p0 p1).2 z
  · rw [o 9 _ (by decide) (by decide)]; exact v2 c c0 c1
  · rw [o 9 _ (by decide) (by decide), o 9 _ (by decide) (by decide)]; exact v3 c e
  · rw [o 25 _ (by decide) (by decide), o 25 _ (by decide) (by decide)]; exact v4 s j j'
  · rw [o 20 _ (by decide) (by decide), o (-1) _ (by decide) (by decide), o 25 _ (by decide) (by decide)]; exact v5 c s j
  · rw [o 21 _ (by decide) (by decide), o 22 _ (by decide) (by decide)]; exact v6 s
  · rw [o (-1) _ (by decide) (by decide)]; intro z c c0 c1; rw [o 20 _ (by decide) (by decide)]; exact v7 z c c0 c1
  · rw [o 20 _ (by decide) (by decide), o5]
    intro z
    by_cases y : c = a
    · rw [y] at z ⊢; exact v8 a (by omega) (by omega) hn
    · rw [if_neg y] at z; exact v8 c c0 c1 z
/-- seal's words of segments, between -/
def SB (J J' : Int → Int → Int) (a : Int) : Prop := (∀ x, (J' 21 x = J 21 x ∧ J' 22 x = J 22 x) ∨ (J' 21 x = 0 ∧ J' 22 x = 0)) ∧ (∀ x, 40 * a + J 20 a ≤ x → x < 40 * a + J' 20 a → J' 21 x = 0) ∧ J 20 a ≤ J' 20 a ∧ ∀ x, x ≠ a → J' 20 x = J 20 x
theorem SB.refl {J : Int → Int → Int} {a : Int} : SB J J a := ⟨fun _ => Or.inl ⟨rfl, rfl⟩, fun x h1 h2 => by omega, Int.le_refl _, fun _ _ => rfl⟩
theorem SB.eq {J J' J2 : Int → Int → Int} {a : Int} (h : SB J J' a) (e : ∀ k x, k = 20 ∨ k = 21 ∨ k = 22 → J2 k x = J' k x) : SB J J2 a := by
  obtain ⟨h1, h2, h3, h4⟩ := h
  exact ⟨fun x => by rw [e 21 _ (by decide), e 22 _ (by decide)]; exact h1 x, fun x => by rw [e 20 _ (by decide), e 21 _ (by decide)]; exact h2 x, by rw [e 20 _ (by decide)]; exact h3, fun x hx => by rw [e 20 _ (by decide)]; exact h4 x hx⟩
theorem SB.op {J J' : Int → Int → Int} {a : Int} (h : SB J J' a) : SB J (opJ J' a) a := by
  obtain ⟨h1, h2, h3, h4⟩ := h
  refine ⟨fun x => ?_, fun x x0 x1 => ?_, ?_, fun x hx => ?_⟩
  · rw [(opJ_21 (x := x)).1, (opJ_21 (x := x)).2]
    by_cases z : x = 40 * a + J' 20 a
    · rw [if_pos z, if_pos z]; exact Or.inr ⟨rfl, rfl⟩
    · rw [if_neg z, if_neg z]; exact h1 x
  · rw [(opJ_20 (J := J') (a := a)).1] at x1
    rw [(opJ_21 (x := x)).1]
    by_cases z : x = 40 * a + J' 20 a
    · rw [if_pos z]
    · rw [if_neg z]; exact h2 x x0 (by omega)
  · rw [(opJ_20 (J := J') (a := a)).1]; omega
  · rw [opJ_20o hx]; exact h4 x hx
theorem SB.pt {J J' : Int → Int → Int} {a f fr z : Int} (h : SB J J' a) : SB J (ptJ J' a f fr z).2 a := by
  unfold ptJ
  split
  · exact h.eq (fun k x hk => flJ1_o (by omega))
  · split
    · exact h
    · exact h.op.eq (fun k x hk => flJ1_o (by omega))
theorem SB.ch {J J' : Int → Int → Int} {a sl f fr : Int} (h : SB J J' a) : SB J (chJ J' a sl f fr).2 a := by
  unfold chJ
  split
  · exact h
  · exact h.pt
theorem SB.fi {J : Int → Int → Int} {a sl t : Int} : ∀ (n : Nat) (c fr : Int) (J' : Int → Int → Int), SB J J' a → SB J (fiL a sl t n c fr J').2.2 a
  | 0, _, _, _, h => h
  | n + 1, c, fr, J', h => by
    by_cases q1 : J' 13 (10 * a + t) ≤ fr
    · rw [show fiL a sl t (n + 1) c fr J' = (1, c, J') from if_pos q1]; exact h
    · by_cases q2 : (chJ J' a sl (10 * a + t) fr).1 < 0
      · rw [show fiL a sl t (n + 1) c fr J' = (0, c, (chJ J' a sl (10 * a + t) fr).2) by show (if _ then _ else _) = _; rw [if_neg q1, if_pos q2]]; exact h.ch
      · rw [show fiL a sl t (n + 1) c fr J' = fiL a sl t n (c + 1) (ceJ J' (10 * a + t) fr) (nxJ J' a sl t (10 * a + t) fr c) by show (if _ then _ else _) = _; rw [if_neg q1, if_neg q2]]
        refine SB.fi n _ _ _ ((h.ch (sl := sl) (f := 10 * a + t) (fr := fr)).eq (fun k x hk => ?_))
        unfold nxJ
        rw [uJ_ne (by omega), uJ_ne (by omega), uJ_ne (by omega)]
theorem SB.tg {J J' : Int → Int → Int} {a sl : Int} (h : SB J J' a) : ∀ t : Nat, SB J (tgL J' a sl t).2.2 a
  | 0 => h
  | t + 1 => by
    have ih := SB.tg (sl := sl) h t
    by_cases q : (tgL J' a sl t).1 = 0 ∨ (tgL J' a sl t).2.2 12 (10 * a + t) = 0
    · rw [show tgL J' a sl (t + 1) = tgL J' a sl t from if_pos q]; exact ih
    · rw [show tgL J' a sl (t + 1) = fiL a sl t 200 (tgL J' a sl t).2.1 0 (uJ (tgL J' a sl t).2.2 17 (10 * sl + t) 0) from if_neg q]
      exact SB.fi _ _ _ _ (ih.eq (fun k x hk => by rw [uJ_ne (by omega)]))
theorem JI.sl {J : Int → Int → Int} {a : Int} (h : JI J) (ha : 0 ≤ a ∧ a ≤ 9) (hh : 0 < J 5 a) : JI (slS J a).2 := by
  unfold slS
  split
  · exact h.rf
  · rename_i n1
    obtain ⟨sl, hsl⟩ : ∃ sl, sl = frJ J a 6 := ⟨_, rfl⟩
    rw [← hsl] at n1 ⊢
    have fr := frJ_r (J := J) (a := a) 6 (Nat.le_refl _)
    rw [← hsl] at fr
    obtain ⟨J2, hJ2⟩ : ∃ x, x = wJ (uJ (uJ J (-1) 0 0) (-1) 30 60) 17 (10 * sl) (10 * sl + 10) (fun _ => -1) := ⟨_, rfl⟩
    rw [← hJ2]
    have j2o : ∀ k x, k ≠ -1 → k ≠ 17 → J2 k x = J k x := fun k x k1 k2 => by rw [hJ2, wJ_ne k2, uJ_ne k1, uJ_ne k1]
    have j2m : ∀ x, x ≠ 0 → x ≠ 30 → J2 (-1) x = J (-1) x := fun x x1 x2 => by rw [hJ2, wJ_ne (by decide), uJ_self, upI_ne _ _ x2, uJ_self, upI_ne _ _ x1]
    have m30 : J2 (-1) 30 = 60 := by rw [hJ2, wJ_ne (by decide), uJ_self, upI_self]
    have hSI : SI J2 a := by
      refine ⟨?_, fun c => by rw [j2o 18 c (by decide) (by decide), j2o 19 c (by decide) (by decide)]; exact h.2.2.1 c, by rw [m30]; decide, Or.inl m30⟩
      rw [hJ2]
      exact ((h.1.1.u (Or.inl rfl)).u (Or.inl rfl)).w (fun _ _ _ => ⟨by decide, by decide⟩)
    obtain ⟨t1, t2, t3, t4, t5, t6, t7⟩ := tgL_i (sl := sl) hSI ha 10 (Nat.le_refl _)
    have sb := (SB.refl (J := J2) (a := a)).tg (sl := sl) 10
    obtain ⟨T, hT⟩ : ∃ T, T = (tgL J2 a sl 10).2.2 := ⟨_, rfl⟩
    rw [← hT] at t2 t3 t4 t7 sb ⊢
    have sb' : SB J T a := by
      obtain ⟨s1, s2, s3, s4⟩ := sb
      exact ⟨fun x => by rw [← j2o 21 x (by decide) (by decide), ← j2o 22 x (by decide) (by decide)]; exact s1 x, fun x => by rw [← j2o 20 a (by decide) (by decide)]; exact s2 x, by rw [← j2o 20 a (by decide) (by decide)]; exact s3, fun x hx => by rw [← j2o 20 x (by decide) (by decide)]; exact s4 x hx⟩
    have to : ∀ k x, k ≠ -1 → k ≠ 17 → k ≠ 18 → k ≠ 19 → k ≠ 20 → k ≠ 21 → k ≠ 22 → k ≠ 23 → T k x = J k x := fun k x k1 k2 k3 k4 k5 k6 k7 k8 => by rw [t3 k x k1 k2 k3 k4 k5 k6 k7 k8, j2o k x k1 k2]
    have tm : ∀ x, x ≠ 0 → x ≠ 30 → T (-1) x = J (-1) x := fun x x1 x2 => by rw [t4 x x2, j2m x x1 x2]
    have k20 := h.1.1.k20 a
    have k20T := t2.1.k20 a
    -- both ends alike
    have fin : ∀ J', MR J' → PL J' → (∀ k x, k ≠ -1 → k ≠ 15 → k ≠ 16 → k ≠ 17 → k ≠ 18 → k ≠ 19 → k ≠ 20 → k ≠ 21 → k ≠ 22 → k ≠ 23 → k ≠ 24 → J' k x = J k x) → (∀ x, x ≠ 0 → x ≠ 30 → x ≠ 4 → J' (-1) x = J (-1) x) → ((J' (-1) 4 = J (-1) 4 ∧ J' 20 a = J 20 a) ∨ J' (-1) 4 = 1) → (∀ s, J' 21 s ≠ 0 → J' 22 s = 0) → J 20 a ≤ J' 20 a → (∀ x, x ≠ a → J' 20 x = J 20 x) → JI J' := by
      intro J' r1 r2 e em e4 e21 l20 o20
      have e' : ∀ k x, k = 5 ∨ k = 9 ∨ k = 10 ∨ k = 11 ∨ k = 25 ∨ k = 26 ∨ k = 27 ∨ k = 28 ∨ k = 29 → J' k x = J k x := fun k x hk => e k x (by omega) (by omega) (by omega) (by omega) (by omega) (by omega) (by omega) (by omega) (by omega) (by omega) (by omega)
      have l20' : ∀ x, J 20 x ≤ J' 20 x := fun x => by
        by_cases z : x = a
        · rw [z]; exact l20
        · rw [o20 x z]; exact Int.le_refl _
      have sc := h.1.2.1
      have gS : SC J' := by
        unfold SC at sc ⊢
        rw [em 2 (by decide) (by decide) (by decide), em 3 (by decide) (by decide) (by decide), em 35 (by decide) (by decide) (by decide), em 1 (by decide) (by decide) (by decide)]
        refine ⟨sc.1, sc.2.1, sc.2.2.1, ?_, sc.2.2.2.2⟩
        rcases e4 with z | z
        · rw [z.1]; exact sc.2.2.2.1
        · exact Or.inr z
      obtain ⟨v1, v2, v3, v4, v5, v6, v7, v8⟩ := h.2.1
      refine ⟨⟨r1, gS, h.1.2.2.keep (fun y _ _ => e' 10 y (by decide)) (fun p => ⟨e' 25 p (by decide), e' 26 p (by decide)⟩)⟩, ⟨fun p p0 p1 => ?_, fun c c0 c1 => ?_, fun c e => ?_, fun s j j' => ?_, fun c s j c0 c1 s0 s1 j0 j1 z => ?_, e21, fun z c c0 c1 => ?_, fun c c0 c1 z => ?_⟩, r2, fun b s b0 b1 s0 s1 => ?_, fun j => by rw [e' 11 _ (by decide), em 1 (by decide) (by decide) (by decide)]; exact h.2.2.2.2 j⟩
      · rw [e' 25 _ (by decide), e' 26 _ (by decide), e' 5 _ (by decide)]; exact v1 p p0 p1
      · rw [e' 9 _ (by decide)]; exact v2 c c0 c1
      · rw [e' 9 _ (by decide), e' 9 _ (by decide)]; exact v3 c e
      · rw [e' 25 _ (by decide), e' 25 _ (by decide)]; exact v4 s j j'
      · rw [e' 25 _ (by decide)]
        rw [em 3 (by decide) (by decide) (by decide)] at z
        have := l20' c
        exact v5 c s j c0 c1 s0 s1 j0 j1 (by omega)
      · rcases e4 with y | y
        · rw [y.1] at z
          by_cases q : c = a
          · rw [q, y.2]; exact v7 z a ha.1 ha.2
          · rw [o20 c q]; exact v7 z c c0 c1
        · omega
      · rw [e' 5 _ (by decide)] at z
        have q : c ≠ a := fun q => z (by rw [q]; exact hh)
        rw [o20 c q]; exact v8 c c0 c1 z
      · have := l20' b
        have k20b := h.1.1.k20 b
        exact (TC.none (lo := 40 * 0) (hi := 40 * 0 + 0) (fun k y hk => e' k y (by omega))).un (by decide) (by decide) ⟨b0, b1⟩ ⟨by omega, s1⟩ (Or.inr (by omega)) (h.2.2.2.1 b s b0 b1 (by omega) s1)
    have v6 := h.2.1.fh
    have f21 : ∀ s, T 21 s ≠ 0 → T 22 s = 0 := fun s z => by
      rcases sb'.1 s with y | y
      · rw [y.2]; exact v6 s (by rw [← y.1]; exact z)
      · exact y.2
    split
    · refine fin (uJ T 20 a (J 20 a)) (t2.1.u (Or.inr ⟨by show (0 : Int) ≤ _; omega, by show _ ≤ (40 : Int); omega⟩)) (fun c => by rw [uJ_ne (by decide), uJ_ne (by decide)]; exact t2.2.1 c) (fun k x k1 k2 k3 k4 k5 k6 k7 k8 k9 k10 k11 => by rw [uJ_ne k7]; exact to k x k1 k4 k5 k6 k7 k8 k9 k10) (fun x x1 x2 x3 => by rw [uJ_ne (by decide)]; exact tm x x1 x2) (Or.inl ⟨by rw [uJ_ne (by decide)]; exact tm 4 (by decide) (by decide), by rw [uJ_self, upI_self]⟩) (fun s => by rw [uJ_ne (by decide), uJ_ne (by decide)]; exact f21 s) (by rw [uJ_self, upI_self]; exact Int.le_refl _) (fun x hx => by rw [uJ_self, upI_ne _ _ hx]; exact sb'.2.2.2 x hx)
    · have k15 := h.1.1.k15 a
      have e15 : T 15 a = J 15 a := to 15 a (by decide) (by decide) (by decide) (by decide) (by decide) (by decide) (by decide) (by decide)
      have n30 : J 15 a ≠ 30 := fun z => n1 (Or.inr z)
      have r : MR (sdJ T a sl (J 20 a)) := by
        unfold sdJ
        refine (((hcL_i t2.1 _).1.u (Or.inl rfl)).u (Or.inr ⟨?_, ?_⟩)).u (Or.inr ⟨?_, ?_⟩)
        · show (-1 : Int) ≤ _; omega
        · show _ ≤ (29 : Int); omega
        · show (0 : Int) ≤ _; omega
        · show _ ≤ (30 : Int); omega
      refine fin (sdJ T a sl (J 20 a)) r (fun c => by rw [sdJ_o (by decide), sdJ_o (by decide)]; exact t2.2.1 c) (fun k x k1 k2 k3 k4 k5 k6 k7 k8 k9 k10 k11 => by rw [sdJ_o ⟨k1, k2, k3, k9, k11⟩]; exact to k x k1 k4 k5 k6 k7 k8 k9 k10) (fun x x1 x2 x3 => by rw [sdJ_m, if_neg x3]; exact tm x x1 x2) (Or.inr (by rw [sdJ_m, if_pos rfl])) (fun s => ?_) (by rw [sdJ_o (by decide)]; exact sb'.2.2.1) (fun x hx => by rw [sdJ_o (by decide)]; exact sb'.2.2.2 x hx)
      rw [sdJ_o (by decide), sdJ_22]
      intro z
      by_cases y : 40 * a + J 20 a ≤ s ∧ s < 40 * a + J 20 a + (T 20 a - J 20 a).toNat
      · exact absurd (sb'.2.1 s y.1 (by omega)) z
      · rw [if_neg y]; exact f21 s z
theorem J0_o {k x : Int} (h1 : k ≠ -1) (h2 : k ≠ 16) (h3 : k ≠ 25) : J0 k x = 0 := by
  unfold J0 Jb
  rw [wJ_ne h3, wJ_ne h2, uJ_ne h1, uJ_ne h1]
theorem J0_m {x : Int} : J0 (-1) x = if x = 2 then 2 else if x = 3 then 4 else 0 := by
  unfold J0 Jb
  rw [wJ_ne (by decide), wJ_ne (by decide), uJ_self]
  by_cases z : x = 3
  · rw [z, upI_self]; rfl
  · rw [upI_ne _ _ z, uJ_self]
    by_cases y : x = 2
    · rw [y, upI_self]; rfl
    · rw [upI_ne _ _ y, if_neg y, if_neg z]
theorem J0_25 {x : Int} : J0 25 x = if 0 ≤ x ∧ x < 4800 then -1 else 0 := by
  unfold J0
  by_cases z : 0 ≤ x ∧ x < 4800
  · rw [wJ_in z, if_pos z]
  · rw [if_neg z, wJ_out (by omega), wJ_ne (by decide)]; rfl
theorem J0_16 {x : Int} : J0 16 x = if 0 ≤ x ∧ x < 60 then -1 else 0 := by
  unfold J0
  rw [wJ_ne (by decide)]
  by_cases z : 0 ≤ x ∧ x < 60
  · rw [wJ_in z, if_pos z]
  · rw [if_neg z, wJ_out (by omega)]; rfl
theorem iteN {c : Prop} [Decidable c] {x y : Int} (h1 : 0 ≤ x) (h2 : 0 ≤ y) : 0 ≤ (if c then x else y) := by
  split
  · exact h1
  · exact h2
theorem hiK_0 (k : Int) : 0 ≤ hiK k := by
  unfold hiK
  repeat (refine iteN (by decide) ?_)
  decide
theorem sm_z {f : Nat → Int} (h : ∀ i, f i = 0) : ∀ n : Nat, sm f n = 0
  | 0 => rfl
  | n + 1 => by
    show sm f n + f n = 0
    rw [sm_z h n, h n]; rfl
theorem cnt_0 {J : Int → Int → Int} {k o : Int} (h : ∀ x, J 26 x = 0) : cnt J k o = 0 := sm_z (fun i => if_neg (fun z => z.2 (h _))) 480
theorem JI.z : JI J0 := by
  have e : ∀ k x, k ≠ -1 → k ≠ 16 → k ≠ 25 → J0 k x = 0 := fun k x h1 h2 h3 => J0_o h1 h2 h3
  have r : MR J0 := fun k j k1 k2 k3 k4 => by
    by_cases z : k = 25
    · subst z; rw [J0_25]; split <;> decide
    · by_cases y : k = 16
      · subst y; rw [J0_16]; split <;> decide
      · rw [e k j (by omega) y z]
        exact ⟨by unfold loK; split <;> decide, hiK_0 k⟩
  have s : SC J0 := by unfold SC; rw [J0_m, J0_m, J0_m, J0_m, J0_m]; decide
  have c : CI J0 := fun k o _ _ _ _ => by rw [e 10 _ (by decide) (by decide) (by decide)]; exact (cnt_0 (fun x => e 26 x (by decide) (by decide) (by decide))).symm
  have p25 : ∀ a s j, 0 ≤ a → a ≤ 9 → 0 ≤ s → s < 40 → 0 ≤ j → j < 12 → J0 25 (12 * (40 * a + s) + j) = -1 := fun a s j a0 a1 s0 s1 j0 j1 => by rw [J0_25, if_pos (by omega)]
  refine ⟨⟨r, s, c⟩, ⟨fun p p0 p1 => ?_, fun a _ _ => e 9 _ (by decide) (by decide) (by decide), fun a b _ _ _ _ => by rw [e 9 _ (by decide) (by decide) (by decide), e 9 _ (by decide) (by decide) (by decide)], fun s j j' s0 s1 j0 j1 _ _ _ z => ?_, fun a s j a0 a1 s0 s1 j0 j1 _ => ?_, fun s _ => e 22 _ (by decide) (by decide) (by decide), fun _ a _ _ => e 20 _ (by decide) (by decide) (by decide), fun a _ _ _ => e 20 _ (by decide) (by decide) (by decide)⟩, fun c => ?_, fun a s a0 a1 s0 s1 j j0 j1 => ?_, fun j => ?_⟩
  · rw [J0_25, if_pos ⟨p0, p1⟩]; exact ⟨fun _ => e 26 _ (by decide) (by decide) (by decide), fun z => by omega⟩
  · rw [J0_25, if_pos (by omega)] at z; omega
  · rw [p25 a s j a0 a1 s0 s1 j0 j1]; decide
  · rw [e 18 _ (by decide) (by decide) (by decide), e 19 _ (by decide) (by decide) (by decide)]; decide
  · rw [e 20 _ (by decide) (by decide) (by decide)] at s0
    exact ⟨p25 a s j a0 a1 s0 s1 j0 j1, e 26 _ (by decide) (by decide) (by decide), e 28 _ (by decide) (by decide) (by decide), fun x _ _ => e 27 _ (by decide) (by decide) (by decide), fun x _ _ => e 29 _ (by decide) (by decide) (by decide)⟩
  · rw [e 11 _ (by decide) (by decide) (by decide), J0_m]; decide
