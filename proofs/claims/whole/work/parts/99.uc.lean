/-! ===== words that calls leave; houses that are not there ===== -/
theorem plJ_8 {J : Int → Int → Int} {a s j x : Int} (h : x ≠ a) : plJ J a s j 8 x = J 8 x := by
  unfold plJ
  split
  · rfl
  · unfold putP
    rw [uJ_self, upI_ne _ _ h, uJ_ne (by decide), uJ_ne (by decide), uJ_ne (by decide), uJ_ne (by decide), wJ_ne (by decide), wJ_ne (by decide), mpJ_o (by decide)]
theorem plA_8 {J : Int → Int → Int} {a s x : Int} (h : x ≠ a) : ∀ n : Nat, (plA J a s n).2 8 x = J 8 x
  | 0 => rfl
  | n + 1 => by
    by_cases q : (plA J a s n).2 25 (12 * s + n) < 0
    · rw [show plA J a s (n + 1) = ((plA J a s n).1 + (if bestJ (plA J a s n).2 a s 10 < 0 then 0 else 1), plJ (plA J a s n).2 a s n) from if_pos q]
      show plJ _ _ _ _ 8 x = _
      rw [plJ_8 h, plA_8 h n]
    · rw [show plA J a s (n + 1) = plA J a s n from if_neg q, plA_8 h n]
theorem puA_8 {J : Int → Int → Int} {a x : Int} (h : x ≠ a) : ∀ n : Nat, (puA J a n).2 8 x = J 8 x
  | 0 => rfl
  | n + 1 => by
    by_cases q : (puA J a n).2 22 (40 * a + n) = 0
    · rw [show puA J a (n + 1) = puA J a n from if_pos q, puA_8 h n]
    · rw [show puA J a (n + 1) = ((puA J a n).1 + (plA (puA J a n).2 a (40 * a + n) (J (-1) 3).toNat).1, (plA (puA J a n).2 a (40 * a + n) (J (-1) 3).toNat).2) from if_neg q]
      show (plA _ _ _ _).2 8 x = _
      rw [plA_8 h, puA_8 h n]
theorem reJ_w {J : Int → Int → Int} {s k x : Int} (h : k ≠ 32 ∧ k ≠ 33 ∧ k ≠ 34 ∧ k ≠ 24 ∧ k ≠ 22) : reJ J s k x = J k x := by
  unfold reJ
  split
  · rw [uJ_ne h.2.2.2.2, wJ_ne h.2.2.2.1, solJ_o ⟨h.1, h.2.1, h.2.2.1⟩]
  · rfl
theorem unJ_w {J : Int → Int → Int} {s k x : Int} (h : k ≠ 25) : ∀ n : Nat, unJ J s n k x = J k x
  | 0 => rfl
  | n + 1 => by
    by_cases q : 0 ≤ unJ J s n 25 (12 * s + n) ∧ unJ J s n 6 (unJ J s n 25 (12 * s + n)) ≠ 0 ∧ unJ J s n 26 (12 * s + n) = 0
    · rw [show unJ J s (n + 1) = uJ (unJ J s n) 25 (12 * s + n) (-1) from if_pos q, uJ_ne h, unJ_w h n]
    · rw [show unJ J s (n + 1) = unJ J s n from if_neg q, unJ_w h n]
/-- the words that repair leaves: of 8 only the owner's may change -/
abbrev rpK (k : Int) : Prop := k = 5 ∨ k = 7 ∨ k = 9 ∨ k = 11 ∨ k = 12 ∨ k = 13 ∨ k = 15 ∨ k = 16 ∨ k = 17 ∨ k = 18 ∨ k = 19 ∨ k = 20 ∨ k = 23
theorem roJ_w {J : Int → Int → Int} {a s k x : Int} (hk : rpK k ∨ (k = 8 ∧ x ≠ a)) : (roJ J a s).2 k x = J k x := by
  unfold rpK at hk
  unfold roJ
  split
  · exact reJ_w (by omega)
  · rcases hk with hk | ⟨rfl, hx⟩
    · rw [plA_o (by omega), unJ_w (by omega), reJ_w (by omega)]
    · rw [plA_8 hx, unJ_w (by decide), reJ_w (by decide)]
theorem rpA_w {J : Int → Int → Int} {a k x : Int} (hk : rpK k ∨ (k = 8 ∧ x ≠ a)) : ∀ n : Nat, (rpA J a n).2 k x = J k x
  | 0 => rfl
  | n + 1 => by
    by_cases q : J 21 (40 * a + n) = 0
    · rw [show rpA J a (n + 1) = ((rpA J a n).1 + (roJ (rpA J a n).2 a (40 * a + n)).1, (roJ (rpA J a n).2 a (40 * a + n)).2) from if_pos q]
      exact (roJ_w hk).trans (rpA_w hk n)
    · rw [show rpA J a (n + 1) = rpA J a n from if_neg q]; exact rpA_w hk n
theorem reS_w {J : Int → Int → Int} {m k x : Int} {q : Nat} (h : k ≠ 32 ∧ k ≠ 33 ∧ k ≠ 34 ∧ k ≠ 37 ∧ k ≠ 36 ∧ k ≠ -1) : reS J m q k x = J k x := by
  unfold reS
  rw [wJ_ne h.2.2.2.2.1, uJ_ne h.2.2.2.2.2, rdS_o ⟨h.1, h.2.1, h.2.2.1, h.2.2.2.1⟩ q]
theorem lsJ_w {J : Int → Int → Int} {a k x : Int} (hG : GI J) (hk : k = 5 ∨ k = 8 ∨ k = 9 ∨ k = 11 ∨ k = 13 ∨ k = 15 ∨ k = 16 ∨ k = 17 ∨ k = 18 ∨ k = 19 ∨ k = 20 ∨ k = 23 ∨ (k = 7 ∧ x ≠ a) ∨ (k = 12 ∧ ¬ (10 * a ≤ x ∧ x < 10 * a + 10))) : lsJ J a k x = J k x := by
  obtain ⟨g, gm, e⟩ := ldJ_i (a := a) hG 4800 (Nat.le_refl _)
  unfold lsJ
  by_cases q7 : k = 7
  · subst q7
    rw [uJ_self, upI_ne _ _ (by omega), wJ_ne (by decide), wJ_ne (by decide), e 7 x (by decide) (by decide)]
  · by_cases q12 : k = 12
    · subst q12
      rw [uJ_ne (by decide), wJ_ne (by decide), wJ_out (by omega), e 12 x (by decide) (by decide)]
    · rw [uJ_ne q7, wJ_ne (by omega), wJ_ne q12, e k x (by omega) (by omega)]
/-- what seal leaves -/
theorem slS_w {J : Int → Int → Int} {a k x : Int} (h : JI J) (ha : 0 ≤ a ∧ a ≤ 9) (hk : k = 5 ∨ k = 7 ∨ k = 8 ∨ k = 9 ∨ k = 11 ∨ k = 12 ∨ k = 13 ∨ (k = 15 ∧ x ≠ a) ∨ (k = 16 ∧ ¬ (6 * a ≤ x ∧ x < 6 * a + 6)) ∨ (k = 20 ∧ x ≠ a)) : (slS J a).2 k x = J k x := by
  unfold slS
  split
  · exact congrFun (uJ_ne (by omega)) x
  · rename_i n1
    obtain ⟨sl, hsl⟩ : ∃ sl, sl = frJ J a 6 := ⟨_, rfl⟩
    rw [← hsl] at n1 ⊢
    have fr := frJ_r (J := J) (a := a) 6 (Nat.le_refl _)
    rw [← hsl] at fr
    obtain ⟨J2, hJ2⟩ : ∃ x, x = wJ (uJ (uJ J (-1) 0 0) (-1) 30 60) 17 (10 * sl) (10 * sl + 10) (fun _ => -1) := ⟨_, rfl⟩
    rw [← hJ2]
    have j2o : ∀ k x, k ≠ -1 → k ≠ 17 → J2 k x = J k x := fun k x k1 k2 => by rw [hJ2, wJ_ne k2, uJ_ne k1, uJ_ne k1]
    have m30 : J2 (-1) 30 = 60 := by rw [hJ2, wJ_ne (by decide), uJ_self, upI_self]
    have hSI : SI J2 a := by
      refine ⟨?_, fun c => by rw [j2o 18 c (by decide) (by decide), j2o 19 c (by decide) (by decide)]; exact h.2.2.1 c, by rw [m30]; decide, Or.inl m30⟩
      rw [hJ2]
      exact ((h.1.1.u (Or.inl rfl)).u (Or.inl rfl)).w (fun _ _ _ => ⟨by decide, by decide⟩)
    obtain ⟨t1, t2, t3, t4, t5, t6, t7⟩ := tgL_i (sl := sl) hSI ha 10 (Nat.le_refl _)
    have sb := (SB.refl (J := J2) (a := a)).tg (sl := sl) 10
    obtain ⟨T, hT⟩ : ∃ T, T = (tgL J2 a sl 10).2.2 := ⟨_, rfl⟩
    rw [← hT] at t3 sb ⊢
    have to : ∀ k x, k ≠ -1 → k ≠ 17 → k ≠ 18 → k ≠ 19 → k ≠ 20 → k ≠ 21 → k ≠ 22 → k ≠ 23 → T k x = J k x := fun k x k1 k2 k3 k4 k5 k6 k7 k8 => by rw [t3 k x k1 k2 k3 k4 k5 k6 k7 k8, j2o k x k1 k2]
    have t20 : x ≠ a → T 20 x = J 20 x := fun hx => by rw [sb.2.2.2 x hx, j2o 20 x (by decide) (by decide)]
    have hTk : T k x = J k x := by
      by_cases q : k = 20
      · subst q; exact t20 (by omega)
      · exact to k x (by omega) (by omega) (by omega) (by omega) q (by omega) (by omega) (by omega)
    split
    · show uJ T 20 a (J 20 a) k x = _
      by_cases q : k = 20
      · subst q; rw [uJ_self, upI_ne _ _ (by omega)]; exact hTk
      · rw [uJ_ne q]; exact hTk
    · show sdJ T a sl (J 20 a) k x = _
      by_cases q : k = 15
      · subst q; rw [sdJ_15, if_neg (by omega)]; exact hTk
      · by_cases q2 : k = 16
        · subst q2; rw [sdJ_16, if_neg (by omega)]; exact hTk
        · rw [sdJ_o (by omega)]; exact hTk
/-- a house that is not there has nothing -/
def NH (J : Int → Int → Int) : Prop := ∀ b, 0 ≤ b → b ≤ 9 → ¬ 0 < J 5 b → (J 7 b = 0 ∧ J 8 b = 0 ∧ J 15 b = 0) ∧ (∀ x, 10 * b ≤ x → x < 10 * b + 10 → J 9 x = 0 ∧ J 11 x = 0 ∧ J 12 x = 0) ∧ (∀ x, 6 * b ≤ x → x < 6 * b + 6 → J 16 x = -1)
/-- what a call of house a leaves of the words of the others -/
def KW (J J' : Int → Int → Int) (a : Int) : Prop := (∀ x, J' 5 x = J 5 x) ∧ (∀ k x, k = 7 ∨ k = 8 ∨ k = 15 → x ≠ a → J' k x = J k x) ∧ (∀ k x, k = 9 ∨ k = 11 ∨ k = 12 → ¬ (10 * a ≤ x ∧ x < 10 * a + 10) → J' k x = J k x) ∧ (∀ x, ¬ (6 * a ≤ x ∧ x < 6 * a + 6) → J' 16 x = J 16 x)
theorem KW.all {J J' : Int → Int → Int} {a : Int} (h : ∀ k x, k = 5 ∨ k = 7 ∨ k = 8 ∨ k = 9 ∨ k = 11 ∨ k = 12 ∨ k = 15 ∨ k = 16 → J' k x = J k x) : KW J J' a := ⟨fun x => h 5 x (by decide), fun k x hk _ => h k x (by omega), fun k x hk _ => h k x (by omega), fun x _ => h 16 x (by decide)⟩
theorem NH.kw {J J' : Int → Int → Int} {a : Int} (h : NH J) (k : KW J J' a) (ha : 0 < J 5 a) : NH J' := by
  obtain ⟨k1, k2, k3, k4⟩ := k
  intro b b0 b1 hb
  rw [k1] at hb
  have hab : b ≠ a := fun z => hb (by rw [z]; exact ha)
  obtain ⟨h1, h2, h3⟩ := h b b0 b1 hb
  refine ⟨by rw [k2 7 b (by decide) hab, k2 8 b (by decide) hab, k2 15 b (by decide) hab]; exact h1, fun x x0 x1 => ?_, fun x x0 x1 => ?_⟩
  · rw [k3 9 x (by decide) (by omega), k3 11 x (by decide) (by omega), k3 12 x (by decide) (by omega)]; exact h2 x x0 x1
  · rw [k4 x (by omega)]; exact h3 x x0 x1
theorem NH.same {J J' : Int → Int → Int} (h : NH J) (e : ∀ k x, k = 5 ∨ k = 7 ∨ k = 8 ∨ k = 9 ∨ k = 11 ∨ k = 12 ∨ k = 15 ∨ k = 16 → J' k x = J k x) : NH J' := by
  intro b b0 b1 hb
  rw [e 5 b (by decide)] at hb
  obtain ⟨h1, h2, h3⟩ := h b b0 b1 hb
  exact ⟨by rw [e 7 b (by decide), e 8 b (by decide), e 15 b (by decide)]; exact h1, fun x x0 x1 => by rw [e 9 x (by decide), e 11 x (by decide), e 12 x (by decide)]; exact h2 x x0 x1, fun x x0 x1 => by rw [e 16 x (by decide)]; exact h3 x x0 x1⟩
/-- and nothing is stored with it -/
theorem NH.st {J : Int → Int → Int} (hG : GI J) (hV : VI J) {b x : Int} (hb : 0 ≤ b ∧ b ≤ 9) (hn : ¬ 0 < J 5 b) (hx : 10 * b ≤ x ∧ x < 10 * b + 10) : J 10 x = 0 := by
  have := hG.2.2 b (x - 10 * b) hb.1 hb.2 (by omega) (by omega)
  rw [show 10 * b + (x - 10 * b) = x by omega] at this
  rw [this]
  refine sm_0 480 (fun i hi => ?_)
  unfold tk
  refine if_neg (fun z => hn ?_)
  have := (hV.pi (480 * (x - 10 * b) + i) (by omega) (by omega)).2 (by rw [z.1]; exact hb.1)
  rw [z.1] at this
  exact this
/-- ten numbers together -/
def s10 (f : Int → Int) : Int := f 0 + f 1 + f 2 + f 3 + f 4 + f 5 + f 6 + f 7 + f 8 + f 9
theorem s10_one {f g : Int → Int} {a : Int} (ha : 0 ≤ a ∧ a ≤ 9) (h : ∀ b, 0 ≤ b → b ≤ 9 → b ≠ a → g b = f b) : s10 g - s10 f = g a - f a := by
  have k : ∀ b : Int, 0 ≤ b → b ≤ 9 → g b = f b ∨ b = a := fun b b0 b1 => by
    by_cases q : b = a
    · exact Or.inr q
    · exact Or.inl (h b b0 b1 q)
  have e : ∀ b : Int, 0 ≤ b → b ≤ 9 → g b - f b = if b = a then g a - f a else 0 := fun b b0 b1 => by
    by_cases q : b = a
    · rw [if_pos q, q]
    · rw [if_neg q, h b b0 b1 q]; omega
  have e0 := e 0 (by decide) (by decide)
  have e1 := e 1 (by decide) (by decide)
  have e2 := e 2 (by decide) (by decide)
  have e3 := e 3 (by decide) (by decide)
  have e4 := e 4 (by decide) (by decide)
  have e5 := e 5 (by decide) (by decide)
  have e6 := e 6 (by decide) (by decide)
  have e7 := e 7 (by decide) (by decide)
  have e8 := e 8 (by decide) (by decide)
  have e9 := e 9 (by decide) (by decide)
  unfold s10
  clear k e h
  have : a = 0 ∨ a = 1 ∨ a = 2 ∨ a = 3 ∨ a = 4 ∨ a = 5 ∨ a = 6 ∨ a = 7 ∨ a = 8 ∨ a = 9 := by omega
  rcases this with rfl | rfl | rfl | rfl | rfl | rfl | rfl | rfl | rfl | rfl <;> simp only [Int.reduceEq, if_true, if_false] at e0 e1 e2 e3 e4 e5 e6 e7 e8 e9 <;> omega
theorem s10_eq {f g : Int → Int} (h : ∀ b, 0 ≤ b → b ≤ 9 → g b = f b) : s10 g = s10 f := by
  have := s10_one (f := f) (g := g) (a := 0) (by decide) (fun b b0 b1 _ => h b b0 b1)
  have := h 0 (by decide) (by decide)
  omega
theorem rmA_s {J : Int → Int → Int} {a : Int} (h : MR J) : 4 * rmA J a 10 ≤ s10 (fun x => J 13 (10 * a + x)) + 30 := by
  have q : rmA J a 10 = 0 + rmQ (J 13 (10 * a + 9)) 0 + rmQ (J 13 (10 * a + 8)) 0 + rmQ (J 13 (10 * a + 7)) 0 + rmQ (J 13 (10 * a + 6)) 0 + rmQ (J 13 (10 * a + 5)) 0 + rmQ (J 13 (10 * a + 4)) 0 + rmQ (J 13 (10 * a + 3)) 0 + rmQ (J 13 (10 * a + 2)) 0 + rmQ (J 13 (10 * a + 1)) 0 + rmQ (J 13 (10 * a + 0)) 0 := rfl
  rw [q]
  dsimp only [s10, rmQ]
  omega
theorem anyR_c {J J' : Int → Int → Int} {a : Int} (h : ∀ k x, k = 6 ∨ k = 8 ∨ k = 25 ∨ k = 26 → J' k x = J k x) : ∀ n : Nat, anyR J' a n = anyR J a n
  | 0 => by unfold anyR; rw [h 8 a (by decide)]
  | n + 1 => by
    unfold anyR isR
    rw [anyR_c h n, h 25 _ (by decide), h 26 _ (by decide), h 6 _ (by decide)]
theorem rcB_1 {J : Int → Int → Int} {a : Int} : rcB (uJ J (-1) 0 0) a = rcB J a := by
  unfold rcB
  rw [anyR_c (fun k x hk => by rw [uJ_ne (by omega)]), uJ_ne (by decide)]
theorem frJ_c {J J' : Int → Int → Int} {a : Int} (h : ∀ x, J' 16 x = J 16 x) : ∀ n : Nat, frJ J' a n = frJ J a n
  | 0 => rfl
  | n + 1 => by
    unfold frJ
    rw [frJ_c h n, h]
theorem slS_1 {J : Int → Int → Int} {a : Int} : slS (uJ J (-1) 0 0) a = slS J a := by
  unfold slS
  rw [frJ_c (J := J) (fun x => by rw [uJ_ne (by decide)]), uJ_ne (k' := 15) (by decide), uJ_ne (k' := 20) (by decide), uJ_same (J := uJ J (-1) 0 0) (k := -1) (j := 0) (v := 0) (by rw [uJ_self, upI_self])]
