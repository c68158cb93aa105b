/-! ===== the class on the relation: coding, choosing a keeper ===== -/
/-- what is only scratch on the class's side -/
theorem RC.scr {J : Int → Int → Int} {E : Nm → Int → Int} {ty : Nm → Nat} {ln : Nm → Int} {I I' : Nm → Int → Int} {R : Nm → Int → Option Nm} (h : RC J E ty ln I R) (e : ∀ n x, n ≠ [1, 4] → n ≠ [1, 5] → hd n ≠ 16 → (∀ r, n ≠ [17, 2, r]) → (n ≠ [17] ∨ x ≠ 6) → I' n x = I n x) : RC J E ty ln I' R := by
  have f4 : ∀ n x, hd n ≠ 1 → hd n ≠ 16 → hd n ≠ 17 → I' n x = I n x := fun n x h1 h2 h3 => e n x (fun z => h1 (by rw [z]; rfl)) (fun z => h1 (by rw [z]; rfl)) h2 (fun r z => h3 (by rw [z]; rfl)) (Or.inl (fun z => h3 (by rw [z]; rfl)))
  refine h.step (fun _ _ _ => rfl) (fun _ _ _ => rfl) (fun n hn n1 n2 n3 x hx => e n x n1 n2 (by omega) n3 hx) (fun n x hn => ?_) (fun a x => f4 _ _ (by show (4 : Int) ≠ 1; decide) (by show (4 : Int) ≠ 16; decide) (by show (4 : Int) ≠ 17; decide)) (fun a => f4 _ _ (by show (4 : Int) ≠ 1; decide) (by show (4 : Int) ≠ 16; decide) (by show (4 : Int) ≠ 17; decide)) (fun n x k y hl => Or.inl ⟨f4 _ _ (by rw [hl.hd4]; decide) (by rw [hl.hd4]; decide) (by rw [hl.hd4]; decide), rfl⟩)
  rcases hn with g | ⟨a', k', l', g, g'⟩ | ⟨a', g⟩ | ⟨a', g, g'⟩ | ⟨a', s', g, g'⟩
  · exact f4 _ _ (by omega) (by omega) (by omega)
  all_goals (rw [g]; exact f4 _ _ (by show (4 : Int) ≠ 1; decide) (by show (4 : Int) ≠ 16; decide) (by show (4 : Int) ≠ 17; decide))
/-- what is only scratch on the reference's side -/
theorem RC.js {J J' : Int → Int → Int} {E : Nm → Int → Int} {ty : Nm → Nat} {ln : Nm → Int} {I : Nm → Int → Int} {R : Nm → Int → Option Nm} (h : RC J E ty ln I R) (j : ∀ k x, k ≠ -1 → k ≠ 31 → k ≠ 32 → k ≠ 33 → k ≠ 34 → k ≠ 37 → J' k x = J k x) (jm : ∀ x, x ≠ 0 → x ≠ 30 → J' (-1) x = J (-1) x) : RC J' E ty ln I R := by
  refine h.step (fun k x hk => j k x (by omega) (by omega) (by omega) (by omega) (by omega) (by omega)) jm (fun _ _ _ _ _ _ _ => rfl) (fun _ _ _ => rfl) (fun _ _ => rfl) (fun _ => rfl) (fun n x k y hl => Or.inl ⟨rfl, ?_⟩)
  refine j k y ?_ ?_ ?_ ?_ ?_ ?_ <;> (unfold LK at hl; rcases hl with ⟨a, h1, rfl, h3, h4⟩ | ⟨a, b, h1, rfl, h3, h4, h5, h6⟩ | ⟨a, t, h1, rfl, h3, h4, h5, h6⟩ | ⟨a, s, h1, rfl, h3, h4⟩ | ⟨a, s, b, h1, rfl, h3, h4, h5, h6⟩ | ⟨a, s, j, h1, rfl, h3, h4⟩ | ⟨a, s, j, h1, rfl, h3, h4, h5⟩ | ⟨a, s, j, h1, rfl, h3, h4, h5⟩ <;> omega)
/-- a stretch on both sides -/
theorem RC.st {J : Int → Int → Int} {E : Nm → Int → Int} {ty : Nm → Nat} {ln : Nm → Int} {I : Nm → Int → Int} {R : Nm → Int → Option Nm} {n : Nm} {lo hi k B : Int} {f : Int → Int} (h : RC J E ty ln I R) (hl : ∀ x, lo ≤ x → x < hi → LK J n x k (B + x)) (hk : k ≠ 5 ∧ k ≠ -1 ∧ k ≠ 12 ∧ k ≠ 13 ∧ k ≠ 20 ∧ k ≠ 36) : RC (wJ J k (B + lo) (B + hi) f) E ty ln (wI I n lo hi (fun x => f (B + x))) R := by
  have io : ∀ n' x', (n' = n → lo ≤ x' → x' < hi → False) → wI I n lo hi (fun x => f (B + x)) n' x' = I n' x' := fun n' x' z => if_neg (fun y => z y.1 y.2.1 y.2.2)
  refine h.step (fun k' x' hk' => by rw [wJ_ne (by omega)]) (fun x' _ _ => by rw [wJ_ne (by omega)]) (fun n' hn _ _ _ x' _ => io _ _ (fun e a b => by rw [e, (hl x' a b).hd4] at hn; omega)) (fun n' x' hn => io _ _ (fun e a b => (hl x' a b).nev (e ▸ hn))) (fun a x' => io _ _ (fun e a' b => (hl x' a' b).n6.1 a e.symm)) (fun a => io _ _ (fun e a' b => (hl 0 a' b).n6.2 ⟨a, e.symm, rfl⟩)) (fun n' x' k' y' hl' => ?_)
  by_cases q : n' = n ∧ lo ≤ x' ∧ x' < hi
  · obtain ⟨rfl, q1, q2⟩ := q
    obtain ⟨rfl, rfl⟩ := hl'.fn (hl x' q1 q2)
    right
    rw [wI_in ⟨q1, q2⟩, wJ_in ⟨by omega, by omega⟩]
  · left
    refine ⟨io _ _ (fun e a b => q ⟨e, a, b⟩), ?_⟩
    by_cases z : k' = k ∧ B + lo ≤ y' ∧ y' < B + hi
    · exfalso
      obtain ⟨rfl, z1, z2⟩ := z
      have g := hl (y' - B) (by omega) (by omega)
      rw [show B + (y' - B) = y' by omega] at g
      obtain ⟨rfl, rfl⟩ := g.inj hl'
      exact q ⟨rfl, by omega, by omega⟩
    · exact if_neg z
theorem ix60 {k l i t : Int} (hk : 2 ≤ k ∧ k ≤ 6) (hl : l = 60 / k) (hi : 0 ≤ i ∧ i < k) (ht : 0 ≤ t ∧ t < l) : 0 ≤ i * l + t ∧ i * l + t < 60 := by
  have : k = 2 ∨ k = 3 ∨ k = 4 ∨ k = 5 ∨ k = 6 := by omega
  rcases this with rfl | rfl | rfl | rfl | rfl
  · rw [hl] at ht ⊢; omega
  · rw [hl] at ht ⊢; omega
  · rw [hl] at ht ⊢; omega
  · rw [hl] at ht ⊢; omega
  · rw [hl] at ht ⊢; omega
theorem enN_c {f g : Int → Int} {k l j t : Int} (hk : 2 ≤ k ∧ k ≤ 6) (hl : l = 60 / k) (ht : 0 ≤ t ∧ t < l) (h : ∀ x, 0 ≤ x → x < 60 → f x = g x) : ∀ i : Nat, (i : Int) ≤ k → enN f l j t i = enN g l j t i
  | 0, _ => rfl
  | i + 1, hi => by
    have z := ix60 hk hl (i := i) ⟨by omega, by omega⟩ ht
    show xorZ (enN f l j t i) (mulZ (cfZ j i) (f (i * l + t))) = xorZ (enN g l j t i) (mulZ (cfZ j i) (g (i * l + t)))
    rw [enN_c hk hl ht h i (by omega), h _ z.1 z.2]
theorem anS_c {f g : Int → Int} {l q : Int} (hl : 0 < l) (h : ∀ x, 0 ≤ x → x < l → f x = g x) : ∀ t : Nat, anS f l q t = anS g l q t
  | 0 => rfl
  | t + 1 => by
    show anS f l q t + ((t : Int) + 1) * f ((7 * q + t * (1 + q % (l - 1))) % l) = anS g l q t + ((t : Int) + 1) * g ((7 * q + t * (1 + q % (l - 1))) % l)
    rw [anS_c hl h t, h _ (Int.emod_nonneg _ (by omega)) (Int.emod_lt_of_pos _ hl)]
theorem sumR_c {f g : Int → Int} : ∀ n : Nat, (∀ x : Int, 0 ≤ x → x < n → f x = g x) → sumR f n = sumR g n
  | 0, _ => rfl
  | n + 1, h => by
    show w32 (sumR f n + f n) = w32 (sumR g n + g n)
    rw [sumR_c n (fun x a b => h x a (by omega)), h n (by omega) (by omega)]
theorem eqN_c {f g f' g' : Int → Int} : ∀ n : Nat, (∀ x : Int, 0 ≤ x → x < n → f x = f' x ∧ g x = g' x) → eqN f g n = eqN f' g' n
  | 0, _ => rfl
  | n + 1, h => by
    show (if eqN f g n = 0 ∨ f n ≠ g n then (0 : Int) else 1) = (if eqN f' g' n = 0 ∨ f' n ≠ g' n then (0 : Int) else 1)
    rw [eqN_c n (fun x a b => h x a (by omega)), (h n (by omega) (by omega)).1, (h n (by omega) (by omega)).2]
theorem lK {k : Int} (hk : 2 ≤ k ∧ k ≤ 6) : 10 ≤ 60 / k ∧ 60 / k ≤ 30 := by
  have : k = 2 ∨ k = 3 ∨ k = 4 ∨ k = 5 ∨ k = 6 := by omega
  rcases this with rfl | rfl | rfl | rfl | rfl <;> decide
/-- the row that isPieceOf makes -/
def duI (J : Int → Int → Int) (I : Nm → Int → Int) (kk s j : Int) : Nm → Int → Int := wI I [1, 5] 0 (60 / J (-1) 2) (fun t => enN (fun x => J kk (60 * s + x)) (60 / J (-1) 2) j t (J (-1) 2).toNat)
theorem RC.du {J : Int → Int → Int} {E : Nm → Int → Int} {ty : Nm → Nat} {ln : Nm → Int} {I : Nm → Int → Int} {R : Nm → Int → Option Nm} {kk s j : Int} (h : RC J E ty ln I R) : RC J E ty ln (duI J I kk s j) R := h.scr (fun n x _ n2 _ _ _ => by unfold duI; rw [wI_ne n2])
theorem y_encode {d : Nat} {K : Kt} {X : Xt} {J : Int → Int → Int} {E : Nm → Int → Int} {ty : Nm → Nat} {ln : Nm → Int} {I : Nm → Int → Int} {R : Nm → Int → Option Nm} {c w : Nat} {a s j b : Int} {m : Nm} (h : RC J E ty ln I R) (hR : MR J) (hs : sgJ J a s) (hb : b = 0 ∨ b = 1) (hj : 0 ≤ j ∧ j < 12) (m1 : ty m = 1) (m2 : 60 / J (-1) 2 ≤ ln m) (m3 : wr m = true) (m4 : m ≠ [4, a, 8, s, b]) (m5 : hd m ≠ 17) :
    Mth (d + 2) M_Coder_encode [vR (some [17]), vR (some [4, a, 8, s, b]), vI j, vR (some m)] (ty, ln, I, R, c, w) K X = K none (ty, ln, wI I m 0 (60 / J (-1) 2) (fun t => enN (fun x => J (23 + b) (60 * (40 * a + s) + x)) (60 / J (-1) 2) j t (J (-1) 2).toNat), R, c, w) := by
  obtain ⟨g0, ⟨gr0, gt0, gl0⟩, ⟨gr1, gt1, gl1⟩, ⟨gr2, gt2, gl2⟩, gp⟩ := h.sg a s hs
  obtain ⟨q1, q2, q3, q4, -, -, -, q8⟩ := h.g
  have vv : ∀ x, 0 ≤ x → x < 60 → I [4, a, 8, s, b] x = J (23 + b) (60 * (40 * a + s) + x) := by
    intro x x0 x1
    rcases hb with rfl | rfl
    · exact h.ri _ _ _ _ (l23 ⟨hs, x0, x1⟩)
    · exact h.ri _ _ _ _ (l24 ⟨hs, x0, x1⟩)
  have tt : ty [4, a, 8, s, b] = 1 ∧ ln [4, a, 8, s, b] = 60 := by
    rcases hb with rfl | rfl
    · exact ⟨gt0, gl0⟩
    · exact ⟨gt1, gl1⟩
  have bb : ∀ x, 0 ≤ J (23 + b) x ∧ J (23 + b) x ≤ 255 := by
    intro x
    rcases hb with rfl | rfl
    · exact hR.k23 x
    · exact hR.k24 x
  rw [s_encode q2 q3 q8.1 rfl q4.1 q4.2.2 hj tt.1 tt.2 (fun x x0 x1 => by rw [vv x x0 x1]; have := bb (60 * (40 * a + s) + x); omega) m1 m2 m3 m4 m5]
  refine congrArg (fun z => K none (ty, ln, z, R, c, w)) ?_
  funext n x
  unfold wI
  by_cases z : n = m ∧ 0 ≤ x ∧ x < 60 / J (-1) 2
  · rw [if_pos z, if_pos z]
    exact enN_c q8.1 rfl z.2 vv _ (by omega)
  · rw [if_neg z, if_neg z]
theorem y_isPieceOf {d : Nat} {K : Kt} {X : Xt} {J : Int → Int → Int} {E : Nm → Int → Int} {ty : Nm → Nat} {ln : Nm → Int} {I : Nm → Int → Int} {R : Nm → Int → Option Nm} {c w : Nat} {a s j b : Int} (h : RC J E ty ln I R) (hR : MR J) (hp : piJ J a s j) (hb : b = 0 ∨ b = 1) :
    Mth (d + 3) M_FB_isPieceOf [vR (some [1]), vR (some [4, a, 8, s, b]), vI j, vR (some [4, a, 8, s, 3, j])] (ty, ln, I, R, c, w) K X = K (some (vI (rtJ J (23 + b) (40 * a + s) j))) (ty, ln, duI J I (23 + b) (40 * a + s) j, R, c, w) := by
  have hs := hp.1
  obtain ⟨g0, ⟨gr0, gt0, gl0⟩, ⟨gr1, gt1, gl1⟩, ⟨gr2, gt2, gl2⟩, gp⟩ := h.sg a s hs
  obtain ⟨f1, fr0, fr1, fr2, fr3, fr4, fr5, ⟨ft0, fl0⟩, ⟨ft3, fl3⟩, ⟨ft4, fl4⟩, ⟨ft5, fl5⟩, ft16, fr160, fr161, ⟨ft160, fl160⟩, ⟨ft161, fl161⟩⟩ := id h.g.1
  obtain ⟨pr, pt, ⟨pr0, pt0, pl0⟩, -⟩ := gp j hp.2.1 hp.2.2.2
  have sc := h.g.2.2.2.2.2.2.2
  have h17 := h.g.2.1.1
  have lb := lK sc.1
  have h' := h.du (kk := 23 + b) (s := 40 * a + s) (j := j)
  rw [in_FB_isPieceOf, b_FB_isPieceOf_0, and_t f1, and_t f1, fr1, ex_some, and_t h17, fr5, y_encode h hR hs hb ⟨hp.2.1, hp.2.2.1⟩ ft5 (by omega) rfl (by simp) (by show (1 : Int) ≠ 17; decide)]
  show Rn (d + 2) M_FB_isPieceOf K X 13 [vR (some [1]), vR (some [4, a, 8, s, b]), vI j, vR (some [4, a, 8, s, 3, j]), vJ] [] (ty, ln, duI J I (23 + b) (40 * a + s) j, R, c, w) = _
  rw [b_FB_isPieceOf_13]
  have dv : ∀ x, 0 ≤ x → x < 60 / J (-1) 2 → duI J I (23 + b) (40 * a + s) j [1, 5] x = mpJ J (23 + b) (40 * a + s) j 31 x := by
    intro x x0 x1
    unfold duI mpJ
    rw [wI_in ⟨x0, x1⟩, wJ_in ⟨x0, x1⟩]
  have key : ∀ q i : Nat, (i : Int) + q = 60 / J (-1) 2 → eqN (mpJ J (23 + b) (40 * a + s) j 31) (fun t => J 27 (30 * (12 * (40 * a + s) + j) + t)) i = 1 → Rn (d + 2) M_FB_isPieceOf K X 16 [vR (some [1]), vR (some [4, a, 8, s, b]), vI j, vR (some [4, a, 8, s, 3, j]), vI (i : Int)] [] (ty, ln, duI J I (23 + b) (40 * a + s) j, R, c, w) = K (some (vI (rtJ J (23 + b) (40 * a + s) j))) (ty, ln, duI J I (23 + b) (40 * a + s) j, R, c, w) := by
    intro q
    induction q with
    | zero =>
      intro i hi e
      rw [b_FB_isPieceOf_16, ex_some, and_t pt, pr0, ex_some, and_t (Or.inl (by omega)), if_pos (by omega), and_t (Or.inr rfl)]
      unfold rtJ
      rw [show (60 / J (-1) 2).toNat = i by omega, e]
    | succ q ih =>
      intro i hi e
      rw [b_FB_isPieceOf_16, ex_some, and_t pt, pr0, ex_some, and_t (Or.inl (by omega)), if_neg (by omega), ex_some, and_t pt, pr0, ex_some, and_t ⟨Or.inl pt0, by omega, by omega⟩, and_t f1, fr5, ex_some, and_t ⟨Or.inl ft5, by omega, by omega⟩, h'.ri _ _ _ _ (l27 ⟨hp, by omega, by omega, by omega⟩), dv i (by omega) (by omega)]
      by_cases c1 : mpJ J (23 + b) (40 * a + s) j 31 i = J 27 (30 * (12 * (40 * a + s) + j) + i)
      · rw [if_pos c1.symm, w32_id (by omega) (by omega)]
        exact ih (i + 1) (by omega) (if_neg (fun z => z.elim (fun y => by rw [e] at y; omega) (fun y => y c1)))
      · rw [if_neg (fun z => c1 z.symm), and_t (Or.inl rfl)]
        unfold rtJ
        rw [eqN_0 (f := mpJ J (23 + b) (40 * a + s) j 31) (g := fun t => J 27 (30 * (12 * (40 * a + s) + j) + t)) (t := i + 1) (n := (60 / J (-1) 2).toNat) (if_pos (Or.inr c1)) (by omega)]
  exact key (60 / J (-1) 2).toNat 0 (by omega) rfl
theorem y_answerAll {d : Nat} {K : Kt} {X : Xt} {ty : Nm → Nat} {ln : Nm → Int} {I : Nm → Int → Int} {R : Nm → Int → Option Nm} {c w : Nat} {l : Int} {m r : Nm} (s1 : ty [17] = 102) (k5 : I [17] 5 = l) (hl : 10 ≤ l ∧ l ≤ 30) (m1 : ty m = 1) (m2 : l ≤ ln m) (hf : ∀ x, 0 ≤ x → x < l → 0 ≤ I m x ∧ I m x < 256) (r1 : ty r = 1) (r2 : ln r = 8) (r3 : wr r = true) (r4 : r ≠ m) (r5 : r ≠ [17]) :
    Mth (d + 2) M_Coder_answerAll [vR (some [17]), vR (some m), vR (some r)] (ty, ln, I, R, c, w) K X = K none (ty, ln, wI I r 0 8 (fun q => anS (I m) l q (l / 2).toNat), R, c, w) := by
  have key : ∀ q i : Nat, i + q = 8 → Rn (d + 1) M_Coder_answerAll K X 2 [vR (some [17]), vR (some m), vR (some r), vI (i : Int)] [] (ty, ln, wI I r 0 i (fun q => anS (I m) l q (l / 2).toNat), R, c, w) = K none (ty, ln, wI I r 0 8 (fun q => anS (I m) l q (l / 2).toNat), R, c, w) := by
    intro q
    induction q with
    | zero =>
      intro i hi
      rw [b_Coder_answerAll_2, if_pos (by omega), show (i : Int) = 8 by omega]
    | succ q ih =>
      intro i hi
      have em : wI I r 0 i (fun q => anS (I m) l q (l / 2).toNat) m = I m := wI_ne (Ne.symm r4)
      rw [b_Coder_answerAll_2, if_neg (by omega), and_t s1, s_answer s1 (by rw [wI_ne (Ne.symm r5)]; exact k5) hl (by omega) m1 m2 (by rw [em]; exact hf), em]
      show Rn (d + 1) M_Coder_answerAll K X 16 [vR (some [17]), vR (some m), vR (some r), vI (i : Int)] [vI (anS (I m) l i (l / 2).toNat), vI (i : Int), vR (some r)] (ty, ln, wI I r 0 i (fun q => anS (I m) l q (l / 2).toNat), R, c, w) = _
      rw [b_Coder_answerAll_16, ex_some, and_t ⟨r1, r3, by omega, by omega⟩, wI_up (by omega) (by rfl), w32_id (by omega) (by omega)]
      exact ih (i + 1) (by omega)
  have z := key 8 0 rfl
  rw [wI_nil (by decide)] at z
  rw [in_Coder_answerAll, b_Coder_answerAll_0]
  exact z
theorem y_canTake {d : Nat} {K : Kt} {X : Xt} {J : Int → Int → Int} {E : Nm → Int → Int} {ty : Nm → Nat} {ln : Nm → Int} {I : Nm → Int → Int} {R : Nm → Int → Option Nm} {c w : Nat} {k a : Int} (h : RC J E ty ln I R) (hk : hsJ J k) (ha : 0 ≤ a ∧ a ≤ 9) :
    Mth (d + 1) M_House_canTakeFrom [vR (some [4, k]), vI a] (ty, ln, I, R, c, w) K X = K (some (vI (if J 6 k ≠ 0 ∧ J 7 k = 0 ∧ J 10 (10 * k + a) < J 9 (10 * k + a) then 1 else 0))) (ty, ln, I, R, c, w) := by
  obtain ⟨t0, ⟨r2, t2, l2⟩, ⟨r3, t3, l3⟩, -⟩ := h.hs k hk
  rw [s_House_canTakeFrom t0 r3 t3 l3 r2 t2 l2 ha.1 (by omega), h.ri _ _ _ _ (l6 hk), h.ri _ _ _ _ (l7 hk), h.ri _ _ _ _ (l10 ⟨hk, ha⟩), h.ri _ _ _ _ (l9 ⟨hk, ha⟩)]
theorem y_countKept {d : Nat} {K : Kt} {X : Xt} {J : Int → Int → Int} {E : Nm → Int → Int} {ty : Nm → Nat} {ln : Nm → Int} {I : Nm → Int → Int} {R : Nm → Int → Option Nm} {c w : Nat} {k : Int} (h : RC J E ty ln I R) (hk : hsJ J k) :
    Mth (d + 1) M_House_countKept [vR (some [4, k])] (ty, ln, I, R, c, w) K X = K (some (vI (sumR (fun i => J 10 (10 * k + i)) 10))) (ty, ln, I, R, c, w) := by
  obtain ⟨t0, ⟨r2, t2, l2⟩, ⟨r3, t3, l3⟩, -⟩ := h.hs k hk
  rw [s_House_countKept t0 r3 t3 l3, sumR_c 10 (fun x x0 x1 => h.ri _ _ _ _ (l10 ⟨hk, x0, by omega⟩))]
set_option maxHeartbeats 1000000 in
theorem y_bestKeeper {d : Nat} {K : Kt} {X : Xt} {J : Int → Int → Int} {E : Nm → Int → Int} {ty : Nm → Nat} {ln : Nm → Int} {I : Nm → Int → Int} {R : Nm → Int → Option Nm} {c w : Nat} {a s : Int} (h : RC J E ty ln I R) (hs : sgJ J a s) (hl : ¬ J 10 (10 * a + a) < J 9 (10 * a + a)) :
    Mth (d + 2) M_FB_bestKeeper [vR (some [1]), vR (some [4, a]), vR (some [4, a, 8, s])] (ty, ln, I, R, c, w) K X = K (some (vR (if bestJ J a (40 * a + s) 10 < 0 then none else some [4, bestJ J a (40 * a + s) 10]))) (ty, ln, I, R, c, w) := by
  have ha := hs.1
  obtain ⟨g0, ⟨gr0, gt0, gl0⟩, ⟨gr1, gt1, gl1⟩, ⟨gr2, gt2, gl2⟩, gp⟩ := h.sg a s hs
  obtain ⟨f1, fr0, fr1, fr2, fr3, fr4, fr5, ⟨ft0, fl0⟩, ⟨ft3, fl3⟩, ⟨ft4, fl4⟩, ⟨ft5, fl5⟩, ft16, fr160, fr161, ⟨ft160, fl160⟩, ⟨ft161, fl161⟩⟩ := id h.g.1
  obtain ⟨t0, ⟨r2, t2, ll2⟩, ⟨r3, t3, ll3⟩, ⟨r4, t4, ll4⟩, ⟨r5, t5, ll5⟩, rw5, ⟨r6, t6, ll6⟩, ⟨r7, t7⟩, ⟨r8, t8⟩, ⟨r9, t9⟩⟩ := h.hs a ha
  have key : ∀ q i : Nat, i + q = 10 → ∀ (x4 : Int), (0 ≤ bestJ J a (40 * a + s) i → x4 = sumR (fun t => J 10 (10 * bestJ J a (40 * a + s) i + t)) 10) → ∀ u6 u7 : Vl, isLg u6 = false → isLg u7 = false → Rn (d + 1) M_FB_bestKeeper K X 8 [vR (some [1]), vR (some [4, a]), vR (some [4, a, 8, s]), vR (if bestJ J a (40 * a + s) i < 0 then none else some [4, bestJ J a (40 * a + s) i]), vI x4, vI (i : Int), u6, u7] [] (ty, ln, I, R, c, w) = K (some (vR (if bestJ J a (40 * a + s) 10 < 0 then none else some [4, bestJ J a (40 * a + s) 10]))) (ty, ln, I, R, c, w) := by
    intro q
    induction q with
    | zero =>
      intro i hi x4 e4 u6 u7 v6 v7
      rw [b_FB_bestKeeper_8 v6 v7, if_pos (by omega), show i = 10 by omega]
    | succ q ih =>
      intro i hi x4 e4 u6 u7 v6 v7
      have ih' := ih (i + 1) (by omega)
      have hr := h.g.2.2.2.2.2.2.1 i (by omega) (by omega)
      have no : ¬ (mayK J a (40 * a + s) i ∧ (bestJ J a (40 * a + s) i < 0 ∨ sumR (fun t => J 10 (10 * (i : Int) + t)) 10 < sumR (fun t => J 10 (10 * bestJ J a (40 * a + s) i + t)) 10)) → ∀ (r6 : Option Nm) (u7 : Vl), isLg u7 = false → Rn (d + 1) M_FB_bestKeeper K X 79 [vR (some [1]), vR (some [4, a]), vR (some [4, a, 8, s]), vR (if bestJ J a (40 * a + s) i < 0 then none else some [4, bestJ J a (40 * a + s) i]), vI x4, vI (i : Int), vR r6, u7] [] (ty, ln, I, R, c, w) = K (some (vR (if bestJ J a (40 * a + s) 10 < 0 then none else some [4, bestJ J a (40 * a + s) 10]))) (ty, ln, I, R, c, w) := by
        intro hn r6 u7 v7
        rw [show bestJ J a (40 * a + s) (i + 1) = bestJ J a (40 * a + s) i from if_neg hn] at ih'
        rw [b_FB_bestKeeper_79 v7, w32_id (by omega) (by omega)]
        exact ih' x4 e4 _ _ rfl v7
      rw [b_FB_bestKeeper_8 v6 v7, if_neg (by omega), and_t f1, fr0, ex_some, and_t ⟨⟨by omega, by omega⟩, by omega, by omega⟩]
      by_cases c1 : 0 < J 5 (i : Int)
      · rw [if_pos c1] at hr
        have hk : hsJ J i := ⟨⟨by omega, by omega⟩, c1⟩
        have tk := (h.hs i hk).1
        rw [if_neg (by rw [hr]; simp), ex_some, and_t t0, hr, ex_some, and_t tk, h.nm a ha, y_canTake h hk ha.1]
        show Rn (d + 1) M_FB_bestKeeper K X 38 [vR (some [1]), vR (some [4, a]), vR (some [4, a, 8, s]), vR (if bestJ J a (40 * a + s) i < 0 then none else some [4, bestJ J a (40 * a + s) i]), vI x4, vI (i : Int), vR (some [4, (i : Int)]), u7] [vI (if J 6 i ≠ 0 ∧ J 7 i = 0 ∧ J 10 (10 * i + a) < J 9 (10 * i + a) then 1 else 0)] (ty, ln, I, R, c, w) = _
        rw [b_FB_bestKeeper_38 v7]
        by_cases c2 : J 6 i ≠ 0 ∧ J 7 i = 0 ∧ J 10 (10 * i + a) < J 9 (10 * i + a)
        · have nia : (i : Int) ≠ a := fun e => hl (by rw [e] at c2; exact c2.2.2)
          rw [if_pos c2, if_neg (by decide), ex_some, and_t g0, y_pieceWith h hs]
          show Rn (d + 1) M_FB_bestKeeper K X 47 [vR (some [1]), vR (some [4, a]), vR (some [4, a, 8, s]), vR (if bestJ J a (40 * a + s) i < 0 then none else some [4, bestJ J a (40 * a + s) i]), vI x4, vI (i : Int), vR (some [4, (i : Int)]), u7] [vI (pwJ J i (40 * a + s) (J (-1) 3).toNat)] (ty, ln, I, R, c, w) = _
          rw [b_FB_bestKeeper_47 v7]
          by_cases c3 : pwJ J i (40 * a + s) (J (-1) 3).toNat = -1
          · have may : mayK J a (40 * a + s) i := ⟨nia, c1, c2.1, c2.2.1, c2.2.2, (pwJ_has _).mp c3⟩
            rw [if_pos c3, ex_some, and_t tk, y_countKept h hk]
            show Rn (d + 1) M_FB_bestKeeper K X 59 [vR (some [1]), vR (some [4, a]), vR (some [4, a, 8, s]), vR (if bestJ J a (40 * a + s) i < 0 then none else some [4, bestJ J a (40 * a + s) i]), vI x4, vI (i : Int), vR (some [4, (i : Int)]), u7] [vI (sumR (fun t => J 10 (10 * (i : Int) + t)) 10)] (ty, ln, I, R, c, w) = _
            rw [b_FB_bestKeeper_59 v7]
            have yes : (bestJ J a (40 * a + s) i < 0 ∨ sumR (fun t => J 10 (10 * (i : Int) + t)) 10 < sumR (fun t => J 10 (10 * bestJ J a (40 * a + s) i + t)) 10) → ∀ r3 : Option Nm, Rn (d + 1) M_FB_bestKeeper K X 72 [vR (some [1]), vR (some [4, a]), vR (some [4, a, 8, s]), vR r3, vI x4, vI (i : Int), vR (some [4, (i : Int)]), vI (sumR (fun t => J 10 (10 * (i : Int) + t)) 10)] [] (ty, ln, I, R, c, w) = K (some (vR (if bestJ J a (40 * a + s) 10 < 0 then none else some [4, bestJ J a (40 * a + s) 10]))) (ty, ln, I, R, c, w) := by
              intro hy r3
              rw [show bestJ J a (40 * a + s) (i + 1) = i from if_pos ⟨may, hy⟩, if_neg (show ¬ (i : Int) < 0 by omega)] at ih'
              rw [b_FB_bestKeeper_72, b_FB_bestKeeper_79 rfl, w32_id (by omega) (by omega)]
              exact ih' _ (fun _ => rfl) _ _ rfl rfl
            by_cases c4 : bestJ J a (40 * a + s) i < 0
            · rw [if_pos c4, if_pos rfl]
              exact yes (Or.inl c4) _
            · have e5 := e4 (by omega)
              rw [if_neg c4, if_neg (by simp)]
              by_cases c5 : x4 ≤ sumR (fun t => J 10 (10 * (i : Int) + t)) 10
              · have z := no (fun z => by rcases z.2 with y | y <;> omega) (some [4, (i : Int)]) (vI (sumR (fun t => J 10 (10 * (i : Int) + t)) 10)) rfl
                rw [if_neg c4] at z
                rw [if_pos c5]
                exact z
              · rw [if_neg c5]
                exact yes (Or.inr (by omega)) _
          · rw [if_neg c3]
            exact no (fun z => c3 ((pwJ_has _).mpr z.1.2.2.2.2.2)) _ _ v7
        · rw [if_neg c2, if_pos rfl]
          exact no (fun z => c2 ⟨z.1.2.2.1, z.1.2.2.2.1, z.1.2.2.2.2.1⟩) _ _ v7
      · rw [if_neg c1] at hr
        rw [if_pos hr]
        exact no (fun z => c1 z.1.2.1) _ _ v7
  rw [in_FB_bestKeeper, b_FB_bestKeeper_0]
  exact key 10 0 rfl 0 (fun z => absurd z (by show ¬ (0 : Int) ≤ -1; decide)) vJ vJ rfl rfl
