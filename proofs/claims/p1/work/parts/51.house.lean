/-! ===== a house is made ===== -/
def HS (ty : Nm → Nat) (ln : Nm → Int) (R : Nm → Int → Option Nm) (a : Int) : Prop :=
  ty [4, a] = 105 ∧ (R [4, a] 2 = some [4, a, 2] ∧ ty [4, a, 2] = 1 ∧ ln [4, a, 2] = 10) ∧ (R [4, a] 3 = some [4, a, 3] ∧ ty [4, a, 3] = 1 ∧ ln [4, a, 3] = 10) ∧ (R [4, a] 4 = some [4, a, 4] ∧ ty [4, a, 4] = 1 ∧ ln [4, a, 4] = 10) ∧ (R [4, a] 5 = some [4, a, 5] ∧ ty [4, a, 5] = 5 ∧ ln [4, a, 5] = 10) ∧ (∀ t : Int, 0 ≤ t → t < 10 → R [4, a, 5] t = some [4, a, 5, t] ∧ ty [4, a, 5, t] = 1 ∧ ln [4, a, 5, t] = 200) ∧ (R [4, a] 6 = some [4, a, 6] ∧ ty [4, a, 6] = 1 ∧ ln [4, a, 6] = 10) ∧ (R [4, a] 7 = some [4, a, 7] ∧ ty [4, a, 7] = 110) ∧ (R [4, a] 8 = some [4, a, 8] ∧ ty [4, a, 8] = 110) ∧ (R [4, a] 9 = some [4, a, 9] ∧ ty [4, a, 9] = 110)
theorem up2_same {α : Type} {f : Nm → Int → α} {n : Nm} {j : Int} {v : α} (h : f n j = v) : up2 f n j v = f := by
  funext m i
  by_cases q : m = n
  · subst q
    rw [up2_self]
    by_cases q2 : i = j
    · subst q2; rw [upI_self, h]
    · rw [upI_ne _ _ q2]
  · rw [up2_ne q]
theorem c_AL_init {d : Nat} {K : Kt} {X : Xt} {t : Nm} {ty : Nm → Nat} {ln : Nm → Int} {I : Nm → Int → Int} {R : Nm → Int → Option Nm} {c w : Nat} (h1 : ty t = 110) (hw9 : wr t = true) (h2 : I t 2 = 0) : Mth (d + 3) M_AL_init [vR (some t)] (ty, ln, I, R, c, w) K X = K none (ty, ln, I, up2 R t 0 (some nE), c, w) := by
  rw [in_AL_init, b_AL_init_0, in_AbL_init, b_AbL_init_0, in_AbC_init, b_AbC_init_0]
  refine b_AbL_init_4.trans ?_
  rw [and_t ⟨h1, hw9⟩, up2_same h2]
  refine b_AL_init_4.trans ?_
  rw [and_t ⟨h1, hw9⟩]
/-- a stretch of a row written anew -/
def wI (I : Nm → Int → Int) (m : Nm) (lo hi : Int) (f : Int → Int) : Nm → Int → Int := fun n j => if n = m ∧ lo ≤ j ∧ j < hi then f j else I n j
theorem wI_ne {I : Nm → Int → Int} {m n : Nm} {lo hi : Int} {f : Int → Int} (h : n ≠ m) : wI I m lo hi f n = I n := by
  funext j
  exact if_neg fun z => h z.1
theorem wI_out {I : Nm → Int → Int} {m : Nm} {lo hi j : Int} {f : Int → Int} (h : j < lo ∨ hi ≤ j) : wI I m lo hi f m j = I m j := if_neg fun z => by omega
theorem wI_in {I : Nm → Int → Int} {m : Nm} {lo hi j : Int} {f : Int → Int} (h : lo ≤ j ∧ j < hi) : wI I m lo hi f m j = f j := if_pos ⟨rfl, h⟩
theorem wI_nil {I : Nm → Int → Int} {m : Nm} {lo hi : Int} {f : Int → Int} (h : hi ≤ lo) : wI I m lo hi f = I := by
  funext n j
  exact if_neg fun z => by omega
theorem wI_up {I : Nm → Int → Int} {m : Nm} {lo hi v : Int} {f : Int → Int} (h : lo ≤ hi) (hv : v = f hi) : up2 (wI I m lo hi f) m hi v = wI I m lo (hi + 1) f := by
  funext n j
  by_cases e : n = m
  · subst e
    rw [up2_self]
    by_cases e2 : j = hi
    · subst e2
      rw [upI_self, wI_in (by omega), hv]
    · rw [upI_ne _ _ e2]
      unfold wI
      by_cases q : lo ≤ j ∧ j < hi
      · rw [if_pos ⟨rfl, q⟩, if_pos ⟨rfl, by omega⟩]
      · rw [if_neg fun z => q z.2, if_neg fun z => q (by omega)]
  · rw [up2_ne e, wI_ne e, wI_ne e]
/-- what a new house's own numbers are -/
def hI0 (a b : Int) : Int → Int := fun j => if j = 1 then b else if j = 0 then a else if j = 11 then 1 else 0
theorem nm4 {a : Int} {l l' : List Int} (h : l ≠ l') : (4 :: a :: l : Nm) ≠ 4 :: a :: l' := fun e => h (by simpa using e)
theorem c_House_init {d : Nat} {K : Kt} {X : Xt} {a b : Int} {ty : Nm → Nat} {ln : Nm → Int} {I : Nm → Int → Int} {R : Nm → Int → Option Nm} {c w : Nat} (h1 : ty [4, a] = 105) (hI : I [4, a] = fun _ => 0) (hf : ∀ l, l ≠ [] → ty (4 :: a :: l) = 0) (hc9 : 18 ≤ c) (hw9 : 2059 ≤ w)
    (k : ∀ (ty' : Nm → Nat) (ln' : Nm → Int) (I' : Nm → Int → Int) (R' : Nm → Int → Option Nm), HS ty' ln' R' a → (I' [4, a] = hI0 a b ∧ (∀ k : Int, k = 2 ∨ k = 3 ∨ k = 4 ∨ k = 7 ∨ k = 8 ∨ k = 9 → I' [4, a, k] = fun _ => 0) ∧ (∀ t : Int, 0 ≤ t → t < 10 → I' [4, a, 6] t = -1)) → (∀ k : Int, k = 7 ∨ k = 8 ∨ k = 9 → R' [4, a, k] 0 = some nE) → (∀ l : List Int, 2 ≤ l.length → (∀ t, l ≠ [5, t]) → ty' (4 :: a :: l) = 0) → (∀ n, (∀ l, n ≠ 4 :: a :: l) → ty' n = ty n ∧ ln' n = ln n ∧ I' n = I n ∧ R' n = R n) → K none (ty', ln', I', R', c - 18, w - 2059)) :
    Mth (d + 4) M_House_init [vR (some [4, a]), vI a, vI b] (ty, ln, I, R, c, w) K X := by
  rw [in_House_init, b_House_init_0]
  refine ⟨⟨by omega, by omega, by omega, by omega⟩, [4, a, 2], hf _ (by simp), ⟨by rw [upN_ne _ _ (by simp)]; exact h1, rfl⟩, ⟨by omega, by omega, by omega, by omega⟩, [4, a, 3], by rw [upN_ne _ _ (by simp)]; exact hf _ (by simp), ⟨by rw [upN_ne _ _ (by simp), upN_ne _ _ (by simp)]; exact h1, rfl⟩, ⟨by omega, by omega, by omega, by omega⟩, [4, a, 4], by rw [upN_ne _ _ (by simp), upN_ne _ _ (by simp)]; exact hf _ (by simp), ⟨by rw [upN_ne _ _ (by simp), upN_ne _ _ (by simp), upN_ne _ _ (by simp)]; exact h1, rfl⟩, ?_⟩
  obtain ⟨ty1, e1⟩ : ∃ x, x = upN (upN (upN ty [4, a, 2] 1) [4, a, 3] 1) [4, a, 4] 1 := ⟨_, rfl⟩
  obtain ⟨ln1, e2⟩ : ∃ x, x = upN (upN (upN ln [4, a, 2] 10) [4, a, 3] 10) [4, a, 4] 10 := ⟨_, rfl⟩
  obtain ⟨I1, e3⟩ : ∃ x, x = upN (upN (upN I [4, a, 2] (fun _ => 0)) [4, a, 3] (fun _ => 0)) [4, a, 4] (fun _ => 0) := ⟨_, rfl⟩
  obtain ⟨R1, e4⟩ : ∃ x, x = up2 (upN (up2 (upN (up2 (upN R [4, a, 2] (fun _ => none)) [4, a] 2 (some [4, a, 2])) [4, a, 3] (fun _ => none)) [4, a] 3 (some [4, a, 3])) [4, a, 4] (fun _ => none)) [4, a] 4 (some [4, a, 4]) := ⟨_, rfl⟩
  rw [← e1, ← e2, ← e3, ← e4]
  have t0 : ty1 [4, a] = 105 := by rw [e1]; simp (disch := simp) only [upN_ne]; exact h1
  have t2 : ty1 [4, a, 2] = 1 ∧ ln1 [4, a, 2] = 10 ∧ I1 [4, a, 2] = (fun _ => 0) ∧ R1 [4, a] 2 = some [4, a, 2] := by rw [e1, e2, e3, e4]; simp (disch := simp) only [upN_ne, upN_self, up2_self, up2_ne, upI_self, upI_ne, and_self]
  have t3 : ty1 [4, a, 3] = 1 ∧ ln1 [4, a, 3] = 10 ∧ I1 [4, a, 3] = (fun _ => 0) ∧ R1 [4, a] 3 = some [4, a, 3] := by rw [e1, e2, e3, e4]; simp (disch := simp) only [upN_ne, upN_self, up2_self, up2_ne, upI_self, upI_ne, and_self]
  have t4 : ty1 [4, a, 4] = 1 ∧ ln1 [4, a, 4] = 10 ∧ I1 [4, a, 4] = (fun _ => 0) ∧ R1 [4, a] 4 = some [4, a, 4] := by rw [e1, e2, e3, e4]; simp (disch := simp) only [upN_ne, upN_self, up2_self, up2_ne, upI_self, upI_ne, and_self]
  have i0 : I1 [4, a] = fun _ => 0 := by rw [e3]; simp (disch := simp) only [upN_ne]; exact hI
  have f1 : ∀ l, l ≠ [] → l ≠ [2] → l ≠ [3] → l ≠ [4] → ty1 (4 :: a :: l) = 0 := fun l x1 x2 x3 x4 => by rw [e1, upN_ne _ _ (nm4 x4), upN_ne _ _ (nm4 x3), upN_ne _ _ (nm4 x2)]; exact hf l x1
  have fr1 : ∀ n, (∀ l, n ≠ 4 :: a :: l) → ty1 n = ty n ∧ ln1 n = ln n ∧ I1 n = I n ∧ R1 n = R n := fun n hn => by rw [e1, e2, e3, e4]; simp (disch := exact hn _) only [upN_ne, up2_ne, and_self]
  clear e1 e2 e3 e4
  refine ⟨⟨by omega, by omega, by omega, by omega, by show 1 + 10 ≤ c - 1 - 1 - 1; omega, by show 10 + 10 * 200 ≤ w - (10 : Int).toNat - (10 : Int).toNat - (10 : Int).toNat; omega⟩, [4, a, 5], fun i => [4, a, 5, (i : Int)], ⟨f1 _ (by simp) (by simp) (by simp) (by simp), rfl, fun i _ => ⟨f1 _ (by simp) (by simp) (by simp) (by simp), by simp⟩, fun i j _ _ e => by
    have e' : (i : Int) = (j : Int) := by simpa using e
    omega⟩, ?_⟩
  obtain ⟨ty2, ln2, I2, R2, e, fr, ⟨g1, g2⟩, rows⟩ := mr_facts (ty := ty1) (ln := ln1) (I := I1) (R := R1) (c := c - 1 - 1 - 1) (w := w - (10 : Int).toNat - (10 : Int).toNat - (10 : Int).toNat) (q := [4, a, 5]) (z := 10) (k := 200) (b := Int.toNat 10) (r := fun i => [4, a, 5, (i : Int)]) (Int.toNat 10) (fun i _ => by simp) (fun i j _ _ e => by
    have e' : (i : Int) = (j : Int) := by simpa using e
    omega)
  rw [e]
  have fr2 : ∀ n, n ≠ [4, a, 5] → (∀ t, n ≠ [4, a, 5, t]) → ty2 n = ty1 n ∧ ln2 n = ln1 n ∧ I2 n = I1 n ∧ R2 n = R1 n := fun n x y => fr n x (fun i _ => y i)
  clear e fr
  rw [b_House_init_38]
  have t0' : ty2 [4, a] = 105 := by rw [(fr2 _ (by simp) (by simp)).1]; exact t0
  have f2 : ∀ l, l ≠ [] → l ≠ [2] → l ≠ [3] → l ≠ [4] → l ≠ [5] → (∀ t, l ≠ [5, t]) → ty2 (4 :: a :: l) = 0 := fun l x1 x2 x3 x4 x5 x6 => by rw [(fr2 _ (nm4 x5) (fun t => nm4 (x6 t))).1]; exact f1 l x1 x2 x3 x4
  have r2 : R2 [4, a] = R1 [4, a] := (fr2 _ (by simp) (by simp)).2.2.2
  refine ⟨⟨t0', rfl⟩, ⟨by omega, by omega, by omega, by show (10 : Int) ≤ ((w - 10 - 10 - 10 - 10 - 10 * 200 : Nat) : Int); omega⟩, [4, a, 6], f2 _ (by simp) (by simp) (by simp) (by simp) (by simp) (by simp), ⟨by rw [upN_ne _ _ (by simp)]; exact t0', rfl⟩, ⟨by show 1 ≤ c - 1 - 1 - 1 - 1 - 10 - 1; omega, by show 3 ≤ w - 10 - 10 - 10 - 10 - 10 * 200 - 10; omega⟩, [4, a, 7], by rw [upN_ne _ _ (by simp)]; exact f2 _ (by simp) (by simp) (by simp) (by simp) (by simp) (by simp), ?_⟩
  rw [c_AL_init (upN_self _ _ _) rfl (by rw [upN_self])]
  refine b_House_init_57.mpr ?_
  refine ⟨⟨by rw [upN_ne _ _ (by simp), upN_ne _ _ (by simp)]; exact t0', rfl⟩, ⟨by show 1 ≤ c - 1 - 1 - 1 - 1 - 10 - 1 - 1; omega, by show 3 ≤ w - 10 - 10 - 10 - 10 - 10 * 200 - 10 - 3; omega⟩, [4, a, 8], by rw [upN_ne _ _ (by simp), upN_ne _ _ (by simp)]; exact f2 _ (by simp) (by simp) (by simp) (by simp) (by simp) (by simp), ?_⟩
  rw [c_AL_init (upN_self _ _ _) rfl (by rw [upN_self])]
  refine b_House_init_68.mpr ?_
  refine ⟨⟨by rw [upN_ne _ _ (by simp), upN_ne _ _ (by simp), upN_ne _ _ (by simp)]; exact t0', rfl⟩, ⟨by show 1 ≤ c - 1 - 1 - 1 - 1 - 10 - 1 - 1 - 1; omega, by show 3 ≤ w - 10 - 10 - 10 - 10 - 10 * 200 - 10 - 3 - 3; omega⟩, [4, a, 9], by rw [upN_ne _ _ (by simp), upN_ne _ _ (by simp), upN_ne _ _ (by simp)]; exact f2 _ (by simp) (by simp) (by simp) (by simp) (by simp) (by simp), ?_⟩
  rw [c_AL_init (upN_self _ _ _) rfl (by rw [upN_self])]
  refine b_House_init_79.mpr ?_
  have tz : (upN (upN (upN (upN ty2 [4, a, 6] 1) [4, a, 7] 110) [4, a, 8] 110) [4, a, 9] 110) [4, a] = 105 := by simp (disch := simp) only [upN_ne]; exact t0'
  refine ⟨⟨tz, rfl⟩, ⟨Or.inr rfl, tz, rfl⟩, ⟨tz, rfl⟩, ⟨tz, rfl⟩, ?_⟩
  have ec : c - 1 - 1 - 1 - 1 - Int.toNat 10 - 1 - 1 - 1 - 1 = c - 18 := by omega
  have ew : w - (10 : Int).toNat - (10 : Int).toNat - (10 : Int).toNat - Int.toNat 10 - Int.toNat 10 * Int.toNat 200 - (10 : Int).toNat - 3 - 3 - 3 = w - 2059 := by
    show w - 10 - 10 - 10 - 10 - 10 * 200 - 10 - 3 - 3 - 3 = w - 2059
    omega
  rw [ec, ew]
  -- what stands now
  obtain ⟨ty3, e1⟩ : ∃ x, x = upN (upN (upN (upN ty2 [4, a, 6] 1) [4, a, 7] 110) [4, a, 8] 110) [4, a, 9] 110 := ⟨_, rfl⟩
  obtain ⟨ln3, e2⟩ : ∃ x, x = upN (upN (upN (upN ln2 [4, a, 6] 10) [4, a, 7] 0) [4, a, 8] 0) [4, a, 9] 0 := ⟨_, rfl⟩
  obtain ⟨I3, e3⟩ : ∃ x, x = up2 (up2 (up2 (upN (upN (upN (upN I2 [4, a, 6] (fun _ => 0)) [4, a, 7] (fun _ => 0)) [4, a, 8] (fun _ => 0)) [4, a, 9] (fun _ => 0)) [4, a] 11 1) [4, a] 0 a) [4, a] 1 b := ⟨_, rfl⟩
  obtain ⟨R3, e4⟩ : ∃ x, x = up2 (up2 (upN (up2 (up2 (upN (up2 (up2 (upN (up2 (upN (up2 R2 [4, a] 5 (some [4, a, 5])) [4, a, 6] (fun _ => none)) [4, a] 6 (some [4, a, 6])) [4, a, 7] (fun _ => none)) [4, a, 7] 0 (some nE)) [4, a] 7 (some [4, a, 7])) [4, a, 8] (fun _ => none)) [4, a, 8] 0 (some nE)) [4, a] 8 (some [4, a, 8])) [4, a, 9] (fun _ => none)) [4, a, 9] 0 (some nE)) [4, a] 9 (some [4, a, 9]) := ⟨_, rfl⟩
  rw [← e1, ← e2, ← e3, ← e4]
  have hS : HS ty3 ln3 R3 a := by
    refine ⟨by rw [e1]; exact tz, ?_, ?_, ?_, ?_, fun t x y => ?_, ?_, ?_, ?_, ?_⟩
    · rw [e1, e2, e4]; simp (disch := simp) only [upN_ne, up2_self, up2_ne, upI_ne]; rw [r2, (fr2 _ (by simp) (by simp)).1, (fr2 _ (by simp) (by simp)).2.1]; exact ⟨t2.2.2.2, t2.1, t2.2.1⟩
    · rw [e1, e2, e4]; simp (disch := simp) only [upN_ne, up2_self, up2_ne, upI_ne]; rw [r2, (fr2 _ (by simp) (by simp)).1, (fr2 _ (by simp) (by simp)).2.1]; exact ⟨t3.2.2.2, t3.1, t3.2.1⟩
    · rw [e1, e2, e4]; simp (disch := simp) only [upN_ne, up2_self, up2_ne, upI_ne]; rw [r2, (fr2 _ (by simp) (by simp)).1, (fr2 _ (by simp) (by simp)).2.1]; exact ⟨t4.2.2.2, t4.1, t4.2.1⟩
    · rw [e1, e2, e4]; simp (disch := simp) only [upN_ne, up2_self, up2_ne, upI_ne, upI_self]; exact ⟨trivial, g1, g2⟩
    · obtain ⟨x1, x2, x3, x4⟩ := rows t.toNat (by show t.toNat < 10; omega)
      rw [Int.toNat_of_nonneg x] at x1 x2 x3
      rw [e1, e2, e4]; simp (disch := simp) only [upN_ne, up2_ne]; exact ⟨x1, x2, x3⟩
    · rw [e1, e2, e4]; simp (disch := simp) only [upN_ne, upN_self, up2_self, up2_ne, upI_ne, upI_self, and_self]
    · rw [e1, e4]; simp (disch := simp) only [upN_ne, upN_self, up2_self, up2_ne, upI_ne, upI_self, and_self]
    · rw [e1, e4]; simp (disch := simp) only [upN_ne, upN_self, up2_self, up2_ne, upI_ne, upI_self, and_self]
    · rw [e1, e4]; simp (disch := simp) only [upN_ne, upN_self, up2_self, up2_ne, upI_ne, upI_self, and_self]
  have key : ∀ k i : Nat, i + k = 10 → Rn (d + 3) M_House_init K X 99 [vR (some [4, a]), vI a, vI b, vI (i : Int)] [] (ty3, ln3, wI I3 [4, a, 6] 0 i (fun _ => -1), R3, c - 18, w - 2059) = K none (ty3, ln3, wI I3 [4, a, 6] 0 10 (fun _ => -1), R3, c - 18, w - 2059) := by
    obtain ⟨s0, -, -, -, -, -, ⟨s1, s2, s3⟩, -⟩ := hS
    intro k
    induction k with
    | zero =>
      intro i hi
      rw [b_House_init_99, if_pos (by omega), show i = 10 by omega]
      rfl
    | succ k ih =>
      intro i hi
      rw [b_House_init_99, if_neg (by omega), and_t s0]
      simp only [s1, Option.some.injEq, exists_eq_left']
      rw [and_t ⟨s2, rfl, by omega, by omega⟩, w32_id (by omega) (by omega), wI_up (by omega) rfl]
      exact ih (i + 1) (by omega)
  have k0 := key 10 0 rfl
  rw [show ((0 : Nat) : Int) = 0 from rfl, wI_nil (by omega)] at k0
  refine k0.mpr (k _ _ _ _ hS ⟨?_, fun k hk => ?_, fun t x y => ?_⟩ (fun k hk => ?_) (fun l l2 l5 => ?_) (fun n hn => ?_))
  · rw [wI_ne (by simp), e3]
    simp (disch := simp) only [up2_self, upN_ne]
    rw [(fr2 _ (by simp) (by simp)).2.2.1, i0]
    rfl
  · rw [wI_ne (by rcases hk with rfl | rfl | rfl | rfl | rfl | rfl <;> simp), e3]
    rcases hk with rfl | rfl | rfl | rfl | rfl | rfl <;> simp (disch := simp) only [up2_ne, upN_ne, upN_self]
    · rw [(fr2 _ (by simp) (by simp)).2.2.1]; exact t2.2.2.1
    · rw [(fr2 _ (by simp) (by simp)).2.2.1]; exact t3.2.2.1
    · rw [(fr2 _ (by simp) (by simp)).2.2.1]; exact t4.2.2.1
  · exact wI_in ⟨x, y⟩
  · rw [e4]
    rcases hk with rfl | rfl | rfl <;> simp (disch := simp) only [upN_ne, upN_self, up2_self, up2_ne, upI_ne, upI_self]
  · have hx : ∀ m : Int, l ≠ [m] := fun m e => by rw [e] at l2; simp at l2
    have hx0 : l ≠ [] := fun e => by rw [e] at l2; simp at l2
    rw [e1, upN_ne _ _ (nm4 (hx _)), upN_ne _ _ (nm4 (hx _)), upN_ne _ _ (nm4 (hx _)), upN_ne _ _ (nm4 (hx _))]
    exact f2 l hx0 (hx _) (hx _) (hx _) (hx _) l5
  · obtain ⟨x1, x2, x3, x4⟩ := fr1 n hn
    obtain ⟨y1, y2, y3, y4⟩ := fr2 n (hn _) (fun t => hn _)
    rw [wI_ne (hn _), e1, e2, e3, e4]
    simp (disch := exact hn _) only [upN_ne, up2_ne]
    rw [y1, y2, y3, y4]
    exact ⟨x1, x2, x3, x4⟩
