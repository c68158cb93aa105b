/-! ===== the coder is made ===== -/
def CdS (ty : Nm → Nat) (ln : Nm → Int) (R : Nm → Int → Option Nm) : Prop :=
  ty [17] = 102 ∧ R [17] 0 = some [17, 0] ∧ R [17] 1 = some [17, 1] ∧ R [17] 2 = some [17, 2] ∧ ty [17, 0] = 104 ∧ R [17, 0] 0 = some [17, 0, 0] ∧ R [17, 0] 1 = some [17, 0, 1] ∧ (ty [17, 0, 0] = 1 ∧ ln [17, 0, 0] = 510) ∧ (ty [17, 0, 1] = 1 ∧ ln [17, 0, 1] = 256) ∧ (ty [17, 1] = 5 ∧ ln [17, 1] = 12) ∧ (ty [17, 2] = 5 ∧ ln [17, 2] = 6) ∧ (∀ j : Int, 0 ≤ j → j < 12 → R [17, 1] j = some [17, 1, j] ∧ ty [17, 1, j] = 1 ∧ ln [17, 1, j] = 6) ∧ (∀ j : Int, 0 ≤ j → j < 6 → R [17, 2] j = some [17, 2, j] ∧ ty [17, 2, j] = 1 ∧ ln [17, 2, j] = 36)
def CV (I : Nm → Int → Int) : Prop := (∀ i : Int, 0 ≤ i → i < 510 → I [17, 0, 0] i = pwI i) ∧ (∀ a : Int, 0 ≤ a → a < 256 → I [17, 0, 1] a = lgZ a) ∧ (∀ j i : Int, 0 ≤ j → j < 12 → 0 ≤ i → i < 6 → I [17, 1, j] i = cfZ j i)
/-- the first t factors put -/
def cI (I : Nm → Int → Int) : Nat → Nm → Int → Int
  | 0 => I
  | t + 1 => up2 (cI I t) [17, 1, ((t / 6 : Nat) : Int)] ((t % 6 : Nat) : Int) (cfZ ((t / 6 : Nat) : Int) ((t % 6 : Nat) : Int))
theorem cI_o {I : Nm → Int → Int} {n : Nm} (h : ∀ j, n ≠ [17, 1, j]) : ∀ t, cI I t n = I n
  | 0 => rfl
  | t + 1 => by
    show up2 (cI I t) [17, 1, ((t / 6 : Nat) : Int)] _ _ n = _
    rw [up2_ne (h _), cI_o h t]
theorem cI_in {I : Nm → Int → Int} : ∀ (t j i : Nat), i < 6 → 6 * j + i < t → cI I t [17, 1, (j : Int)] (i : Int) = cfZ j i
  | t + 1, j, i, hi, ht => by
    show up2 (cI I t) [17, 1, ((t / 6 : Nat) : Int)] _ _ _ _ = _
    by_cases q : 6 * j + i = t
    · have e1 : t / 6 = j := by omega
      have e2 : t % 6 = i := by omega
      rw [e1, e2, up2_self, upI_self]
    · by_cases q2 : t / 6 = j
      · have e2 : t % 6 ≠ i := by omega
        rw [q2, up2_self, upI_ne _ _ (by omega)]
        exact cI_in t j i hi (by omega)
      · rw [up2_ne (fun e => q2 (by
          have e' : (j : Int) = ((t / 6 : Nat) : Int) := by simpa using e
          omega))]
        exact cI_in t j i hi (by omega)
theorem s_Coder_use {d : Nat} {K : Kt} {X : Xt} {a b : Int} {ty : Nm → Nat} {ln : Nm → Int} {I : Nm → Int → Int} {R : Nm → Int → Option Nm} {c w : Nat} (h1 : ty [17] = 102) (ha : 2 ≤ a ∧ a ≤ 6) : Mth (d + 1) M_Coder_use [vR (some [17]), vI a, vI b] (ty, ln, I, R, c, w) K X = K none (ty, ln, up2 (up2 (up2 I [17] 3 a) [17] 4 b) [17] 5 (60 / a), R, c, w) := by
  have e1 : Int.tdiv 60 a = 60 / a := Int.tdiv_eq_ediv_of_nonneg (by decide)
  have e2 : 0 ≤ 60 / a := Int.ediv_nonneg (by decide) (by omega)
  have e3 : 60 / a ≤ 60 := Int.ediv_le_self _ (by decide)
  rw [in_Coder_use, b_Coder_use_0, and_t ⟨h1, rfl⟩, and_t ⟨h1, rfl⟩, and_t (by omega), and_t ⟨h1, rfl⟩, e1, w32_id (by omega) (by omega)]
theorem c_Coder_2 {d : Nat} {K : Kt} {X : Xt} {ty : Nm → Nat} {ln : Nm → Int} {I : Nm → Int → Int} {R : Nm → Int → Option Nm} {c w : Nat} (hS : CdS ty ln R) (hp : ∀ i : Int, 0 ≤ i → i < 510 → I [17, 0, 0] i = pwI i) (hl : ∀ a : Int, 0 ≤ a → a < 256 → I [17, 0, 1] a = lgZ a) :
    ∀ k j : Nat, j + k = 12 → ∀ u, isLg u = false → Rn (d + 1) M_Coder_init K X 41 [vR (some [17]), vI (j : Int), u] [] (ty, ln, cI I (6 * j), R, c, w) = K none (ty, ln, up2 (up2 (up2 (cI I 72) [17] 3 2) [17] 4 4) [17] 5 30, R, c, w) := by
  obtain ⟨s1, s2, s3, s4, s5, s6, s7, s8, s9, s10, s11, s12, s13⟩ := hS
  intro k
  induction k with
  | zero =>
    intro j hj u hu
    rw [b_Coder_init_41 hu, if_pos (by omega), and_t s1, s_Coder_use s1 (by decide)]
    refine (b_Coder_init_94 hu).trans ?_
    rw [show j = 12 by omega]
    rfl
  | succ k ih =>
    intro j hj u hu
    rw [b_Coder_init_41 hu, if_neg (by omega)]
    have inner : ∀ k i : Nat, i + k = 6 → Rn (d + 1) M_Coder_init K X 49 [vR (some [17]), vI (j : Int), vI (i : Int)] [] (ty, ln, cI I (6 * j + i), R, c, w) = K none (ty, ln, up2 (up2 (up2 (cI I 72) [17] 3 2) [17] 4 4) [17] 5 30, R, c, w) := by
      intro k
      induction k with
      | zero =>
        intro i hi
        rw [b_Coder_init_49, if_pos (by omega), w32_id (by omega) (by omega), show i = 6 by omega]
        exact ih (j + 1) (by omega) _ rfl
      | succ k ih2 =>
        intro i hi
        obtain ⟨t1, t2, t3⟩ := s12 j (by omega) (by omega)
        obtain ⟨c1, c2, c3, c4⟩ := cf_ar (j := j) (i := i) (by omega) (by omega)
        have hl1 : cI I (6 * j + i) [17, 0, 1] (xorZ (16 + (j : Int)) i) = lgZ (xorZ (16 + (j : Int)) i) := by
          rw [cI_o (fun j => by simp)]
          exact hl _ (by omega) (by omega)
        have lr := lgZ_r (a := xorZ (16 + (j : Int)) i) (by omega) (by omega)
        rw [b_Coder_init_49, if_neg (by omega), and_t s1]
        simp only [s3, s2, Option.some.injEq, exists_eq_left']
        rw [and_t ⟨⟨by omega, by omega⟩, by omega, by omega⟩, and_t s1, and_t s5, c1, s_Field_inverse s5 s7 s9.1 s9.2 s6 s8.1 s8.2 (by omega) (by omega) (by omega) (by omega), hl1, cI_o (fun j => by simp), hp _ (by omega) (by omega), inv_z ⟨c2, c3⟩, c4, t1]
        refine b_Coder_init_75.trans ?_
        simp only [Option.some.injEq, exists_eq_left']
        rw [and_t ⟨t2, rfl, by omega, by omega⟩, w32_id (by omega) (by omega)]
        have ih' := ih2 (i + 1) (by omega)
        have e : cI I (6 * j + (i + 1)) = up2 (cI I (6 * j + i)) [17, 1, (j : Int)] (i : Int) (cfZ j i) := by
          show up2 (cI I (6 * j + i)) [17, 1, (((6 * j + i) / 6 : Nat) : Int)] (((6 * j + i) % 6 : Nat) : Int) (cfZ (((6 * j + i) / 6 : Nat) : Int) (((6 * j + i) % 6 : Nat) : Int)) = _
          rw [show (6 * j + i) / 6 = j by omega, show (6 * j + i) % 6 = i by omega]
        rw [e] at ih'
        exact ih'
    exact inner 6 0 rfl
theorem rw3 {a b : Int} {i j : Nat} (e : [a, b, (i : Int)] = [a, b, (j : Int)]) : i = j := by
  have e' : (i : Int) = (j : Int) := by simpa using e
  omega
/-- the cells that hold a name with 17 ahead are the coder's -/
theorem c_Coder_init {d : Nat} {K : Kt} {X : Xt} {ty : Nm → Nat} {ln : Nm → Int} {I : Nm → Int → Int} {R : Nm → Int → Option Nm} {c w : Nat} (h1 : ty [17] = 102) (hf : ∀ n, hd n = 17 → n ≠ [17] → ty n = 0) (hc9 : 23 ≤ c) (hw9 : 1074 ≤ w)
    (k : ∀ (ty' : Nm → Nat) (ln' : Nm → Int) (I' : Nm → Int → Int) (R' : Nm → Int → Option Nm), CdS ty' ln' R' → CV I' → (I' [17] 3 = 2 ∧ I' [17] 4 = 4 ∧ I' [17] 5 = 30) → (∀ n, hd n ≠ 17 → ty' n = ty n ∧ ln' n = ln n ∧ I' n = I n ∧ R' n = R n) → K none (ty', ln', I', R', c - 23, w - 1074)) :
    Mth (d + 2) M_Coder_init [vR (some [17])] (ty, ln, I, R, c, w) K X := by
  rw [in_Coder_init, b_Coder_init_0]
  refine ⟨⟨by omega, by omega⟩, [17, 0], hf _ rfl (by decide), ?_⟩
  refine c_Field_init (upN_self _ _ _) (by rw [upN_ne _ _ (by decide)]; exact hf _ rfl (by decide)) (by rw [upN_ne _ _ (by decide)]; exact hf _ rfl (by decide)) (by omega) (by omega) ?_
  show Rn (d + 1) M_Coder_init K X 12 [vR (some [17]), vJ, vJ] [vR (some [17, 0]), vR (some [17])] _
  -- what stands now
  obtain ⟨ty1, e1⟩ : ∃ x, x = upN (upN (upN ty [17, 0] 104) [17, 0, 0] 1) [17, 0, 1] 1 := ⟨_, rfl⟩
  obtain ⟨ln1, e2⟩ : ∃ x, x = upN (upN (upN ln [17, 0] 0) [17, 0, 0] 510) [17, 0, 1] 256 := ⟨_, rfl⟩
  obtain ⟨I1, e3⟩ : ∃ x, x = fI (upN (upN (upN I [17, 0] (fun _ => 0)) [17, 0, 0] (fun _ => 0)) [17, 0, 1] (fun _ => 0)) [17, 0, 0] [17, 0, 1] 255 := ⟨_, rfl⟩
  obtain ⟨R1, e4⟩ : ∃ x, x = up2 (upN (up2 (upN (upN R [17, 0] (fun _ => none)) [17, 0, 0] (fun _ => none)) [17, 0] 0 (some [17, 0, 0])) [17, 0, 1] (fun _ => none)) [17, 0] 1 (some [17, 0, 1]) := ⟨_, rfl⟩
  rw [← e1, ← e2, ← e3, ← e4]
  have hp : ∀ i : Int, 0 ≤ i → i < 510 → I1 [17, 0, 0] i = pwI i := fun i a b => by rw [e3]; exact fI_pw (by decide) a b
  have hl : ∀ a : Int, 0 ≤ a → a < 256 → I1 [17, 0, 1] a = lgZ a := fun a x y => by rw [e3]; exact fI_lg (by decide) (by rw [upN_self]) x y
  have a1 : ty1 [17] = 102 := by rw [e1, upN_ne _ _ (by decide), upN_ne _ _ (by decide), upN_ne _ _ (by decide)]; exact h1
  have a2 : ty1 [17, 0] = 104 := by rw [e1, upN_ne _ _ (by decide), upN_ne _ _ (by decide), upN_self]
  have a3 : ty1 [17, 0, 0] = 1 ∧ ln1 [17, 0, 0] = 510 := by rw [e1, e2, upN_ne _ _ (by decide), upN_self, upN_ne _ _ (by decide), upN_self]; exact ⟨rfl, rfl⟩
  have a4 : ty1 [17, 0, 1] = 1 ∧ ln1 [17, 0, 1] = 256 := by rw [e1, e2, upN_self, upN_self]; exact ⟨rfl, rfl⟩
  have a5 : R1 [17, 0] 0 = some [17, 0, 0] := by rw [e4, up2_self, upI_ne _ _ (by decide), upN_ne _ _ (by decide), up2_self, upI_self]
  have a6 : R1 [17, 0] 1 = some [17, 0, 1] := by rw [e4, up2_self, upI_self]
  have a7 : ∀ n, hd n = 17 → n ≠ [17] → n ≠ [17, 0] → n ≠ [17, 0, 0] → n ≠ [17, 0, 1] → ty1 n = 0 := fun n b1 b2 b3 b4 b5 => by rw [e1, upN_ne _ _ b5, upN_ne _ _ b4, upN_ne _ _ b3]; exact hf n b1 b2
  have a8 : ∀ n, hd n ≠ 17 → ty1 n = ty n ∧ ln1 n = ln n ∧ I1 n = I n ∧ R1 n = R n := fun n hn => by
    rw [e1, e2, e3, e4, fI_o (fun e => hn (by rw [e]; rfl)) (fun e => hn (by rw [e]; rfl))]
    simp (disch := exact hn) only [upN_h, up2_h, and_self]
  clear e1 e2 e3 e4
  -- the factors
  rw [b_Coder_init_12]
  refine ⟨⟨a1, rfl⟩, ⟨by omega, by omega, by omega, by omega, by show 1 + 12 ≤ c - 1 - 2; omega, by show 12 + 12 * 6 ≤ w - 2 - 766; omega⟩, [17, 1], fun i => [17, 1, (i : Int)], ⟨a7 _ rfl (by decide) (by decide) (by decide) (by decide), rfl, fun i hi => ⟨a7 _ rfl (by simp) (by simp) (by simp) (by simp), by simp⟩, fun i j _ _ e => rw3 e⟩, ?_⟩
  obtain ⟨ty2, ln2, I2, R2, e, fr, ⟨g1, g2⟩, rows⟩ := mr_facts (ty := ty1) (ln := ln1) (I := I1) (R := up2 R1 [17] 0 (some [17, 0])) (c := c - 1 - 2) (w := w - 2 - 766) (q := [17, 1]) (z := 12) (k := 6) (b := Int.toNat 12) (r := fun i => [17, 1, (i : Int)]) (Int.toNat 12) (fun i _ => by simp) (fun i j _ _ e => rw3 e)
  rw [e]
  have fr' : ∀ n, n ≠ [17, 1] → (∀ j, n ≠ [17, 1, j]) → ty2 n = ty1 n ∧ ln2 n = ln1 n ∧ I2 n = I1 n ∧ R2 n = up2 R1 [17] 0 (some [17, 0]) n := fun n x y => fr n x (fun i _ => y i)
  clear e fr
  -- the rows
  rw [b_Coder_init_24]
  refine ⟨⟨by rw [(fr' _ (by decide) (by simp)).1]; exact a1, rfl⟩, ⟨by omega, by omega, by omega, by omega, by show 1 + 6 ≤ c - 1 - 2 - 1 - 12; omega, by show 6 + 6 * 36 ≤ w - 2 - 766 - 12 - 12 * 6; omega⟩, [17, 2], fun i => [17, 2, (i : Int)], ⟨by show ty2 [17, 2] = 0; rw [(fr' _ (by decide) (by simp)).1]; exact a7 _ rfl (by decide) (by decide) (by decide) (by decide), rfl, fun i hi => ⟨by show ty2 [17, 2, (i : Int)] = 0; rw [(fr' _ (by simp) (by simp)).1]; exact a7 _ rfl (by simp) (by simp) (by simp) (by simp), by simp⟩, fun i j _ _ e => rw3 e⟩, ?_⟩
  obtain ⟨ty3, ln3, I3, R3, e, fr, ⟨g3, g4⟩, rows2⟩ := mr_facts (ty := ty2) (ln := ln2) (I := I2) (R := up2 R2 [17] 1 (some [17, 1])) (c := c - 1 - 2 - 1 - Int.toNat 12) (w := w - 2 - 766 - Int.toNat 12 - Int.toNat 12 * Int.toNat 6) (q := [17, 2]) (z := 6) (k := 36) (b := Int.toNat 6) (r := fun i => [17, 2, (i : Int)]) (Int.toNat 6) (fun i _ => by simp) (fun i j _ _ e => rw3 e)
  rw [e]
  have fs : ∀ n, n ≠ [17, 2] → (∀ j, n ≠ [17, 2, j]) → ty3 n = ty2 n ∧ ln3 n = ln2 n ∧ I3 n = I2 n ∧ R3 n = up2 R2 [17] 1 (some [17, 1]) n := fun n x y => fr n x (fun i _ => y i)
  clear e fr
  rw [b_Coder_init_36]
  refine ⟨⟨by rw [(fs _ (by decide) (by simp)).1, (fr' _ (by decide) (by simp)).1]; exact a1, rfl⟩, ?_⟩
  -- all of it together
  have r17 : R3 [17] = upI (upI (R1 [17]) 0 (some [17, 0])) 1 (some [17, 1]) := by rw [(fs _ (by decide) (by simp)).2.2.2, up2_self, (fr' _ (by decide) (by simp)).2.2.2, up2_self]
  have hS : CdS ty3 ln3 (up2 R3 [17] 2 (some [17, 2])) := by
    refine ⟨by rw [(fs _ (by decide) (by simp)).1, (fr' _ (by decide) (by simp)).1]; exact a1, ?_, ?_, ?_, ?_, ?_, ?_, ?_, ?_, ?_, ⟨g3, g4⟩, ?_, ?_⟩
    · rw [up2_self, upI_ne _ _ (by decide), r17, upI_ne _ _ (by decide), upI_self]
    · rw [up2_self, upI_ne _ _ (by decide), r17, upI_self]
    · rw [up2_self, upI_self]
    · rw [(fs _ (by decide) (by simp)).1, (fr' _ (by decide) (by simp)).1]; exact a2
    · rw [up2_ne (by decide), (fs _ (by decide) (by simp)).2.2.2, up2_ne (by decide), (fr' _ (by decide) (by simp)).2.2.2, up2_ne (by decide)]; exact a5
    · rw [up2_ne (by decide), (fs _ (by decide) (by simp)).2.2.2, up2_ne (by decide), (fr' _ (by decide) (by simp)).2.2.2, up2_ne (by decide)]; exact a6
    · rw [(fs _ (by decide) (by simp)).1, (fr' _ (by decide) (by simp)).1, (fs _ (by decide) (by simp)).2.1, (fr' _ (by decide) (by simp)).2.1]; exact a3
    · rw [(fs _ (by decide) (by simp)).1, (fr' _ (by decide) (by simp)).1, (fs _ (by decide) (by simp)).2.1, (fr' _ (by decide) (by simp)).2.1]; exact a4
    · rw [(fs _ (by decide) (by simp)).1, (fs _ (by decide) (by simp)).2.1]; exact ⟨g1, g2⟩
    · intro j j0 j1
      obtain ⟨x1, x2, x3, x4⟩ := rows j.toNat (by show j.toNat < 12; omega)
      rw [Int.toNat_of_nonneg j0] at x1 x2 x3
      rw [up2_ne (by simp), (fs _ (by decide) (by simp)).2.2.2, up2_ne (by simp), (fs [17, 1, j] (by simp) (by simp)).1, (fs [17, 1, j] (by simp) (by simp)).2.1]
      exact ⟨x1, x2, x3⟩
    · intro j j0 j1
      obtain ⟨x1, x2, x3, x4⟩ := rows2 j.toNat (by show j.toNat < 6; omega)
      rw [Int.toNat_of_nonneg j0] at x1 x2 x3
      rw [up2_ne (by simp)]
      exact ⟨x1, x2, x3⟩
  have hp3 : ∀ i : Int, 0 ≤ i → i < 510 → I3 [17, 0, 0] i = pwI i := fun i a b => by rw [(fs _ (by decide) (by simp)).2.2.1, (fr' _ (by decide) (by simp)).2.2.1]; exact hp i a b
  have hl3 : ∀ a : Int, 0 ≤ a → a < 256 → I3 [17, 0, 1] a = lgZ a := fun i a b => by rw [(fs _ (by decide) (by simp)).2.2.1, (fr' _ (by decide) (by simp)).2.2.1]; exact hl i a b
  refine (c_Coder_2 hS hp3 hl3 12 0 rfl vJ rfl).mpr ?_
  have ec : c - 1 - 2 - 1 - Int.toNat 12 - 1 - Int.toNat 6 = c - 23 := by omega
  have ew : w - 2 - 766 - Int.toNat 12 - Int.toNat 12 * Int.toNat 6 - Int.toNat 6 - Int.toNat 6 * Int.toNat 36 = w - 1074 := by
    show w - 2 - 766 - 12 - 12 * 6 - 6 - 6 * 36 = w - 1074
    omega
  rw [ec, ew]
  refine k _ _ _ _ hS ⟨fun i a b => ?_, fun i a b => ?_, fun j i a b x y => ?_⟩ ⟨?_, ?_, ?_⟩ (fun n hn => ?_)
  · rw [up2_ne (by decide), up2_ne (by decide), up2_ne (by decide), cI_o (by simp)]; exact hp3 i a b
  · rw [up2_ne (by decide), up2_ne (by decide), up2_ne (by decide), cI_o (by simp)]; exact hl3 i a b
  · rw [up2_ne (by simp), up2_ne (by simp), up2_ne (by simp)]
    have := cI_in (I := I3) 72 j.toNat i.toNat (by omega) (by omega)
    rw [Int.toNat_of_nonneg a, Int.toNat_of_nonneg x] at this
    exact this
  · rw [up2_self, upI_ne _ _ (by decide), up2_self, upI_ne _ _ (by decide), up2_self, upI_self]
  · rw [up2_self, upI_ne _ _ (by decide), up2_self, upI_self]
  · rw [up2_self, upI_self]
  · have n1 : ∀ l, n ≠ 17 :: l := fun l e => hn (by rw [e]; rfl)
    obtain ⟨b1, b2, b3, b4⟩ := a8 n hn
    obtain ⟨x1, x2, x3, x4⟩ := fr' n (n1 _) (fun j => n1 _)
    obtain ⟨y1, y2, y3, y4⟩ := fs n (n1 _) (fun j => n1 _)
    rw [up2_ne (n1 _)] at x4 y4
    rw [up2_ne (n1 _), up2_ne (n1 _), up2_ne (n1 _), up2_ne (n1 _), cI_o (fun j => n1 _), y1, y2, y3, y4, x1, x2, x3, x4]
    exact ⟨b1, b2, b3, b4⟩
