/-! ===== products, pieces and answers on both sides ===== -/
theorem s_times {d : Nat} {K : Kt} {X : Xt} {x y : Int} {ty : Nm → Nat} {ln : Nm → Int} {I : Nm → Int → Int} {R : Nm → Int → Option Nm} {c w : Nat} (hC : CdS ty ln R) (hV : CV I) (hx : 0 ≤ x ∧ x < 256) (hy : 0 ≤ y ∧ y < 256) : Mth (d + 1) M_Field_times [vR (some [17, 0]), vI x, vI y] (ty, ln, I, R, c, w) K X = K (some (vI (mulZ x y))) (ty, ln, I, R, c, w) := by
  obtain ⟨s1, s2, s3, s4, s5, s6, s7, s8, s9, s10, s11, s12, s13⟩ := hC
  obtain ⟨v1, v2, v3⟩ := hV
  have l1 := lgZ_r hx.1 hx.2
  have l2 := lgZ_r hy.1 hy.2
  rw [← times_z hx hy]
  by_cases q1 : x = 0
  · rw [in_Field_times, b_Field_times_0, if_pos q1, b_Field_times_8, b_Field_times_30, if_pos (Or.inl q1)]
  · by_cases q2 : y = 0
    · rw [in_Field_times, b_Field_times_0, if_neg q1, if_neg (fun z => z q2), b_Field_times_8, b_Field_times_30, if_pos (Or.inr q2)]
    · rw [in_Field_times, b_Field_times_0, if_neg q1, if_pos q2, and_t s5, and_t s5, s7, ex_some, and_t ⟨Or.inl s9.1, by omega, by omega⟩, and_t s5, ex_some, and_t ⟨Or.inl s9.1, by omega, by omega⟩, s6, ex_some, v2 x hx.1 hx.2, v2 y hy.1 hy.2, w32_id (by omega) (by omega), and_t ⟨Or.inl s8.1, by omega, by omega⟩, b_Field_times_30, v1 _ (by omega) (by omega), if_neg (by omega)]
/-- the sum of the first i products for place t of piece j -/
def enN (f : Int → Int) (l j t : Int) : Nat → Int
  | 0 => 0
  | i + 1 => xorZ (enN f l j t i) (mulZ (cfZ j i) (f (i * l + t)))
theorem enN_r {f : Int → Int} {l j t : Int} : ∀ i : Nat, 0 ≤ enN f l j t i ∧ enN f l j t i < 256
  | 0 => ⟨Int.le_refl _, by show (0 : Int) < 256; decide⟩
  | i + 1 => xorZ_r (enN_r i) (mulZ_r (by have := cfZ_r (j := j) (i := i); omega))
theorem enN_ext {f g : Int → Int} {l j t : Int} (h : ∀ x, f x = g x) : ∀ i : Nat, enN f l j t i = enN g l j t i
  | 0 => rfl
  | i + 1 => by
    show xorZ _ _ = xorZ _ _
    rw [enN_ext h i, h]
theorem il_r {i k l : Int} (hk : 2 ≤ k ∧ k ≤ 6) (hl : l = 60 / k) (hi : 0 ≤ i ∧ i < k) : 0 ≤ i * l ∧ i * l + l ≤ 60 := by
  have : k = 2 ∨ k = 3 ∨ k = 4 ∨ k = 5 ∨ k = 6 := by omega
  rcases this with rfl | rfl | rfl | rfl | rfl
  · rw [show l = 30 from hl]; omega
  · rw [show l = 20 from hl]; omega
  · rw [show l = 15 from hl]; omega
  · rw [show l = 12 from hl]; omega
  · rw [show l = 10 from hl]; omega
theorem l_rg {k l : Int} (hk : 2 ≤ k ∧ k ≤ 6) (hl : l = 60 / k) : 10 ≤ l ∧ l ≤ 30 := by
  have : k = 2 ∨ k = 3 ∨ k = 4 ∨ k = 5 ∨ k = 6 := by omega
  rcases this with rfl | rfl | rfl | rfl | rfl
  · rw [show l = 30 from hl]; omega
  · rw [show l = 20 from hl]; omega
  · rw [show l = 15 from hl]; omega
  · rw [show l = 12 from hl]; omega
  · rw [show l = 10 from hl]; omega
theorem s_encode {d : Nat} {K : Kt} {X : Xt} {sg m : Nm} {k l j : Int} {ty : Nm → Nat} {ln : Nm → Int} {I : Nm → Int → Int} {R : Nm → Int → Option Nm} {c w : Nat} (hC : CdS ty ln R) (hV : CV I) (hk : 2 ≤ k ∧ k ≤ 6) (hl : l = 60 / k) (k3 : I [17] 3 = k) (k5 : I [17] 5 = l) (hj : 0 ≤ j ∧ j < 12) (g1 : ty sg = 1) (g2 : ln sg = 60) (g3 : ∀ x, 0 ≤ x → x < 60 → 0 ≤ I sg x ∧ I sg x < 256) (m1 : ty m = 1) (m2 : l ≤ ln m) (m3 : wr m = true) (m4 : m ≠ sg) (m5 : hd m ≠ 17) :
    Mth (d + 2) M_Coder_encode [vR (some [17]), vR (some sg), vI j, vR (some m)] (ty, ln, I, R, c, w) K X = K none (ty, ln, wI I m 0 l (fun t => enN (I sg) l j t k.toNat), R, c, w) := by
  obtain ⟨s1, s2, s3, s4, s5, s6, s7, s8, s9, s10, s11, s12, s13⟩ := id hC
  obtain ⟨t1, t2, t3⟩ := s12 j hj.1 hj.2
  have lr := l_rg hk hl
  have f17 : ∀ {hi : Int} {f : Int → Int} {p : List Int}, wI I m 0 hi f (17 :: p) = I (17 :: p) := fun {hi f p} => wI_ne (fun e => m5 (by rw [← e]; rfl))
  have fsg : ∀ {hi : Int} {f : Int → Int}, wI I m 0 hi f sg = I sg := fun {hi f} => wI_ne (Ne.symm m4)
  have key : ∀ q t : Nat, t + q = l.toNat → ∀ u5 u6, isLg u5 = false → isLg u6 = false → Rn (d + 1) M_Coder_encode K X 3 [vR (some [17]), vR (some sg), vI j, vR (some m), vI (t : Int), u5, u6] [] (ty, ln, wI I m 0 t (fun t => enN (I sg) l j t k.toNat), R, c, w) = K none (ty, ln, wI I m 0 l (fun t => enN (I sg) l j t k.toNat), R, c, w) := by
    intro q
    induction q with
    | zero =>
      intro t ht u5 u6 q5 q6
      rw [b_Coder_encode_3 q5 q6, and_t s1, f17, k5, if_pos (by omega), show (t : Int) = l by omega]
    | succ q ih =>
      intro t ht u5 u6 q5 q6
      have hV' : CV (wI I m 0 t (fun t => enN (I sg) l j t k.toNat)) := ⟨fun i a b => by rw [f17]; exact hV.1 i a b, fun i a b => by rw [f17]; exact hV.2.1 i a b, fun j i a b x y => by rw [f17]; exact hV.2.2 j i a b x y⟩
      rw [b_Coder_encode_3 q5 q6, and_t s1, f17, k5, if_neg (by omega)]
      have inner : ∀ q i : Nat, i + q = k.toNat → Rn (d + 1) M_Coder_encode K X 18 [vR (some [17]), vR (some sg), vI j, vR (some m), vI (t : Int), vI (enN (I sg) l j t i), vI (i : Int)] [] (ty, ln, wI I m 0 t (fun t => enN (I sg) l j t k.toNat), R, c, w) = K none (ty, ln, wI I m 0 l (fun t => enN (I sg) l j t k.toNat), R, c, w) := by
        intro q
        induction q with
        | zero =>
          intro i hi
          rw [b_Coder_encode_18, and_t s1, f17, k3, if_pos (by omega), ex_some, and_t ⟨m1, m3, by omega, by omega⟩, w32_id (by omega) (by omega), wI_up (by omega) (by rw [show i = k.toNat by omega])]
          exact ih (t + 1) (by omega) _ _ rfl rfl
        | succ q ih2 =>
          intro i hi
          have r1 := il_r (i := i) hk hl (by omega)
          have r2 := g3 (i * l + t) (by omega) (by omega)
          have r3 := cfZ_r (j := j) (i := i)
          have r4 := enN_r (f := I sg) (l := l) (j := j) (t := t) i
          have r5 := mulZ_r (a := cfZ j i) (b := I sg (i * l + t)) (by omega)
          have ih' := ih2 (i + 1) (by omega)
          rw [b_Coder_encode_18, and_t s1, f17, k3, if_neg (by omega), and_t s1, and_t s1, s3, ex_some, and_t ⟨⟨by omega, by omega⟩, by omega, by omega⟩, t1, ex_some, and_t ⟨Or.inl t2, by omega, by omega⟩, and_t s1, ex_some, k5, w32_id (x := (i : Int) * l) (by omega) (by omega), w32_id (x := (i : Int) * l + t) (by omega) (by omega), and_t ⟨Or.inl g1, by omega, by omega⟩, s2, ex_some, and_t s5, fsg, f17, hV.2.2 j i hj.1 hj.2 (by omega) (by omega), s_times hC hV' (by omega) (by omega)]
          refine b_Coder_encode_57.trans ?_
          rw [xor32_z (by omega) (by omega), w32_id (by omega) (by omega)]
          exact ih'
      exact inner k.toNat 0 (Nat.zero_add _)
  have k0 := key l.toNat 0 (Nat.zero_add _) vJ vJ rfl rfl
  rw [show ((0 : Nat) : Int) = 0 from rfl, wI_nil (by omega)] at k0
  rw [in_Coder_encode, b_Coder_encode_0]
  exact k0
/-- the sum of the first t products for a question -/
def anS (f : Int → Int) (l q : Int) : Nat → Int
  | 0 => 0
  | t + 1 => anS f l q t + ((t : Int) + 1) * f ((7 * q + t * (1 + q % (l - 1))) % l)
theorem an_ix {l q : Int} {t : Nat} (hl : 10 ≤ l ∧ l ≤ 30) (hq : 0 ≤ q ∧ q < 8) (ht : t < 15) : (0 ≤ q % (l - 1) ∧ q % (l - 1) < 8) ∧ (0 ≤ (t : Int) * (1 + q % (l - 1)) ∧ (t : Int) * (1 + q % (l - 1)) ≤ 120) ∧ 0 ≤ (7 * q + t * (1 + q % (l - 1))) % l ∧ (7 * q + t * (1 + q % (l - 1))) % l < l := by
  have a1 : 0 ≤ q % (l - 1) := Int.emod_nonneg _ (by omega)
  have a2 : q % (l - 1) = q := Int.emod_eq_of_lt (by omega) (by omega)
  have a3 : 0 ≤ (t : Int) * (1 + q % (l - 1)) := Int.mul_nonneg (by omega) (by omega)
  have a4 : (t : Int) * (1 + q % (l - 1)) ≤ 15 * 8 := Int.mul_le_mul (by omega) (by omega) (by omega) (by omega)
  exact ⟨⟨a1, by omega⟩, ⟨a3, by omega⟩, Int.emod_nonneg _ (by omega), Int.emod_lt_of_pos _ (by omega)⟩
theorem anS_r {f : Int → Int} {l q : Int} (hl : 10 ≤ l ∧ l ≤ 30) (hq : 0 ≤ q ∧ q < 8) (hf : ∀ x, 0 ≤ x → x < l → 0 ≤ f x ∧ f x < 256) : ∀ t : Nat, t ≤ 15 → 0 ≤ anS f l q t ∧ anS f l q t ≤ 3825 * t
  | 0, _ => ⟨Int.le_refl _, Int.le_refl _⟩
  | t + 1, ht => by
    obtain ⟨a, b⟩ := anS_r hl hq hf t (by omega)
    obtain ⟨-, -, i1, i2⟩ := an_ix (t := t) hl hq (by omega)
    obtain ⟨f1, f2⟩ := hf _ i1 i2
    have m1 : 0 ≤ ((t : Int) + 1) * f ((7 * q + t * (1 + q % (l - 1))) % l) := Int.mul_nonneg (by omega) (by omega)
    have m2 : ((t : Int) + 1) * f ((7 * q + t * (1 + q % (l - 1))) % l) ≤ 15 * 255 := Int.mul_le_mul (by omega) (by omega) (by omega) (by omega)
    show 0 ≤ anS f l q t + _ ∧ anS f l q t + _ ≤ _
    omega
theorem s_answer {d : Nat} {K : Kt} {X : Xt} {m : Nm} {l q : Int} {ty : Nm → Nat} {ln : Nm → Int} {I : Nm → Int → Int} {R : Nm → Int → Option Nm} {c w : Nat} (s1 : ty [17] = 102) (k5 : I [17] 5 = l) (hl : 10 ≤ l ∧ l ≤ 30) (hq : 0 ≤ q ∧ q < 8) (m1 : ty m = 1) (m2 : l ≤ ln m) (hf : ∀ x, 0 ≤ x → x < l → 0 ≤ I m x ∧ I m x < 256) :
    Mth (d + 1) M_Coder_answer [vR (some [17]), vR (some m), vI q] (ty, ln, I, R, c, w) K X = K (some (vI (anS (I m) l q (l / 2).toNat))) (ty, ln, I, R, c, w) := by
  have e2 : Int.tdiv l 2 = l / 2 := Int.tdiv_eq_ediv_of_nonneg (by omega)
  have e1 : Int.tmod q (l - 1) = q % (l - 1) := Int.tmod_eq_emod_of_nonneg hq.1
  obtain ⟨⟨x1, x2⟩, -⟩ := an_ix (t := 0) hl hq (by decide)
  have key : ∀ k t : Nat, t + k = (l / 2).toNat → Rn d M_Coder_answer K X 17 [vR (some [17]), vR (some m), vI q, vI (1 + q % (l - 1)), vI (anS (I m) l q t), vI (t : Int)] [] (ty, ln, I, R, c, w) = K (some (vI (anS (I m) l q (l / 2).toNat))) (ty, ln, I, R, c, w) := by
    intro k
    induction k with
    | zero =>
      intro t ht
      have r := anS_r hl hq hf t (by omega)
      rw [b_Coder_answer_17, and_t s1, and_t (by decide), k5, e2, w32_id (by omega) (by omega), if_pos (by omega), and_t (by decide), Int.tmod_eq_emod_of_nonneg r.1, Int.emod_eq_of_lt r.1 (by omega), show t = (l / 2).toNat by omega]
    | succ k ih =>
      intro t ht
      obtain ⟨-, ⟨y1, y2⟩, y3, y4⟩ := an_ix (t := t) hl hq (by omega)
      have r := anS_r hl hq hf t (by omega)
      have r' := anS_r hl hq hf (t + 1) (by omega)
      obtain ⟨f1, f2⟩ := hf _ y3 y4
      have z1 : 0 ≤ ((t : Int) + 1) * I m ((7 * q + t * (1 + q % (l - 1))) % l) := Int.mul_nonneg (by omega) (by omega)
      have z2 : ((t : Int) + 1) * I m ((7 * q + t * (1 + q % (l - 1))) % l) ≤ 15 * 255 := Int.mul_le_mul (by omega) (by omega) (by omega) (by omega)
      rw [b_Coder_answer_17, and_t s1, and_t (by decide), k5, e2, w32_id (x := l / 2) (by omega) (by omega), if_neg (by omega), and_t s1, and_t (by omega), ex_some, w32_id (x := 7 * q) (by omega) (by omega), w32_id (x := (t : Int) * (1 + q % (l - 1))) (by omega) (by omega), w32_id (x := 7 * q + (t : Int) * (1 + q % (l - 1))) (by omega) (by omega), Int.tmod_eq_emod_of_nonneg (by omega), and_t ⟨Or.inl m1, y3, by omega⟩, w32_id (x := (t : Int) + 1) (by omega) (by omega), w32_id (x := ((t : Int) + 1) * I m ((7 * q + t * (1 + q % (l - 1))) % l)) (by omega) (by omega), w32_id (by omega) (by omega)]
      exact ih (t + 1) (by omega)
  rw [in_Coder_answer, b_Coder_answer_0, and_t s1, k5, w32_id (x := l - 1) (by omega) (by omega), and_t (by omega), e1, w32_id (by omega) (by omega)]
  exact key _ 0 (Nat.zero_add _)
