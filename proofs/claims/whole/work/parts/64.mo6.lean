/-! ===== the reference: answers, pieces ===== -/
theorem rem64_s {a : Int} (h : 0 ≤ a ∧ a < 65521) : rem64 a 65521 = a := by
  unfold rem64
  have e1 : (Int64.ofInt a).toInt = a := w64_id (by omega) (by omega)
  have e2 : (Int64.ofInt 65521).toInt = 65521 := w64_id (by decide) (by decide)
  have e3 : (Int64.ofInt a / Int64.ofInt 65521).toInt = 0 := by
    rw [Int64.toInt_div, e1, e2, Int.tdiv_eq_ediv_of_nonneg h.1, Int.ediv_eq_zero_of_lt h.1 h.2]
    rfl
  rw [Int64.toInt_sub, Int64.toInt_mul, e1, e3, e2, Int.zero_mul]
  rw [show Int.bmod 0 (2 ^ 64) = 0 from rfl, Int.sub_zero]
  exact Int.bmod_eq_of_le (by omega) (by omega)
theorem wJ_wJ {J : Int → Int → Int} {k lo hi : Int} {f g : Int → Int} : wJ (wJ J k lo hi f) k lo hi g = wJ J k lo hi g := by
  funext k' j
  unfold wJ
  by_cases q : k' = k ∧ lo ≤ j ∧ j < hi
  · rw [if_pos q, if_pos q]
  · rw [if_neg q, if_neg q, if_neg q]
theorem m_answer {d : Nat} {K : Kt} {X : Xt} {n : Nm} {fr l q : Int} {ty : Nm → Nat} {ln : Nm → Int} {I : Nm → Int → Int} {R : Nm → Int → Option Nm} {c w : Nat} (hl : 10 ≤ l ∧ l ≤ 30) (hq : 0 ≤ q ∧ q < 8) (m1 : ty n = 1) (m2 : fr + l ≤ ln n) (m3 : 0 ≤ fr ∧ fr ≤ 1000000) (hf : ∀ x, 0 ≤ x → x < l → 0 ≤ I n (fr + x) ∧ I n (fr + x) < 256) :
    Mth (d + 1) M_Mo_answer [vR (some n), vI fr, vI l, vI q] (ty, ln, I, R, c, w) K X = K (some (vI (anS (fun x => I n (fr + x)) l q (l / 2).toNat))) (ty, ln, I, R, c, w) := by
  have e2 : Int.tdiv l 2 = l / 2 := Int.tdiv_eq_ediv_of_nonneg (by omega)
  have e1 : Int.tmod q (l - 1) = q % (l - 1) := Int.tmod_eq_emod_of_nonneg hq.1
  obtain ⟨⟨x1, x2⟩, -⟩ := an_ix (t := 0) hl hq (by decide)
  have key : ∀ k t : Nat, t + k = (l / 2).toNat → Rn d M_Mo_answer K X 6 [vR (some n), vI fr, vI l, vI q, vL (anS (fun x => I n (fr + x)) l q t), vJ, vI (t : Int)] [] (ty, ln, I, R, c, w) = K (some (vI (anS (fun x => I n (fr + x)) l q (l / 2).toNat))) (ty, ln, I, R, c, w) := by
    intro k
    induction k with
    | zero =>
      intro t ht
      have r := anS_r hl hq hf t (by omega)
      rw [b_Mo_answer_6, and_t (by decide), e2, w32_id (by omega) (by omega), if_pos (by omega), and_t (by decide), rem64_s ⟨r.1, by omega⟩, w32_id (by omega) (by omega), show t = (l / 2).toNat by omega]
    | succ k ih =>
      intro t ht
      obtain ⟨-, ⟨y1, y2⟩, y3, y4⟩ := an_ix (t := t) hl hq (by omega)
      have r := anS_r hl hq hf t (by omega)
      have r' := anS_r hl hq hf (t + 1) (by omega)
      obtain ⟨f1, f2⟩ := hf _ y3 y4
      have z1 : 0 ≤ ((t : Int) + 1) * I n (fr + (7 * q + t * (1 + q % (l - 1))) % l) := Int.mul_nonneg (by omega) (by omega)
      have z2 : ((t : Int) + 1) * I n (fr + (7 * q + t * (1 + q % (l - 1))) % l) ≤ 15 * 255 := Int.mul_le_mul (by omega) (by omega) (by omega) (by omega)
      rw [b_Mo_answer_6, and_t (by decide), e2, w32_id (x := l / 2) (by omega) (by omega), if_neg (by omega), w32_id (x := l - 1) (by omega) (by omega), and_t (by omega), and_t (by omega), ex_some, e1, w32_id (x := 1 + q % (l - 1)) (by omega) (by omega), w32_id (x := 7 * q) (by omega) (by omega), w32_id (x := (t : Int) * (1 + q % (l - 1))) (by omega) (by omega), w32_id (x := 7 * q + (t : Int) * (1 + q % (l - 1))) (by omega) (by omega), Int.tmod_eq_emod_of_nonneg (by omega), w32_id (x := fr + (7 * q + (t : Int) * (1 + q % (l - 1))) % l) (by omega) (by omega), and_t ⟨Or.inl m1, by omega, by omega⟩, w64_id (x := (t : Int) + 1) (by omega) (by omega), w64_id (x := ((t : Int) + 1) * I n (fr + (7 * q + t * (1 + q % (l - 1))) % l)) (by omega) (by omega), w64_id (by omega) (by omega), w32_id (x := (t : Int) + 1) (by omega) (by omega)]
      exact ih (t + 1) (by omega)
  rw [in_Mo_answer, b_Mo_answer_0]
  exact key _ 0 (Nat.zero_add _)
/-- the row for piece j of segment s of the bytes in array a -/
def mpJ (J : Int → Int → Int) (a s j : Int) : Int → Int → Int := wJ J 31 0 (60 / J (-1) 2) (fun t => enN (fun x => J a (60 * s + x)) (60 / J (-1) 2) j t (J (-1) 2).toNat)
theorem m_makePiece {d : Nat} {K : Kt} {X : Xt} {J : Int → Int → Int} {ty : Nm → Nat} {ln : Nm → Int} {I : Nm → Int → Int} {R : Nm → Int → Option Nm} {c w : Nat} {a s j : Int} (h : MOk ty ln R) (ha : a = 23 ∨ a = 24) (hs : 0 ≤ s ∧ s < 400) (hj : 0 ≤ j ∧ j < 12) (hk : 2 ≤ J (-1) 2 ∧ J (-1) 2 ≤ 6) (hB : ∀ x, 0 ≤ J a x ∧ J a x < 256) :
    Mth (d + 4) M_Mo_makePiece [vR (some [2]), vR (some [3, a]), vI s, vI j] (ty, ln, pJ I J, R, c, w) K X = K none (ty, ln, pJ I (mpJ J a s j), R, c, w) := by
  have h0 := h.1
  have a31 := h.a31
  have aa : ty [3, a] = 1 ∧ ln [3, a] = 24000 := by
    rcases ha with rfl | rfl
    · exact h.a23.2
    · exact h.a24.2
  obtain ⟨l, hl⟩ : ∃ l, l = 60 / J (-1) 2 := ⟨_, rfl⟩
  have lr := l_rg hk hl
  have hne : a ≠ 31 := by omega
  have hne1 : a ≠ -1 := by omega
  unfold mpJ
  rw [← hl]
  have k1 : ∀ q i : Nat, i + q = (J (-1) 2).toNat → ∀ u6 u7, isLg u6 = false → isLg u7 = false → Rn (d + 3) M_Mo_makePiece K X 33 [vR (some [2]), vR (some [3, a]), vI s, vI j, vI l, vI (i : Int), u6, u7] [] (ty, ln, pJ I (wJ J 31 0 l (fun t => enN (fun x => J a (60 * s + x)) l j t i)), R, c, w) = K none (ty, ln, pJ I (wJ J 31 0 l (fun t => enN (fun x => J a (60 * s + x)) l j t (J (-1) 2).toNat)), R, c, w) := by
    intro q
    induction q with
    | zero =>
      intro i hi u6 u7 q6 q7
      rw [b_Mo_makePiece_33 q6 q7, and_t h0, pJ_m, wJ_ne (by decide), if_pos (by omega), show i = (J (-1) 2).toNat by omega]
    | succ q ih =>
      intro i hi u6 u7 q6 q7
      have r1 := il_r (i := i) hk hl (by omega)
      have r3 := cfZ_r (j := j) (i := i)
      rw [b_Mo_makePiece_33 q6 q7, and_t h0, pJ_m, wJ_ne (by decide), if_neg (by omega), s_coefficient hj (by omega)]
      refine (b_Mo_makePiece_48 q6 q7).trans ?_
      have inner : ∀ q t : Nat, t + q = l.toNat → Rn (d + 3) M_Mo_makePiece K X 53 [vR (some [2]), vR (some [3, a]), vI s, vI j, vI l, vI (i : Int), vI (cfZ j i), vI (t : Int)] [] (ty, ln, pJ I (wJ (wJ J 31 0 l (fun t => enN (fun x => J a (60 * s + x)) l j t i)) 31 0 t (fun t => enN (fun x => J a (60 * s + x)) l j t (i + 1))), R, c, w) = K none (ty, ln, pJ I (wJ J 31 0 l (fun t => enN (fun x => J a (60 * s + x)) l j t (J (-1) 2).toNat)), R, c, w) := by
        intro q
        induction q with
        | zero =>
          intro t ht
          rw [b_Mo_makePiece_53, if_pos (by omega), w32_id (by omega) (by omega), show (t : Int) = l by omega, wJ_wJ]
          exact ih (i + 1) (by omega) _ _ rfl rfl
        | succ q ih2 =>
          intro t ht
          have r2 := hB (60 * s + (i * l + t))
          have r4 := enN_r (f := fun x => J a (60 * s + x)) (l := l) (j := j) (t := t) i
          have r5 := mulZ_r (a := cfZ j i) (b := J a (60 * s + (i * l + t))) (by omega)
          have ih' := ih2 (t + 1) (by omega)
          have e9 : 60 * s + (i : Int) * l + t = 60 * s + (i * l + t) := by omega
          rw [b_Mo_makePiece_53, if_neg (by omega), and_t h0, and_t h0, h.e31, and_t ⟨Or.inl a31.2.1, by omega, by omega⟩, ex_some, w32_id (x := 60 * s) (by omega) (by omega), w32_id (x := (i : Int) * l) (by omega) (by omega), w32_id (x := 60 * s + (i : Int) * l) (by omega) (by omega), w32_id (x := 60 * s + (i : Int) * l + t) (by omega) (by omega), and_t ⟨Or.inl aa.1, by omega, by omega⟩, pJ_a hne1, wJ_ne hne, wJ_ne hne, e9, s_product (by omega) (by omega), a31.1, pJ_a (by decide), wJ_out (by omega), wJ_in (by omega)]
          refine b_Mo_makePiece_93.trans ?_
          rw [ex_some, and_t ⟨a31.2.1, rfl, by omega, by omega⟩, w32_id (by omega) (by omega), xor32_z (by omega) (by omega), up_a (by decide), wJ_up (by omega) (by rfl)]
          exact ih'
      have k0 := inner l.toNat 0 (Nat.zero_add _)
      rw [show ((0 : Nat) : Int) = 0 from rfl, wJ_nil (by omega)] at k0
      exact k0
  have k2 : ∀ q t : Nat, t + q = l.toNat → Rn (d + 3) M_Mo_makePiece K X 9 [vR (some [2]), vR (some [3, a]), vI s, vI j, vI l, vI (t : Int), vJ, vJ] [] (ty, ln, pJ I (wJ J 31 0 t (fun _ => 0)), R, c, w) = K none (ty, ln, pJ I (wJ J 31 0 l (fun t => enN (fun x => J a (60 * s + x)) l j t (J (-1) 2).toNat)), R, c, w) := by
    intro q
    induction q with
    | zero =>
      intro t ht
      rw [b_Mo_makePiece_9, if_pos (by omega), show (t : Int) = l by omega]
      exact k1 (J (-1) 2).toNat 0 (Nat.zero_add _) vJ vJ rfl rfl
    | succ q ih =>
      intro t ht
      rw [b_Mo_makePiece_9, if_neg (by omega), and_t h0, h.e31, and_t ⟨a31.2.1, rfl, by omega, by omega⟩, w32_id (by omega) (by omega), up_a (by decide), wJ_up (by omega) rfl]
      exact ih (t + 1) (by omega)
  have k0 := k2 l.toNat 0 (Nat.zero_add _)
  rw [show ((0 : Nat) : Int) = 0 from rfl, wJ_nil (by omega)] at k0
  rw [in_Mo_makePiece, b_Mo_makePiece_0, and_t h0, m_length h hk, ← hl]
  exact b_Mo_makePiece_4.trans k0

