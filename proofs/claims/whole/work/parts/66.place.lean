/-! ===== the reference: a piece is placed ===== -/
/-- the house k may take a piece of segment s of house a -/
abbrev mayK (J : Int → Int → Int) (a s k : Int) : Prop := k ≠ a ∧ 0 < J 5 k ∧ J 6 k ≠ 0 ∧ J 7 k = 0 ∧ J 10 (10 * k + a) < J 9 (10 * k + a) ∧ hasP J k s (J (-1) 3).toNat = 0
/-- the best of the first k houses -/
def bestJ (J : Int → Int → Int) (a s : Int) : Nat → Int
  | 0 => -1
  | k + 1 => if mayK J a s k ∧ (bestJ J a s k < 0 ∨ sumR (fun i => J 10 (10 * (k : Int) + i)) 10 < sumR (fun i => J 10 (10 * bestJ J a s k + i)) 10) then (k : Int) else bestJ J a s k
theorem bestJ_r {J : Int → Int → Int} {a s : Int} : ∀ k : Nat, -1 ≤ bestJ J a s k ∧ bestJ J a s k < k
  | 0 => ⟨Int.le_refl _, by show (-1 : Int) < 0; decide⟩
  | k + 1 => by
    have := bestJ_r (J := J) (a := a) (s := s) k
    show -1 ≤ (if _ then (k : Int) else bestJ J a s k) ∧ (if _ then (k : Int) else bestJ J a s k) < ((k + 1 : Nat) : Int)
    split <;> omega
/-- the piece p = 12 s + j made of the bytes held, and put to the house b -/
def putP (J : Int → Int → Int) (a s j b : Int) : Int → Int → Int :=
  uJ (uJ (uJ (uJ (uJ (wJ (wJ (mpJ J 24 s j) 27 (30 * (12 * s + j)) (30 * (12 * s + j) + 60 / J (-1) 2) (fun x => mpJ J 24 s j 31 (x - 30 * (12 * s + j)))) 29 (8 * (12 * s + j)) (8 * (12 * s + j) + 8) (fun x => anS (mpJ J 24 s j 31) (60 / J (-1) 2) (x - 8 * (12 * s + j)) (60 / J (-1) 2 / 2).toNat)) 28 (12 * s + j) 0) 25 (12 * s + j) b) 26 (12 * s + j) 1) 10 (10 * b + a) (J 10 (10 * b + a) + 1)) 8 a 1
def plJ (J : Int → Int → Int) (a s j : Int) : Int → Int → Int := if bestJ J a s 10 < 0 then J else putP J a s j (bestJ J a s 10)
set_option maxHeartbeats 2000000 in
theorem m_place {d : Nat} {K : Kt} {X : Xt} {J : Int → Int → Int} {ty : Nm → Nat} {ln : Nm → Int} {I : Nm → Int → Int} {R : Nm → Int → Option Nm} {c w : Nat} {a s j : Int} (h : MOk ty ln R) (hR : MR J) (hS : SC J) (a0 : 0 ≤ a ∧ a ≤ 9) (s0 : 0 ≤ s ∧ s < 400) (j0 : 0 ≤ j ∧ j < 12) :
    Mth (d + 5) M_Mo_place [vR (some [2]), vI a, vI s, vI j] (ty, ln, pJ I J, R, c, w) K X = K (some (vI (if bestJ J a s 10 < 0 then 0 else 1))) (ty, ln, pJ I (plJ J a s j), R, c, w) := by
  have h0 := h.1
  have a5 := h.a5
  have a6 := h.a6
  have a7 := h.a7
  have a8 := h.a8
  have a9 := h.a9
  have a10 := h.a10
  have a25 := h.a25
  have a26 := h.a26
  have a27 := h.a27
  have a28 := h.a28
  have a29 := h.a29
  have a31 := h.a31
  have hN : 0 ≤ J (-1) 3 ∧ J (-1) 3 ≤ 12 := by have := hS.1; have := hS.2.1; omega
  have hk := hS.1
  obtain ⟨l, hl⟩ : ∃ l, l = 60 / J (-1) 2 := ⟨_, rfl⟩
  have lr := l_rg hk hl
  have br0 := bestJ_r (J := J) (a := a) (s := s) 10
  have k1 : bestJ J a s 10 < 0 ∨ ∀ u6, isLg u6 = false → Rn (d + 4) M_Mo_place K X 6 [vR (some [2]), vI a, vI s, vI j, vI (bestJ J a s 10), vI 10, u6, vJ] [] (ty, ln, pJ I J, R, c, w) = K (some (vI 1)) (ty, ln, pJ I (putP J a s j (bestJ J a s 10)), R, c, w) := by
    by_cases qb : bestJ J a s 10 < 0
    · exact Or.inl qb
    refine Or.inr (fun u6 hu => ?_)
    obtain ⟨b, hb⟩ : ∃ b, b = bestJ J a s 10 := ⟨_, rfl⟩
    rw [← hb] at qb br0 ⊢
    have kr := hR.k10 (10 * b + a)
    unfold putP
    rw [← hl]
    have mp31 : ∀ x, 0 ≤ x → x < l → 0 ≤ mpJ J 24 s j 31 x ∧ mpJ J 24 s j 31 x < 256 := fun x x0 x1 => by
      unfold mpJ
      rw [← hl, wJ_in ⟨x0, x1⟩]
      exact enN_r _
    obtain ⟨J1, hJ1⟩ : ∃ x, x = mpJ J 24 s j := ⟨_, rfl⟩
    have j1 : ∀ k y, k ≠ 31 → J1 k y = J k y := fun k y hk => by rw [hJ1]; unfold mpJ; exact wJ_ne hk
    rw [← hJ1] at mp31 ⊢
    have kA : ∀ q t : Nat, t + q = 8 → Rn (d + 4) M_Mo_place K X 203 [vR (some [2]), vI a, vI s, vI j, vI b, vI (12 * s + j), vI l, vI (t : Int)] [] (ty, ln, pJ I (wJ (wJ J1 27 (30 * (12 * s + j)) (30 * (12 * s + j) + l) (fun x => J1 31 (x - 30 * (12 * s + j)))) 29 (8 * (12 * s + j)) (8 * (12 * s + j) + t) (fun x => anS (J1 31) l (x - 8 * (12 * s + j)) (l / 2).toNat)), R, c, w) = K (some (vI 1)) (ty, ln, pJ I (uJ (uJ (uJ (uJ (uJ (wJ (wJ J1 27 (30 * (12 * s + j)) (30 * (12 * s + j) + l) (fun x => J1 31 (x - 30 * (12 * s + j)))) 29 (8 * (12 * s + j)) (8 * (12 * s + j) + 8) (fun x => anS (J1 31) l (x - 8 * (12 * s + j)) (l / 2).toNat)) 28 (12 * s + j) 0) 25 (12 * s + j) b) 26 (12 * s + j) 1) 10 (10 * b + a) (J 10 (10 * b + a) + 1)) 8 a 1), R, c, w) := by
      intro q
      induction q with
      | zero =>
        intro t ht
        rw [show t = 8 by omega, b_Mo_place_203, if_pos (by decide)]
        simp (disch := omega) only [↓h.e28, ↓h.e25, ↓h.e26, ↓h.e10, ↓h.e8, j1, Option.toList_some, Option.toList_none, List.cons_append, List.nil_append, ↓if_pos, ↓if_neg, ↓and_t, pJ_a, pJ_m, up_a, up_m, Option.some.injEq, exists_eq_left', wr_a, wr_m, true_and, and_true, not_true_eq_false, not_false_eq_true, if_true, if_false, or_true, true_or, uJ_self, uJ_ne, upI_self, upI_ne, w32_id, reduceCtorEq, ne_eq, wJ_ne, wJ_out]
        rfl
      | succ q ih =>
        intro t ht
        have an : (fun x => pJ I (wJ (wJ J1 27 (30 * (12 * s + j)) (30 * (12 * s + j) + l) (fun x => J1 31 (x - 30 * (12 * s + j)))) 29 (8 * (12 * s + j)) (8 * (12 * s + j) + t) (fun x => anS (J1 31) l (x - 8 * (12 * s + j)) (l / 2).toNat)) [3, 31] (0 + x)) = J1 31 := by
          funext x
          rw [pJ_a (by decide), wJ_ne (by decide), wJ_ne (by decide), Int.zero_add]
        rw [b_Mo_place_203, if_neg (by omega), and_t h0, and_t h0, a31.1, m_answer lr (by omega) a31.2.1 (by omega) (by decide) (fun x x0 x1 => by rw [pJ_a (by decide), wJ_ne (by decide), wJ_ne (by decide), Int.zero_add]; exact mp31 x x0 x1), an, a29.1]
        refine b_Mo_place_234.trans ?_
        rw [ex_some, w32_id (x := 8 * (12 * s + j)) (by omega) (by omega), w32_id (x := 8 * (12 * s + j) + (t : Int)) (by omega) (by omega), and_t ⟨a29.2.1, rfl, by omega, by omega⟩, w32_id (by omega) (by omega), up_a (by decide), wJ_up (by omega) (by rw [show 8 * (12 * s + j) + (t : Int) - 8 * (12 * s + j) = t by omega]), Int.add_assoc (8 * (12 * s + j))]
        exact ih (t + 1) (by omega)
    have kB : ∀ q t : Nat, t + q = l.toNat → Rn (d + 4) M_Mo_place K X 167 [vR (some [2]), vI a, vI s, vI j, vI b, vI (12 * s + j), vI l, vI (t : Int)] [] (ty, ln, pJ I (wJ J1 27 (30 * (12 * s + j)) (30 * (12 * s + j) + t) (fun x => J1 31 (x - 30 * (12 * s + j)))), R, c, w) = K (some (vI 1)) (ty, ln, pJ I (uJ (uJ (uJ (uJ (uJ (wJ (wJ J1 27 (30 * (12 * s + j)) (30 * (12 * s + j) + l) (fun x => J1 31 (x - 30 * (12 * s + j)))) 29 (8 * (12 * s + j)) (8 * (12 * s + j) + 8) (fun x => anS (J1 31) l (x - 8 * (12 * s + j)) (l / 2).toNat)) 28 (12 * s + j) 0) 25 (12 * s + j) b) 26 (12 * s + j) 1) 10 (10 * b + a) (J 10 (10 * b + a) + 1)) 8 a 1), R, c, w) := by
      intro q
      induction q with
      | zero =>
        intro t ht
        rw [b_Mo_place_167, if_pos (by omega), show (t : Int) = l by omega]
        have := kA 8 0 rfl
        rw [show 8 * (12 * s + j) + ((0 : Nat) : Int) = 8 * (12 * s + j) by omega, wJ_nil (by omega)] at this
        exact this
      | succ q ih =>
        intro t ht
        rw [b_Mo_place_167, if_neg (by omega), and_t h0, and_t h0, h.e31, and_t ⟨Or.inl a31.2.1, by omega, by omega⟩, h.e27, w32_id (x := 30 * (12 * s + j)) (by omega) (by omega), w32_id (x := 30 * (12 * s + j) + (t : Int)) (by omega) (by omega), and_t ⟨a27.2.1, rfl, by omega, by omega⟩, w32_id (by omega) (by omega), pJ_a (by decide), wJ_ne (by decide), up_a (by decide), wJ_up (by omega) (by rw [show 30 * (12 * s + j) + (t : Int) - 30 * (12 * s + j) = t by omega]), Int.add_assoc (30 * (12 * s + j))]
        exact ih (t + 1) (by omega)
    rw [b_Mo_place_6 hu, if_pos (by decide), if_pos (by omega), and_t h0, m_length h hk, ← hl, w32_id (x := 12 * s) (by omega) (by omega), w32_id (x := 12 * s + j) (by omega) (by omega)]
    refine (b_Mo_place_152 hu).trans ?_
    rw [and_t h0, and_t h0, h.a24.1, m_makePiece h (Or.inr rfl) s0 j0 hk (fun x => by have := hR.k24 x; omega), ← hJ1]
    refine b_Mo_place_164.trans ?_
    have := kB l.toNat 0 (Nat.zero_add _)
    rw [show 30 * (12 * s + j) + ((0 : Nat) : Int) = 30 * (12 * s + j) by omega, wJ_nil (by omega)] at this
    exact this
  have key : ∀ q i : Nat, i + q = 10 → ∀ u6, isLg u6 = false → Rn (d + 4) M_Mo_place K X 6 [vR (some [2]), vI a, vI s, vI j, vI (bestJ J a s i), vI (i : Int), u6, vJ] [] (ty, ln, pJ I J, R, c, w) = K (some (vI (if bestJ J a s 10 < 0 then 0 else 1))) (ty, ln, pJ I (plJ J a s j), R, c, w) := by
    intro q
    induction q with
    | zero =>
      intro i hi u6 hu
      unfold plJ
      rcases k1 with k1 | k1
      · rw [show i = 10 by omega, b_Mo_place_6 hu, if_pos (by decide), if_neg (by omega), and_t (Or.inl rfl), if_pos k1, if_pos k1]
      · by_cases qb : bestJ J a s 10 < 0
        · rw [show i = 10 by omega, b_Mo_place_6 hu, if_pos (by decide), if_neg (by omega), and_t (Or.inl rfl), if_pos qb, if_pos qb]
        · rw [if_neg qb, if_neg qb, show i = 10 by omega]
          exact k1 u6 hu
    | succ q ih =>
      intro i hi u6 hu
      have ih' := ih (i + 1) (by omega)
      have br := bestJ_r (J := J) (a := a) (s := s) i
      have hp := hasP_r (J := J) (k := i) (s := s) (J (-1) 3).toNat
      have nb : ∀ {P : Prop}, P → P := fun z => z
      rw [b_Mo_place_6 hu]
      rw [if_neg (by omega)]
      by_cases c1 : (i : Int) = a
      · rw [show bestJ J a s (i + 1) = bestJ J a s i from if_neg (fun z => by have := z.1; omega)] at ih'
        rw [if_pos c1, b_Mo_place_90 hu, b_Mo_place_91 hu, if_pos rfl, b_Mo_place_123, b_Mo_place_125, w32_id (by omega) (by omega)]
        exact ih' _ rfl
      · rw [if_neg c1, and_t h0, h.e5, and_t ⟨Or.inl a5.2.1, by omega, by omega⟩, pJ_a (by decide)]
        by_cases c2 : 0 < J 5 (i : Int)
        · rw [if_neg (by omega), and_t h0, h.e6, and_t ⟨a6.2.1, by omega, by omega⟩, pJ_a (by decide)]
          by_cases c3 : J 6 (i : Int) = 0
          · rw [show bestJ J a s (i + 1) = bestJ J a s i from if_neg (fun z => by have := z.1; omega)] at ih'
            rw [if_pos c3, b_Mo_place_90 hu, b_Mo_place_91 hu, if_pos rfl, b_Mo_place_123, b_Mo_place_125, w32_id (by omega) (by omega)]
            exact ih' _ rfl
          · rw [if_neg c3, and_t h0, h.e7, and_t ⟨a7.2.1, by omega, by omega⟩, pJ_a (by decide)]
            by_cases c4 : J 7 (i : Int) = 0
            · rw [if_neg (fun z => z c4), and_t h0, h.e10, w32_id (x := 10 * (i : Int)) (by omega) (by omega), w32_id (x := 10 * (i : Int) + a) (by omega) (by omega), and_t ⟨Or.inl a10.2.1, by omega, by omega⟩, and_t h0, h.e9, and_t ⟨Or.inl a9.2.1, by omega, by omega⟩, pJ_a (by decide), pJ_a (by decide)]
              by_cases c5 : J 10 (10 * (i : Int) + a) < J 9 (10 * (i : Int) + a)
              · rw [if_neg (by omega), and_t h0, m_hasOf h s0 hN]
                refine (b_Mo_place_83 hu).trans ?_
                by_cases c6 : hasP J i s (J (-1) 3).toNat = 0
                · rw [if_neg (fun z => z c6), b_Mo_place_91 hu, if_neg (by decide)]
                  by_cases c7 : bestJ J a s i < 0
                  · rw [show bestJ J a s (i + 1) = i from if_pos ⟨⟨c1, c2, c3, c4, c5, c6⟩, Or.inl c7⟩] at ih'
                    rw [if_pos c7, b_Mo_place_118, b_Mo_place_125, w32_id (by omega) (by omega)]
                    exact ih' _ rfl
                  · rw [if_neg c7, and_t h0, m_keeps h (by omega)]
                    refine b_Mo_place_109.trans ?_
                    rw [and_t h0, m_keeps h (by omega)]
                    refine b_Mo_place_115.trans ?_
                    by_cases c8 : sumR (fun y => J 10 (10 * (i : Int) + y)) 10 < sumR (fun y => J 10 (10 * bestJ J a s i + y)) 10
                    · rw [show bestJ J a s (i + 1) = i from if_pos ⟨⟨c1, c2, c3, c4, c5, c6⟩, Or.inr c8⟩] at ih'
                      rw [if_neg (by omega), b_Mo_place_118, b_Mo_place_125, w32_id (by omega) (by omega)]
                      exact ih' _ rfl
                    · rw [show bestJ J a s (i + 1) = bestJ J a s i from if_neg (fun z => z.2.elim c7 c8)] at ih'
                      rw [if_pos (by omega), b_Mo_place_123, b_Mo_place_125, w32_id (by omega) (by omega)]
                      exact ih' _ rfl
                · rw [show bestJ J a s (i + 1) = bestJ J a s i from if_neg (fun z => by have := z.1; omega)] at ih'
                  rw [if_pos c6, b_Mo_place_90 hu, b_Mo_place_91 hu, if_pos rfl, b_Mo_place_123, b_Mo_place_125, w32_id (by omega) (by omega)]
                  exact ih' _ rfl
              · rw [show bestJ J a s (i + 1) = bestJ J a s i from if_neg (fun z => by have := z.1; omega)] at ih'
                rw [if_pos (by omega), b_Mo_place_90 hu, b_Mo_place_91 hu, if_pos rfl, b_Mo_place_123, b_Mo_place_125, w32_id (by omega) (by omega)]
                exact ih' _ rfl
            · rw [show bestJ J a s (i + 1) = bestJ J a s i from if_neg (fun z => by have := z.1; omega)] at ih'
              rw [if_pos c4, b_Mo_place_90 hu, b_Mo_place_91 hu, if_pos rfl, b_Mo_place_123, b_Mo_place_125, w32_id (by omega) (by omega)]
              exact ih' _ rfl
        · rw [show bestJ J a s (i + 1) = bestJ J a s i from if_neg (fun z => by have := z.1; omega)] at ih'
          rw [if_pos (by omega), b_Mo_place_90 hu, b_Mo_place_91 hu, if_pos rfl, b_Mo_place_123, b_Mo_place_125, w32_id (by omega) (by omega)]
          exact ih' _ rfl

  rw [in_Mo_place, b_Mo_place_0]
  exact key 10 0 rfl vJ rfl
