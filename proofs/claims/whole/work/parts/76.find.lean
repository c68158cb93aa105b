/-! ===== the reference: cutting, finding, putting ===== -/
/-- where the chunk from fr on ends, q bytes behind the place looked at, n in all -/
def ceR (f : Int → Int) (n fr : Int) : Nat → Int
  | 0 => n
  | q + 1 => if n - q - fr = 16 then n - q else if 4 ≤ n - q - fr ∧ (f (n - q - 1) + 3 * f (n - q - 2) + 5 * f (n - q - 3) + 7 * f (n - q - 4)) % 11 = 0 then n - q else ceR f n fr q
def ceJ (J : Int → Int → Int) (f fr : Int) : Int := ceR (fun x => J 14 (200 * f + x)) (J 13 f) fr (J 13 f - fr).toNat
theorem ceR_r {f : Int → Int} {n fr : Int} : ∀ q : Nat, (q : Int) ≤ n - fr → n - fr - q < 16 → n - q ≤ ceR f n fr q ∧ ceR f n fr q ≤ n ∧ ceR f n fr q ≤ fr + 16 ∧ (0 < q → n - q < ceR f n fr q) ∧ (ceR f n fr q < n → 4 ≤ ceR f n fr q - fr)
  | 0, h, h2 => by
    show n - ((0 : Nat) : Int) ≤ n ∧ n ≤ n ∧ n ≤ fr + 16 ∧ (0 < 0 → _) ∧ (n < n → _)
    omega
  | q + 1, h, h2 => by
    by_cases c1 : n - q - fr = 16
    · rw [show ceR f n fr (q + 1) = n - q from if_pos c1]
      omega
    · by_cases c2 : 4 ≤ n - q - fr ∧ (f (n - q - 1) + 3 * f (n - q - 2) + 5 * f (n - q - 3) + 7 * f (n - q - 4)) % 11 = 0
      · rw [show ceR f n fr (q + 1) = n - q by show (if _ then _ else _) = _; rw [if_neg c1, if_pos c2]]
        omega
      · rw [show ceR f n fr (q + 1) = ceR f n fr q by show (if _ then _ else _) = _; rw [if_neg c1, if_neg c2]]
        have := ceR_r (f := f) (n := n) (fr := fr) q (by omega) (by omega)
        omega
theorem m_chunkEnd {d : Nat} {K : Kt} {X : Xt} {J : Int → Int → Int} {ty : Nm → Nat} {ln : Nm → Int} {I : Nm → Int → Int} {R : Nm → Int → Option Nm} {c w : Nat} {f fr : Int} (h : MOk ty ln R) (hR : MR J) (f0 : 0 ≤ f ∧ f < 100) (r0 : 0 ≤ fr ∧ fr ≤ J 13 f) :
    Mth (d + 1) M_Mo_chunkEnd [vR (some [2]), vI f, vI fr] (ty, ln, pJ I J, R, c, w) K X = K (some (vI (ceJ J f fr))) (ty, ln, pJ I (J), R, c, w) := by
  have a13 := h.a13
  have a14 := h.a14
  have h0 := h.1
  have d1 := hR.k13 f
  unfold ceJ
  have key : ∀ (q : Nat) (u4 : Vl), isLg u4 = false → (q : Int) ≤ J 13 f - fr → Rn d M_Mo_chunkEnd K X 2 [vR (some [2]), vI f, vI fr, vI (J 13 f - q), u4] [] (ty, ln, pJ I J, R, c, w) = K (some (vI (ceR (fun x => J 14 (200 * f + x)) (J 13 f) fr q))) (ty, ln, pJ I J, R, c, w) := by
    intro q
    induction q with
    | zero =>
      intro u4 v4 hq
      rw [b_Mo_chunkEnd_2 v4, and_t h0, h.e13, and_t ⟨Or.inl a13.2.1, by omega, by omega⟩, pJ_a (by decide), if_pos (by omega), show J 13 f - ((0 : Nat) : Int) = J 13 f by omega]
      rfl
    | succ q ih =>
      intro u4 v4 hq
      have b1 := hR.k14 (200 * f + (J 13 f - q - 1))
      have b2 := hR.k14 (200 * f + (J 13 f - q - 2))
      have b3 := hR.k14 (200 * f + (J 13 f - q - 3))
      have b4 := hR.k14 (200 * f + (J 13 f - q - 4))
      have e9 : J 13 f - ((q + 1 : Nat) : Int) + 1 = J 13 f - q := by omega
      have i1 : 200 * f + (J 13 f - (q : Int)) - 1 = 200 * f + (J 13 f - q - 1) := by omega
      have i2 : 200 * f + (J 13 f - (q : Int) - 1) - 1 = 200 * f + (J 13 f - q - 2) := by omega
      have i3 : 200 * f + (J 13 f - (q : Int) - 1) - 2 = 200 * f + (J 13 f - q - 3) := by omega
      have i4 : 200 * f + (J 13 f - (q : Int) - 1) - 3 = 200 * f + (J 13 f - q - 4) := by omega
      rw [b_Mo_chunkEnd_2 v4, and_t h0, h.e13, and_t ⟨Or.inl a13.2.1, by omega, by omega⟩, pJ_a (by decide), if_neg (by omega), w32_id (x := J 13 f - ((q + 1 : Nat) : Int) + 1) (by omega) (by omega), e9, w32_id (x := J 13 f - (q : Int) - fr) (by omega) (by omega)]
      by_cases c1 : J 13 f - (q : Int) - fr = 16
      · rw [if_neg (fun z => z c1), show ceR (fun x => J 14 (200 * f + x)) (J 13 f) fr (q + 1) = J 13 f - q from if_pos c1]
      · rw [if_pos c1, w32_id (x := 200 * f) (by omega) (by omega), w32_id (x := 200 * f + (J 13 f - (q : Int))) (by omega) (by omega), i1, w32_id (x := 200 * f + (J 13 f - (q : Int) - 1)) (by omega) (by omega)]
        by_cases c2 : J 13 f - (q : Int) - fr < 4
        · rw [if_pos c2, b_Mo_chunkEnd_95, show ceR (fun x => J 14 (200 * f + x)) (J 13 f) fr (q + 1) = ceR (fun x => J 14 (200 * f + x)) (J 13 f) fr q by show (if _ then _ else _) = _; rw [if_neg c1, if_neg (by omega)]]
          exact ih _ rfl (by omega)
        · rw [if_neg c2]
          by_cases c3 : (J 14 (200 * f + (J 13 f - q - 1)) + 3 * J 14 (200 * f + (J 13 f - q - 2)) + 5 * J 14 (200 * f + (J 13 f - q - 3)) + 7 * J 14 (200 * f + (J 13 f - q - 4))) % 11 = 0
          · rw [show ceR (fun x => J 14 (200 * f + x)) (J 13 f) fr (q + 1) = J 13 f - q by show (if _ then _ else _) = _; rw [if_neg c1, if_pos ⟨by omega, c3⟩]]
            simp (disch := first | omega | assumption) only [↓h.e14, i2, i3, i4, Int.tmod_eq_emod_of_nonneg, Option.toList_some, Option.toList_none, List.cons_append, List.nil_append, ↓if_pos, ↓if_neg, ↓and_t, pJ_a, pJ_m, up_a, up_m, Option.some.injEq, exists_eq_left', wr_a, wr_m, true_and, and_true, not_true_eq_false, not_false_eq_true, if_true, if_false, or_true, true_or, uJ_self, uJ_ne, upI_self, upI_ne, w32_id, reduceCtorEq, ne_eq, wJ_ne, wJ_out]
          · rw [show ceR (fun x => J 14 (200 * f + x)) (J 13 f) fr (q + 1) = ceR (fun x => J 14 (200 * f + x)) (J 13 f) fr q by show (if _ then _ else _) = _; rw [if_neg c1, if_neg (fun z => c3 z.2)]]
            simp (disch := first | omega | assumption) only [↓h.e14, i2, i3, i4, Int.tmod_eq_emod_of_nonneg, b_Mo_chunkEnd_95, Option.toList_some, Option.toList_none, List.cons_append, List.nil_append, ↓if_pos, ↓if_neg, ↓and_t, pJ_a, pJ_m, up_a, up_m, Option.some.injEq, exists_eq_left', wr_a, wr_m, true_and, and_true, not_true_eq_false, not_false_eq_true, if_true, if_false, or_true, true_or, uJ_self, uJ_ne, upI_self, upI_ne, w32_id, reduceCtorEq, ne_eq, wJ_ne, wJ_out]
            exact ih _ rfl (by omega)
  have k0 := key (J 13 f - fr).toNat vJ rfl (by omega)
  rw [show J 13 f - (((J 13 f - fr).toNat : Nat) : Int) = fr by omega] at k0
  rw [in_Mo_chunkEnd, b_Mo_chunkEnd_0]
  exact k0
/-- chunks of the first t files of a slot -/
def alJ (J : Int → Int → Int) (sl : Int) : Nat → Int
  | 0 => 0
  | t + 1 => alJ J sl t + (if J 17 (10 * sl + t) ≤ 0 then 0 else J 17 (10 * sl + t))
theorem alJ_r {J : Int → Int → Int} {sl : Int} (h : MR J) : ∀ t : Nat, 0 ≤ alJ J sl t ∧ alJ J sl t ≤ 50 * t
  | 0 => ⟨Int.le_refl _, Int.le_refl _⟩
  | t + 1 => by
    have := alJ_r (sl := sl) h t
    have b := h.k17 (10 * sl + t)
    show 0 ≤ alJ J sl t + (if J 17 (10 * sl + t) ≤ 0 then 0 else J 17 (10 * sl + t)) ∧ alJ J sl t + (if J 17 (10 * sl + t) ≤ 0 then 0 else J 17 (10 * sl + t)) ≤ 50 * ((t + 1 : Nat) : Int)
    split <;> omega
/-- the chunk c is that of file f from fr on, of size z -/
abbrev isC (J : Int → Int → Int) (c f fr z : Int) : Prop := J 19 c = z ∧ eqN (fun x => J 23 (J 18 c + x)) (fun x => J 14 (200 * f + fr + x)) z.toNat = 1
def fiJ (J : Int → Int → Int) (sl f fr z : Int) : Nat → Int
  | 0 => -1
  | q + 1 => if isC J (500 * sl + (alJ J sl 10 - (q + 1))) f fr z then J 18 (500 * sl + (alJ J sl 10 - (q + 1))) else fiJ J sl f fr z q
/-- a chunk of a table lies in the segments -/
def PL (J : Int → Int → Int) : Prop := ∀ c, J 18 c + J 19 c ≤ 24000
theorem m_chunksOf {d : Nat} {K : Kt} {X : Xt} {J : Int → Int → Int} {ty : Nm → Nat} {ln : Nm → Int} {I : Nm → Int → Int} {R : Nm → Int → Option Nm} {c w : Nat} {sl : Int} (h : MOk ty ln R) (hR : MR J) (s0 : 0 ≤ sl ∧ sl < 60) :
    Mth (d + 1) M_Mo_chunksOf [vR (some [2]), vI sl] (ty, ln, pJ I J, R, c, w) K X = K (some (vI (alJ J sl 10))) (ty, ln, pJ I (J), R, c, w) := by
  have a17 := h.a17
  have h0 := h.1
  have key : ∀ q i : Nat, i + q = 10 → Rn d M_Mo_chunksOf K X 4 [vR (some [2]), vI sl, vI (alJ J sl i), vI (i : Int)] [] (ty, ln, pJ I J, R, c, w) = K (some (vI (alJ J sl 10))) (ty, ln, pJ I J, R, c, w) := by
    intro q
    induction q with
    | zero =>
      intro i hi
      rw [b_Mo_chunksOf_4, show i = 10 by omega, if_pos (by decide)]
    | succ q ih =>
      intro i hi
      have ih' := ih (i + 1) (by omega)
      have b := alJ_r (sl := sl) hR i
      have b2 := hR.k17 (10 * sl + i)
      rw [b_Mo_chunksOf_4, if_neg (by omega)]
      by_cases c1 : J 17 (10 * sl + i) ≤ 0
      · rw [show alJ J sl (i + 1) = alJ J sl i by show alJ J sl i + (if _ then 0 else _) = _; rw [if_pos c1]; omega] at ih'
        simp (disch := omega) only [b_Mo_chunksOf_40, ↓h.e17, Int.add_zero, Option.toList_some, Option.toList_none, List.cons_append, List.nil_append, ↓if_pos, ↓if_neg, ↓and_t, pJ_a, pJ_m, up_a, up_m, Option.some.injEq, exists_eq_left', wr_a, wr_m, true_and, and_true, not_true_eq_false, not_false_eq_true, if_true, if_false, or_true, true_or, uJ_self, uJ_ne, upI_self, upI_ne, w32_id, reduceCtorEq, ne_eq, wJ_ne, wJ_out]
        exact ih'
      · rw [show alJ J sl (i + 1) = alJ J sl i + J 17 (10 * sl + i) by show alJ J sl i + (if _ then 0 else _) = _; rw [if_neg c1]] at ih'
        simp (disch := omega) only [b_Mo_chunksOf_40, ↓h.e17, Option.toList_some, Option.toList_none, List.cons_append, List.nil_append, ↓if_pos, ↓if_neg, ↓and_t, pJ_a, pJ_m, up_a, up_m, Option.some.injEq, exists_eq_left', wr_a, wr_m, true_and, and_true, not_true_eq_false, not_false_eq_true, if_true, if_false, or_true, true_or, uJ_self, uJ_ne, upI_self, upI_ne, w32_id, reduceCtorEq, ne_eq, wJ_ne, wJ_out]
        exact ih'
  rw [in_Mo_chunksOf, b_Mo_chunksOf_0]
  exact key 10 0 rfl
theorem eqN_0 {f g : Int → Int} {t n : Nat} (h : eqN f g t = 0) (hn : t ≤ n) : eqN f g n = 0 := by
  induction n with
  | zero => rw [show t = 0 by omega] at h; exact h
  | succ n ih =>
    by_cases q : t = n + 1
    · rw [← q]; exact h
    · exact if_pos (Or.inl (ih (by omega)))
theorem m_findIn {d : Nat} {K : Kt} {X : Xt} {J : Int → Int → Int} {ty : Nm → Nat} {ln : Nm → Int} {I : Nm → Int → Int} {R : Nm → Int → Option Nm} {c w : Nat} {sl f fr z : Int} (h : MOk ty ln R) (hR : MR J) (hP : PL J) (s0 : 0 ≤ sl ∧ sl < 60) (f0 : 0 ≤ f ∧ f < 100) (r0 : 0 ≤ fr) (z0 : 0 ≤ z ∧ fr + z ≤ 200) :
    Mth (d + 1) M_Mo_findIn [vR (some [2]), vI sl, vI f, vI fr, vI z] (ty, ln, pJ I J, R, c, w) K X = K (some (vI (fiJ J sl f fr z (alJ J sl 10).toNat))) (ty, ln, pJ I (J), R, c, w) := by
  have a14 := h.a14
  have a17 := h.a17
  have a18 := h.a18
  have a19 := h.a19
  have a23 := h.a23
  have h0 := h.1
  have ar := alJ_r (sl := sl) hR 10
  have k2 : ∀ (q : Nat) (u7 u8 : Vl), isLg u7 = false → isLg u8 = false → (q : Int) ≤ alJ J sl 10 → Rn d M_Mo_findIn K X 62 [vR (some [2]), vI sl, vI f, vI fr, vI z, vI (alJ J sl 10), vI (500 * sl + (alJ J sl 10 - q)), u7, u8] [] (ty, ln, pJ I J, R, c, w) = K (some (vI (fiJ J sl f fr z q))) (ty, ln, pJ I J, R, c, w) := by
    intro q
    induction q with
    | zero =>
      intro u7 u8 v7 v8 hq
      rw [b_Mo_findIn_62 v7 v8, w32_id (x := 500 * sl) (by omega) (by omega), w32_id (x := 500 * sl + alJ J sl 10) (by omega) (by omega), if_pos (by omega)]
      rfl
    | succ q ih =>
      intro u7 u8 v7 v8 hq
      have ec : alJ J sl 10 - ((q + 1 : Nat) : Int) = alJ J sl 10 - (q + 1) := by omega
      obtain ⟨cc, hcc⟩ : ∃ cc, cc = 500 * sl + (alJ J sl 10 - ((q : Int) + 1)) := ⟨_, rfl⟩
      have p1 := hP cc
      have p2 := hR.k18 cc
      have p3 := hR.k19 cc
      have e9 : cc + 1 = 500 * sl + (alJ J sl 10 - q) := by omega
      have eF : fiJ J sl f fr z (q + 1) = if isC J cc f fr z then J 18 cc else fiJ J sl f fr z q := by rw [hcc]; rfl
      rw [ec, ← hcc, eF]
      have after : ∀ (y x8 : Int), Rn d M_Mo_findIn K X 155 [vR (some [2]), vI sl, vI f, vI fr, vI z, vI (alJ J sl 10), vI cc, vI y, vI x8] [] (ty, ln, pJ I J, R, c, w) = if y = 0 then K (some (vI (fiJ J sl f fr z q))) (ty, ln, pJ I J, R, c, w) else K (some (vI (J 18 cc))) (ty, ln, pJ I J, R, c, w) := by
        intro y x8
        rw [b_Mo_findIn_155]
        by_cases cy : y = 0
        · rw [if_pos cy, if_pos cy, w32_id (by omega) (by omega), e9]
          exact ih _ _ rfl rfl (by omega)
        · rw [if_neg cy, if_neg cy, and_t h0, h.e18, and_t ⟨Or.inl a18.2.1, by omega, by omega⟩, pJ_a (by decide)]
      rw [b_Mo_findIn_62 v7 v8, w32_id (x := 500 * sl) (by omega) (by omega), w32_id (x := 500 * sl + alJ J sl 10) (by omega) (by omega), if_neg (by omega), and_t h0, h.e19, and_t ⟨Or.inl a19.2.1, by omega, by omega⟩, pJ_a (by decide)]
      by_cases c1 : J 19 cc = z
      · rw [if_neg (fun u => u c1), b_Mo_findIn_92 v7 v8]
        have inner : ∀ p t : Nat, t + p = z.toNat → Rn d M_Mo_findIn K X 97 [vR (some [2]), vI sl, vI f, vI fr, vI z, vI (alJ J sl 10), vI cc, vI (eqN (fun x => J 23 (J 18 cc + x)) (fun x => J 14 (200 * f + fr + x)) t), vI (t : Int)] [] (ty, ln, pJ I J, R, c, w) = if eqN (fun x => J 23 (J 18 cc + x)) (fun x => J 14 (200 * f + fr + x)) z.toNat = 0 then K (some (vI (fiJ J sl f fr z q))) (ty, ln, pJ I J, R, c, w) else K (some (vI (J 18 cc))) (ty, ln, pJ I J, R, c, w) := by
          intro p
          induction p with
          | zero =>
            intro t ht
            rw [b_Mo_findIn_97, if_pos (by omega), after, show t = z.toNat by omega]
          | succ p ih2 =>
            intro t ht
            have ih3 := ih2 (t + 1) (by omega)
            rw [b_Mo_findIn_97, if_neg (by omega)]
            by_cases d1 : eqN (fun x => J 23 (J 18 cc + x)) (fun x => J 14 (200 * f + fr + x)) t = 0
            · rw [if_pos d1, after, if_pos d1, eqN_0 d1 (by omega), if_pos rfl]
            · rw [if_neg d1, and_t h0, and_t h0, h.e18, and_t ⟨Or.inl a18.2.1, by omega, by omega⟩, h.e23, pJ_a (by decide), w32_id (x := J 18 cc + (t : Int)) (by omega) (by omega), and_t ⟨Or.inl a23.2.1, by omega, by omega⟩, and_t h0, h.e14, w32_id (x := 200 * f) (by omega) (by omega), w32_id (x := 200 * f + fr) (by omega) (by omega), w32_id (x := 200 * f + fr + (t : Int)) (by omega) (by omega), and_t ⟨Or.inl a14.2.1, by omega, by omega⟩, pJ_a (by decide), pJ_a (by decide)]
              by_cases d2 : J 23 (J 18 cc + t) = J 14 (200 * f + fr + t)
              · rw [show eqN (fun x => J 23 (J 18 cc + x)) (fun x => J 14 (200 * f + fr + x)) (t + 1) = 1 from if_neg (fun u => u.elim d1 (fun y => y d2))] at ih3
                rw [if_neg (fun u => u d2), b_Mo_findIn_147, w32_id (by omega) (by omega)]
                exact ih3
              · rw [show eqN (fun x => J 23 (J 18 cc + x)) (fun x => J 14 (200 * f + fr + x)) (t + 1) = 0 from if_pos (Or.inr d2)] at ih3
                rw [if_pos d2, b_Mo_findIn_147, w32_id (by omega) (by omega)]
                exact ih3
        have k9 := inner z.toNat 0 (Nat.zero_add _)
        refine k9.trans ?_
        rcases eqN_r (f := fun x => J 23 (J 18 cc + x)) (g := fun x => J 14 (200 * f + fr + x)) z.toNat with e0 | e0
        · rw [if_pos e0, if_neg (fun u => by have := u.2; omega)]
        · rw [if_neg (by omega), if_pos ⟨c1, e0⟩]
      · rw [if_pos c1, b_Mo_findIn_92 v7 v8, if_neg (fun u => c1 u.1), b_Mo_findIn_97]
        by_cases c2 : z ≤ 0
        · rw [if_pos c2, after, if_pos rfl]
        · rw [if_neg c2, if_pos rfl, after, if_pos rfl]
  have k1 : ∀ q i : Nat, i + q = 10 → Rn d M_Mo_findIn K X 6 [vR (some [2]), vI sl, vI f, vI fr, vI z, vI (alJ J sl i), vI (i : Int), vJ, vJ] [] (ty, ln, pJ I J, R, c, w) = K (some (vI (fiJ J sl f fr z (alJ J sl 10).toNat))) (ty, ln, pJ I J, R, c, w) := by
    intro q
    induction q with
    | zero =>
      intro i hi
      rw [b_Mo_findIn_6, show i = 10 by omega, if_pos (by decide), w32_id (x := 500 * sl) (by omega) (by omega)]
      have := k2 (alJ J sl 10).toNat vJ vJ rfl rfl (by omega)
      rw [show 500 * sl + (alJ J sl 10 - (((alJ J sl 10).toNat : Nat) : Int)) = 500 * sl by omega] at this
      exact this
    | succ q ih =>
      intro i hi
      have ih' := ih (i + 1) (by omega)
      have b := alJ_r (sl := sl) hR i
      have b2 := hR.k17 (10 * sl + i)
      rw [b_Mo_findIn_6, if_neg (by omega)]
      by_cases c1 : J 17 (10 * sl + i) ≤ 0
      · rw [show alJ J sl (i + 1) = alJ J sl i by show alJ J sl i + (if _ then 0 else _) = _; rw [if_pos c1]; omega] at ih'
        simp (disch := omega) only [b_Mo_findIn_46, ↓h.e17, Int.add_zero, Option.toList_some, Option.toList_none, List.cons_append, List.nil_append, ↓if_pos, ↓if_neg, ↓and_t, pJ_a, pJ_m, up_a, up_m, Option.some.injEq, exists_eq_left', wr_a, wr_m, true_and, and_true, not_true_eq_false, not_false_eq_true, if_true, if_false, or_true, true_or, uJ_self, uJ_ne, upI_self, upI_ne, w32_id, reduceCtorEq, ne_eq, wJ_ne, wJ_out]
        exact ih'
      · rw [show alJ J sl (i + 1) = alJ J sl i + J 17 (10 * sl + i) by show alJ J sl i + (if _ then 0 else _) = _; rw [if_neg c1]] at ih'
        simp (disch := omega) only [b_Mo_findIn_46, ↓h.e17, Option.toList_some, Option.toList_none, List.cons_append, List.nil_append, ↓if_pos, ↓if_neg, ↓and_t, pJ_a, pJ_m, up_a, up_m, Option.some.injEq, exists_eq_left', wr_a, wr_m, true_and, and_true, not_true_eq_false, not_false_eq_true, if_true, if_false, or_true, true_or, uJ_self, uJ_ne, upI_self, upI_ne, w32_id, reduceCtorEq, ne_eq, wJ_ne, wJ_out]
        exact ih'
  rw [in_Mo_findIn, b_Mo_findIn_0]
  exact k1 10 0 rfl
/-- the place of such a chunk, in a slot that has a number or in slot sl, q slots still to be looked at -/
def fcJ (J : Int → Int → Int) (a sl f fr z : Int) : Nat → Int
  | 0 => -1
  | q + 1 => if (0 ≤ J 16 (6 * a + (6 - (q + 1))) ∨ 6 * a + (6 - ((q : Int) + 1)) = sl) ∧ 0 ≤ fiJ J (6 * a + (6 - (q + 1))) f fr z (alJ J (6 * a + (6 - (q + 1))) 10).toNat then fiJ J (6 * a + (6 - (q + 1))) f fr z (alJ J (6 * a + (6 - (q + 1))) 10).toNat else fcJ J a sl f fr z q
theorem fiJ_r {J : Int → Int → Int} {sl f fr z : Int} (h : MR J) : ∀ q : Nat, -1 ≤ fiJ J sl f fr z q
  | 0 => Int.le_refl _
  | q + 1 => by
    by_cases c : isC J (500 * sl + (alJ J sl 10 - (q + 1))) f fr z
    · rw [show fiJ J sl f fr z (q + 1) = J 18 (500 * sl + (alJ J sl 10 - (q + 1))) from if_pos c]
      have := h.k18 (500 * sl + (alJ J sl 10 - (q + 1)))
      omega
    · rw [show fiJ J sl f fr z (q + 1) = fiJ J sl f fr z q from if_neg c]
      exact fiJ_r h q
theorem m_findChunk {d : Nat} {K : Kt} {X : Xt} {J : Int → Int → Int} {ty : Nm → Nat} {ln : Nm → Int} {I : Nm → Int → Int} {R : Nm → Int → Option Nm} {c w : Nat} {a sl f fr z : Int} (h : MOk ty ln R) (hR : MR J) (hP : PL J) (a0 : 0 ≤ a ∧ a ≤ 9) (f0 : 0 ≤ f ∧ f < 100) (r0 : 0 ≤ fr) (z0 : 0 ≤ z ∧ fr + z ≤ 200) :
    Mth (d + 2) M_Mo_findChunk [vR (some [2]), vI a, vI sl, vI f, vI fr, vI z] (ty, ln, pJ I J, R, c, w) K X = K (some (vI (fcJ J a sl f fr z 6))) (ty, ln, pJ I (J), R, c, w) := by
  have a16 := h.a16
  have h0 := h.1
  have key : ∀ (q : Nat), q ≤ 6 → Rn (d + 1) M_Mo_findChunk K X 9 [vR (some [2]), vI a, vI sl, vI f, vI fr, vI z, vI (-1), vI (6 * a + (6 - (q : Int)))] [] (ty, ln, pJ I J, R, c, w) = K (some (vI (fcJ J a sl f fr z q))) (ty, ln, pJ I J, R, c, w) := by
    intro q
    induction q with
    | zero =>
      intro hq
      rw [b_Mo_findChunk_9, w32_id (x := 6 * a) (by omega) (by omega), w32_id (x := 6 * a + 6) (by omega) (by omega), if_pos (by omega), b_Mo_findChunk_65]
      rfl
    | succ q ih =>
      intro hq
      have ec : 6 * a + (6 - ((q + 1 : Nat) : Int)) = 6 * a + (6 - ((q : Int) + 1)) := by omega
      obtain ⟨kk, hkk⟩ : ∃ kk, kk = 6 * a + (6 - ((q : Int) + 1)) := ⟨_, rfl⟩
      have e9 : kk + 1 = 6 * a + (6 - (q : Int)) := by omega
      have fr9 := fiJ_r (sl := kk) (f := f) (fr := fr) (z := z) hR (alJ J kk 10).toNat
      have eF : fcJ J a sl f fr z (q + 1) = if (0 ≤ J 16 kk ∨ kk = sl) ∧ 0 ≤ fiJ J kk f fr z (alJ J kk 10).toNat then fiJ J kk f fr z (alJ J kk 10).toNat else fcJ J a sl f fr z q := by rw [hkk]; rfl
      rw [ec, ← hkk, eF, b_Mo_findChunk_9, w32_id (x := 6 * a) (by omega) (by omega), w32_id (x := 6 * a + 6) (by omega) (by omega), if_neg (by omega), if_neg (by decide), and_t h0, h.e16, and_t ⟨Or.inl a16.2.1, by omega, by omega⟩, pJ_a (by decide)]
      have yes : (0 ≤ J 16 kk ∨ kk = sl) → Rn (d + 1) M_Mo_findChunk K X 42 [vR (some [2]), vI a, vI sl, vI f, vI fr, vI z, vI (-1), vI kk] [] (ty, ln, pJ I J, R, c, w) = K (some (vI (if (0 ≤ J 16 kk ∨ kk = sl) ∧ 0 ≤ fiJ J kk f fr z (alJ J kk 10).toNat then fiJ J kk f fr z (alJ J kk 10).toNat else fcJ J a sl f fr z q))) (ty, ln, pJ I J, R, c, w) := by
        intro hy
        rw [b_Mo_findChunk_42, and_t h0, m_findIn h hR hP (by omega) f0 r0 z0]
        refine b_Mo_findChunk_53.trans ?_
        rw [b_Mo_findChunk_57, w32_id (by omega) (by omega)]
        by_cases c1 : 0 ≤ fiJ J kk f fr z (alJ J kk 10).toNat
        · rw [if_pos ⟨hy, c1⟩, b_Mo_findChunk_9]
          by_cases c2 : (w32 ((w32 (6 * a)) + 6)) ≤ kk + 1
          · rw [if_pos c2, b_Mo_findChunk_65]
          · rw [if_neg c2, if_pos c1, b_Mo_findChunk_65]
        · rw [if_neg (fun u => c1 u.2), show fiJ J kk f fr z (alJ J kk 10).toNat = -1 by omega, e9]
          exact ih (by omega)
      by_cases c1 : 0 ≤ J 16 kk
      · rw [if_pos c1]
        exact yes (Or.inl c1)
      · rw [if_neg c1]
        by_cases c2 : kk = sl
        · rw [if_neg (fun u => u c2)]
          exact yes (Or.inr c2)
        · rw [if_pos c2, b_Mo_findChunk_57, w32_id (by omega) (by omega), e9, if_neg (fun u => u.1.elim c1 c2)]
          exact ih (by omega)
  have k0 := key 6 (by decide)
  rw [in_Mo_findChunk, b_Mo_findChunk_0, w32_id (by omega) (by omega)]
  rw [show 6 * a + (6 - ((6 : Nat) : Int)) = 6 * a by omega] at k0
  exact k0
