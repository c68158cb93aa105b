/-! ===== the reference: rows of the system ===== -/
/-- a system of k rows of k + l numbers laid over the arrays 32 and 34 -/
def mxJ (J : Int → Int → Int) (k l : Int) (A : Int → Int → Int) : Int → Int → Int := fun q j => if q = 32 ∧ 0 ≤ j ∧ j < 6 * k ∧ j % 6 < k then A (j / 6) (j % 6) else if q = 34 ∧ 0 ≤ j ∧ j < 30 * k ∧ j % 30 < l then A (j / 30) (k + j % 30) else J q j
theorem mx_m {J A : Int → Int → Int} {k l r i : Int} (hk : k ≤ 6) (hr : 0 ≤ r ∧ r < k) (hi : 0 ≤ i ∧ i < k) : mxJ J k l A 32 (6 * r + i) = A r i := by
  unfold mxJ
  rw [if_pos ⟨rfl, by omega, by omega, by omega⟩, show (6 * r + i) / 6 = r by omega, show (6 * r + i) % 6 = i by omega]
theorem mx_r {J A : Int → Int → Int} {k l r t : Int} (hl : l ≤ 30) (hr : 0 ≤ r ∧ r < k) (ht : 0 ≤ t ∧ t < l) : mxJ J k l A 34 (30 * r + t) = A r (k + t) := by
  unfold mxJ
  rw [if_neg (fun z => absurd z.1 (by decide)), if_pos ⟨rfl, by omega, by omega, by omega⟩, show (30 * r + t) / 30 = r by omega, show (30 * r + t) % 30 = t by omega]
theorem mx_o {J A : Int → Int → Int} {k l q j : Int} (h1 : q ≠ 32) (h2 : q ≠ 34) : mxJ J k l A q j = J q j := by
  unfold mxJ
  rw [if_neg (fun z => h1 z.1), if_neg (fun z => h2 z.1)]
theorem mx_e {J A B : Int → Int → Int} {k l : Int} (hl : 0 ≤ l) (h : ∀ r c, 0 ≤ r → r < k → 0 ≤ c → c < k + l → A r c = B r c) : mxJ J k l A = mxJ J k l B := by
  funext q j
  unfold mxJ
  by_cases c1 : q = 32 ∧ 0 ≤ j ∧ j < 6 * k ∧ j % 6 < k
  · rw [if_pos c1, if_pos c1]
    exact h _ _ (by omega) (by omega) (by omega) (by omega)
  · rw [if_neg c1, if_neg c1]
    by_cases c2 : q = 34 ∧ 0 ≤ j ∧ j < 30 * k ∧ j % 30 < l
    · rw [if_pos c2, if_pos c2]
      exact h _ _ (by omega) (by omega) (by omega) (by omega)
    · rw [if_neg c2, if_neg c2]
/-- the first columns of a row written anew -/
def rowF (A : Int → Int → Int) (r hi : Int) (f : Int → Int) : Int → Int → Int := fun r' c => if r' = r ∧ c < hi then f c else A r' c
theorem rowF_ne {A : Int → Int → Int} {r hi r' c : Int} {f : Int → Int} (h : r' ≠ r) : rowF A r hi f r' c = A r' c := if_neg fun z => h z.1
theorem rowF_lt {A : Int → Int → Int} {r hi c : Int} {f : Int → Int} (h : c < hi) : rowF A r hi f r c = f c := if_pos ⟨rfl, h⟩
theorem rowF_ge {A : Int → Int → Int} {r hi c : Int} {f : Int → Int} (h : hi ≤ c) : rowF A r hi f r c = A r c := if_neg fun z => by omega
theorem mx_um {J A : Int → Int → Int} {k l r i v : Int} {f : Int → Int} (hk : k ≤ 6) (hl : 0 ≤ l) (hr : 0 ≤ r ∧ r < k) (hi : 0 ≤ i ∧ i < k) (hv : v = f i) : uJ (mxJ J k l (rowF A r i f)) 32 (6 * r + i) v = mxJ J k l (rowF A r (i + 1) f) := by
  funext q j
  by_cases q1 : q = 32
  · subst q1
    rw [uJ_self]
    by_cases q2 : j = 6 * r + i
    · subst q2
      rw [upI_self, mx_m hk hr hi, rowF_lt (by omega), hv]
    · rw [upI_ne _ _ q2]
      unfold mxJ
      by_cases c1 : (32 : Int) = 32 ∧ 0 ≤ j ∧ j < 6 * k ∧ j % 6 < k
      · rw [if_pos c1, if_pos c1]
        unfold rowF
        by_cases c2 : j / 6 = r ∧ j % 6 < i
        · rw [if_pos c2, if_pos ⟨c2.1, by omega⟩]
        · rw [if_neg c2, if_neg (fun z => by omega)]
      · rw [if_neg c1, if_neg c1]
        have n34 : ¬ ((32 : Int) = 34 ∧ 0 ≤ j ∧ j < 30 * k ∧ j % 30 < l) := fun z => absurd z.1 (by decide)
        rw [if_neg n34, if_neg n34]
  · rw [uJ_ne q1]
    unfold mxJ
    have n32 : ¬ (q = 32 ∧ 0 ≤ j ∧ j < 6 * k ∧ j % 6 < k) := fun z => q1 z.1
    rw [if_neg n32, if_neg n32]
    by_cases c1 : q = 34 ∧ 0 ≤ j ∧ j < 30 * k ∧ j % 30 < l
    · rw [if_pos c1, if_pos c1]
      unfold rowF
      rw [if_neg (fun z => by omega), if_neg (fun z => by omega)]
    · rw [if_neg c1, if_neg c1]
theorem mx_ur {J A : Int → Int → Int} {k l r t v : Int} {f : Int → Int} (hl : l ≤ 30) (hr : 0 ≤ r ∧ r < k) (ht : 0 ≤ t ∧ t < l) (hv : v = f (k + t)) : uJ (mxJ J k l (rowF A r (k + t) f)) 34 (30 * r + t) v = mxJ J k l (rowF A r (k + t + 1) f) := by
  funext q j
  by_cases q1 : q = 34
  · subst q1
    rw [uJ_self]
    by_cases q2 : j = 30 * r + t
    · subst q2
      rw [upI_self, mx_r hl hr ht, rowF_lt (by omega), hv]
    · rw [upI_ne _ _ q2]
      unfold mxJ
      have n32 : ¬ ((34 : Int) = 32 ∧ 0 ≤ j ∧ j < 6 * k ∧ j % 6 < k) := fun z => absurd z.1 (by decide)
      rw [if_neg n32, if_neg n32]
      by_cases c1 : (34 : Int) = 34 ∧ 0 ≤ j ∧ j < 30 * k ∧ j % 30 < l
      · rw [if_pos c1, if_pos c1]
        unfold rowF
        by_cases c2 : j / 30 = r ∧ k + j % 30 < k + t
        · rw [if_pos c2, if_pos ⟨c2.1, by omega⟩]
        · rw [if_neg c2, if_neg (fun z => by omega)]
      · rw [if_neg c1, if_neg c1]
  · rw [uJ_ne q1]
    unfold mxJ
    by_cases c1 : q = 32 ∧ 0 ≤ j ∧ j < 6 * k ∧ j % 6 < k
    · rw [if_pos c1, if_pos c1]
      unfold rowF
      by_cases c2 : j / 6 = r
      · rw [if_pos ⟨c2, by omega⟩, if_pos ⟨c2, by omega⟩]
      · rw [if_neg (fun z => c2 z.1), if_neg (fun z => c2 z.1)]
    · have n34 : ¬ (q = 34 ∧ 0 ≤ j ∧ j < 30 * k ∧ j % 30 < l) := fun z => q1 z.1
      rw [if_neg c1, if_neg c1, if_neg n34, if_neg n34]
theorem uJ_same {J : Int → Int → Int} {k j v : Int} (h : v = J k j) : uJ J k j v = J := by
  funext k' j'
  by_cases q : k' = k
  · subst q
    rw [uJ_self]
    by_cases q2 : j' = j
    · subst q2; rw [upI_self, h]
    · rw [upI_ne _ _ q2]
  · rw [uJ_ne q]
def rg8 (A : Int → Int → Int) (k l : Int) : Prop := ∀ r c, 0 ≤ r → r < k → 0 ≤ c → c < k + l → 0 ≤ A r c ∧ A r c < 256
theorem rowF_0 {J A : Int → Int → Int} {k l r : Int} {f : Int → Int} (hl : 0 ≤ l) : mxJ J k l (rowF A r 0 f) = mxJ J k l A := mx_e hl (fun r' c _ _ c0 _ => if_neg fun z => by omega)
theorem m_scale {d : Nat} {K : Kt} {X : Xt} {J : Int → Int → Int} {ty : Nm → Nat} {ln : Nm → Int} {I : Nm → Int → Int} {R : Nm → Int → Option Nm} {c w : Nat} {k l r b : Int} {A : Int → Int → Int} (h : MOk ty ln R) (hk : 2 ≤ k ∧ k ≤ 6) (hl : 10 ≤ l ∧ l ≤ 30) (ek : J (-1) 2 = k) (hr : 0 ≤ r ∧ r < k) (hb : 0 ≤ b ∧ b < 256) (hA : rg8 A k l) :
    Mth (d + 2) M_Mo_scale [vR (some [2]), vI r, vI b, vI l] (ty, ln, pJ I (mxJ J k l A), R, c, w) K X = K none (ty, ln, pJ I (mxJ J k l (rowF A r (k + l) (fun c => mulZ b (A r c)))), R, c, w) := by
  have h0 := h.1
  have a32 := h.a32
  have a34 := h.a34
  obtain ⟨f, hf⟩ : ∃ f, f = fun c => mulZ b (A r c) := ⟨_, rfl⟩
  rw [← hf]
  have k2 : ∀ q t : Nat, t + q = l.toNat → Rn (d + 1) M_Mo_scale K X 49 [vR (some [2]), vI r, vI b, vI l, vI (t : Int)] [] (ty, ln, pJ I (mxJ J k l (rowF A r (k + t) f)), R, c, w) = K none (ty, ln, pJ I (mxJ J k l (rowF A r (k + l) f)), R, c, w) := by
    intro q
    induction q with
    | zero =>
      intro t ht
      rw [b_Mo_scale_49, if_pos (by omega), show (t : Int) = l by omega]
    | succ q ih =>
      intro t ht
      have a := hA r (k + t) hr.1 hr.2 (by omega) (by omega)
      have ih' := ih (t + 1) (by omega)
      rw [b_Mo_scale_49, if_neg (by omega), and_t h0, and_t h0, h.e34, w32_id (x := 30 * r) (by omega) (by omega), w32_id (x := 30 * r + (t : Int)) (by omega) (by omega), and_t ⟨Or.inl a34.2.1, by omega, by omega⟩, pJ_a (by decide), mx_r hl.2 hr (by omega), rowF_ge (by omega), s_product hb a, a34.1]
      refine b_Mo_scale_82.trans ?_
      rw [ex_some, and_t ⟨a34.2.1, rfl, by omega, by omega⟩, up_a (by decide), mx_ur hl.2 hr (by omega) (by rw [hf]), w32_id (by omega) (by omega)]
      rw [show k + ((t + 1 : Nat) : Int) = k + (t : Int) + 1 by omega] at ih'
      exact ih'
  have k1 : ∀ q i : Nat, i + q = k.toNat → Rn (d + 1) M_Mo_scale K X 3 [vR (some [2]), vI r, vI b, vI l, vI (i : Int)] [] (ty, ln, pJ I (mxJ J k l (rowF A r i f)), R, c, w) = K none (ty, ln, pJ I (mxJ J k l (rowF A r (k + l) f)), R, c, w) := by
    intro q
    induction q with
    | zero =>
      intro i hi
      rw [b_Mo_scale_3, and_t h0, pJ_m, mx_o (by decide) (by decide), ek, if_pos (by omega), show (i : Int) = k by omega]
      have := k2 l.toNat 0 (Nat.zero_add _)
      rw [show k + ((0 : Nat) : Int) = k by omega] at this
      exact this
    | succ q ih =>
      intro i hi
      have a := hA r i hr.1 hr.2 (by omega) (by omega)
      rw [b_Mo_scale_3, and_t h0, pJ_m, mx_o (by decide) (by decide), ek, if_neg (by omega), and_t h0, and_t h0, h.e32, w32_id (x := 6 * r) (by omega) (by omega), w32_id (x := 6 * r + (i : Int)) (by omega) (by omega), and_t ⟨Or.inl a32.2.1, by omega, by omega⟩, pJ_a (by decide), mx_m hk.2 hr (by omega), rowF_ge (by omega), s_product hb a, a32.1]
      refine b_Mo_scale_39.trans ?_
      rw [ex_some, and_t ⟨a32.2.1, rfl, by omega, by omega⟩, up_a (by decide), mx_um hk.2 (by omega) hr (by omega) (by rw [hf]), w32_id (by omega) (by omega)]
      exact ih (i + 1) (by omega)
  have k0 := k1 k.toNat 0 (Nat.zero_add _)
  rw [show ((0 : Nat) : Int) = 0 from rfl, rowF_0 (by omega)] at k0
  rw [in_Mo_scale, b_Mo_scale_0]
  exact k0
theorem m_subtract {d : Nat} {K : Kt} {X : Xt} {J : Int → Int → Int} {ty : Nm → Nat} {ln : Nm → Int} {I : Nm → Int → Int} {R : Nm → Int → Option Nm} {c w : Nat} {k l r p b : Int} {A : Int → Int → Int} (h : MOk ty ln R) (hk : 2 ≤ k ∧ k ≤ 6) (hl : 10 ≤ l ∧ l ≤ 30) (ek : J (-1) 2 = k) (hr : 0 ≤ r ∧ r < k) (hp : 0 ≤ p ∧ p < k) (hrp : p ≠ r) (hb : 0 ≤ b ∧ b < 256) (hA : rg8 A k l) :
    Mth (d + 2) M_Mo_subtract [vR (some [2]), vI r, vI p, vI b, vI l] (ty, ln, pJ I (mxJ J k l A), R, c, w) K X = K none (ty, ln, pJ I (mxJ J k l (rowF A r (k + l) (fun c => xorZ (A r c) (mulZ b (A p c))))), R, c, w) := by
  have h0 := h.1
  have a32 := h.a32
  have a34 := h.a34
  obtain ⟨f, hf⟩ : ∃ f, f = fun c => xorZ (A r c) (mulZ b (A p c)) := ⟨_, rfl⟩
  rw [← hf]
  have k2 : ∀ q t : Nat, t + q = l.toNat → Rn (d + 1) M_Mo_subtract K X 62 [vR (some [2]), vI r, vI p, vI b, vI l, vI (t : Int)] [] (ty, ln, pJ I (mxJ J k l (rowF A r (k + t) f)), R, c, w) = K none (ty, ln, pJ I (mxJ J k l (rowF A r (k + l) f)), R, c, w) := by
    intro q
    induction q with
    | zero =>
      intro t ht
      rw [b_Mo_subtract_62, if_pos (by omega), show (t : Int) = l by omega]
    | succ q ih =>
      intro t ht
      have a := hA r (k + t) hr.1 hr.2 (by omega) (by omega)
      have a' := hA p (k + t) hp.1 hp.2 (by omega) (by omega)
      have m := mulZ_r (a := b) (b := A p (k + t)) hb
      have ih' := ih (t + 1) (by omega)
      rw [b_Mo_subtract_62, if_neg (by omega), and_t h0, and_t h0, h.e34, w32_id (x := 30 * r) (by omega) (by omega), w32_id (x := 30 * r + (t : Int)) (by omega) (by omega), and_t ⟨Or.inl a34.2.1, by omega, by omega⟩, and_t h0, h.e34, w32_id (x := 30 * p) (by omega) (by omega), w32_id (x := 30 * p + (t : Int)) (by omega) (by omega), and_t ⟨Or.inl a34.2.1, by omega, by omega⟩, pJ_a (by decide), mx_r hl.2 hp (by omega), rowF_ne hrp, mx_r hl.2 hr (by omega), rowF_ge (by omega), s_product hb a', a34.1]
      refine b_Mo_subtract_108.trans ?_
      rw [ex_some, and_t ⟨a34.2.1, rfl, by omega, by omega⟩, xor32_z (by omega) (by omega), up_a (by decide), mx_ur hl.2 hr (by omega) (by rw [hf]), w32_id (by omega) (by omega)]
      rw [show k + ((t + 1 : Nat) : Int) = k + (t : Int) + 1 by omega] at ih'
      exact ih'
  have k1 : ∀ q i : Nat, i + q = k.toNat → Rn (d + 1) M_Mo_subtract K X 3 [vR (some [2]), vI r, vI p, vI b, vI l, vI (i : Int)] [] (ty, ln, pJ I (mxJ J k l (rowF A r i f)), R, c, w) = K none (ty, ln, pJ I (mxJ J k l (rowF A r (k + l) f)), R, c, w) := by
    intro q
    induction q with
    | zero =>
      intro i hi
      rw [b_Mo_subtract_3, and_t h0, pJ_m, mx_o (by decide) (by decide), ek, if_pos (by omega), show (i : Int) = k by omega]
      have := k2 l.toNat 0 (Nat.zero_add _)
      rw [show k + ((0 : Nat) : Int) = k by omega] at this
      exact this
    | succ q ih =>
      intro i hi
      have a := hA r i hr.1 hr.2 (by omega) (by omega)
      have a' := hA p i hp.1 hp.2 (by omega) (by omega)
      have m := mulZ_r (a := b) (b := A p i) hb
      rw [b_Mo_subtract_3, and_t h0, pJ_m, mx_o (by decide) (by decide), ek, if_neg (by omega), and_t h0, and_t h0, h.e32, w32_id (x := 6 * r) (by omega) (by omega), w32_id (x := 6 * r + (i : Int)) (by omega) (by omega), and_t ⟨Or.inl a32.2.1, by omega, by omega⟩, and_t h0, h.e32, w32_id (x := 6 * p) (by omega) (by omega), w32_id (x := 6 * p + (i : Int)) (by omega) (by omega), and_t ⟨Or.inl a32.2.1, by omega, by omega⟩, pJ_a (by decide), mx_m hk.2 hp (by omega), rowF_ne hrp, mx_m hk.2 hr (by omega), rowF_ge (by omega), s_product hb a', a32.1]
      refine b_Mo_subtract_51.trans ?_
      rw [ex_some, and_t ⟨a32.2.1, rfl, by omega, by omega⟩, xor32_z (by omega) (by omega), up_a (by decide), mx_um hk.2 (by omega) hr (by omega) (by rw [hf]), w32_id (by omega) (by omega)]
      exact ih (i + 1) (by omega)
  have k0 := k1 k.toNat 0 (Nat.zero_add _)
  rw [show ((0 : Nat) : Int) = 0 from rfl, rowF_0 (by omega)] at k0
  rw [in_Mo_subtract, b_Mo_subtract_0]
  exact k0
/-- a row swapped with itself -/
theorem m_swap {d : Nat} {K : Kt} {X : Xt} {J : Int → Int → Int} {ty : Nm → Nat} {ln : Nm → Int} {I : Nm → Int → Int} {R : Nm → Int → Option Nm} {c w : Nat} {k l r : Int} (h : MOk ty ln R) (hk : 2 ≤ k ∧ k ≤ 6) (hl : 10 ≤ l ∧ l ≤ 30) (ek : J (-1) 2 = k) (hr : 0 ≤ r ∧ r < k) :
    Mth (d + 1) M_Mo_swap [vR (some [2]), vI r, vI r, vI l] (ty, ln, pJ I J, R, c, w) K X = K none (ty, ln, pJ I J, R, c, w) := by
  have h0 := h.1
  have a32 := h.a32
  have a34 := h.a34
  have k2 : ∀ q t : Nat, t + q = l.toNat → ∀ u5, isLg u5 = false → Rn d M_Mo_swap K X 73 [vR (some [2]), vI r, vI r, vI l, vI (t : Int), u5] [] (ty, ln, pJ I J, R, c, w) = K none (ty, ln, pJ I J, R, c, w) := by
    intro q
    induction q with
    | zero =>
      intro t ht u5 v5
      rw [b_Mo_swap_73 v5, if_pos (by omega)]
    | succ q ih =>
      intro t ht u5 v5
      rw [b_Mo_swap_73 v5, if_neg (by omega)]
      simp (disch := omega) only [↓h.e34, Option.toList_some, Option.toList_none, List.cons_append, List.nil_append, ↓if_pos, ↓if_neg, ↓and_t, pJ_a, pJ_m, up_a, up_m, Option.some.injEq, exists_eq_left', wr_a, wr_m, true_and, and_true, not_true_eq_false, not_false_eq_true, if_true, if_false, or_true, true_or, uJ_self, uJ_ne, upI_self, upI_ne, w32_id, reduceCtorEq, ne_eq, wJ_ne, wJ_out]
      rw [uJ_same rfl, uJ_same rfl]
      exact ih (t + 1) (by omega) _ rfl
  have k1 : ∀ q i : Nat, i + q = k.toNat → ∀ u5, isLg u5 = false → Rn d M_Mo_swap K X 3 [vR (some [2]), vI r, vI r, vI l, vI (i : Int), u5] [] (ty, ln, pJ I J, R, c, w) = K none (ty, ln, pJ I J, R, c, w) := by
    intro q
    induction q with
    | zero =>
      intro i hi u5 v5
      rw [b_Mo_swap_3 v5, and_t h0, pJ_m, ek, if_pos (by omega)]
      exact k2 l.toNat 0 (Nat.zero_add _) _ v5
    | succ q ih =>
      intro i hi u5 v5
      rw [b_Mo_swap_3 v5, and_t h0, pJ_m, ek, if_neg (by omega)]
      simp (disch := omega) only [↓h.e32, Option.toList_some, Option.toList_none, List.cons_append, List.nil_append, ↓if_pos, ↓if_neg, ↓and_t, pJ_a, pJ_m, up_a, up_m, Option.some.injEq, exists_eq_left', wr_a, wr_m, true_and, and_true, not_true_eq_false, not_false_eq_true, if_true, if_false, or_true, true_or, uJ_self, uJ_ne, upI_self, upI_ne, w32_id, reduceCtorEq, ne_eq, wJ_ne, wJ_out]
      rw [uJ_same rfl, uJ_same rfl]
      exact ih (i + 1) (by omega) _ rfl
  rw [in_Mo_swap, b_Mo_swap_0]
  exact k1 k.toNat 0 (Nat.zero_add _) _ rfl
