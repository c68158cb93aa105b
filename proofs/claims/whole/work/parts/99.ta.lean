/-! ===== lists: add, remove ===== -/
theorem shr1_0 : allB (fun b => decide (shr32 ((b : Nat) : Int) 1 = ((b / 2 : Nat) : Int))) 4000 = true := by decide +kernel
theorem shr1 {x : Int} (h : 0 ≤ x ∧ x < 4000) : shr32 x 1 = x / 2 := by
  have := of_decide_eq_true (allB_ok shr1_0 x.toNat (by omega))
  rw [Int.toNat_of_nonneg h.1] at this
  omega
abbrev oke (ty : Nm → Nat) (y : Nm) : Prop := 100 ≤ ty y ∧ ty y < 110
theorem avB8_0 : ∀ k : Nat, k < 10 → avB 8 k = true := by decide +kernel
theorem avB8 {k : Nat} (h : 100 ≤ k ∧ k < 110) : avB 8 (k - 100) = true := avB8_0 _ (by omega)
theorem avB6 : avB 6 (101 - 100) = true := by decide +kernel
theorem avB7 : avB 7 (106 - 100) = true := by decide +kernel
/-- list t of n elements in row m -/
def LQ (ty : Nm → Nat) (ln : Nm → Int) (I : Nm → Int → Int) (R : Nm → Int → Option Nm) (t m : Nm) (n : Int) : Prop :=
  (ty t = 110 ∧ wr t = true) ∧ R t 0 = some m ∧ I t 1 = n ∧ (0 ≤ n ∧ n ≤ ln m ∧ ln m ≤ 3620) ∧ ((m = nE ∧ ln m = 0 ∧ ty m = 20) ∨ (ty m = 8 ∧ 10 ≤ ln m ∧ wr m = true)) ∧ (∀ j y, R m j = some y → oke ty y)
theorem s_AL_size2 {d : Nat} {K : Kt} {X : Xt} {ty : Nm → Nat} {ln : Nm → Int} {I : Nm → Int → Int} {R : Nm → Int → Option Nm} {c w : Nat} {t m : Nm} {n : Int} (h : LQ ty ln I R t m n) : Mth (d + 1) M_AL_size [vR (some t)] (ty, ln, I, R, c, w) K X = K (some (vI n)) (ty, ln, I, R, c, w) := by
  rw [s_AL_size h.1.1, h.2.2.1]
theorem s_AL_get2 {d : Nat} {K : Kt} {X : Xt} {ty : Nm → Nat} {ln : Nm → Int} {I : Nm → Int → Int} {R : Nm → Int → Option Nm} {c w : Nat} {t m : Nm} {n i : Int} (h : LQ ty ln I R t m n) (hi : 0 ≤ i ∧ i < n) : Mth (d + 3) M_AL_get [vR (some t), vI i] (ty, ln, I, R, c, w) K X = K (some (vR (R m i))) (ty, ln, I, R, c, w) := by
  obtain ⟨h1, h2, h3, h4, h5, h6⟩ := h
  exact s_AL_get h1.1 h2 (h5.elim (fun z => by omega) (fun z => z.1)) hi.1 (by omega) (by omega)
set_option maxHeartbeats 2000000 in
theorem s_AL_add {d : Nat} {K : Kt} {X : Xt} {ty : Nm → Nat} {ln : Nm → Int} {I : Nm → Int → Int} {R : Nm → Int → Option Nm} {c w : Nat} {t m nn e : Nm} {n : Int} (h : LQ ty ln I R t m n) (hn : n ≤ 2400) (he : oke ty e) (hf : ty nn = 0) (hfw : wr nn = true) (hc : 1 ≤ c) (hw : 9000 ≤ w)
    (k : ∀ (ty' : Nm → Nat) (ln' : Nm → Int) (I' : Nm → Int → Int) (R' : Nm → Int → Option Nm) (c' w' : Nat) (m' : Nm), LQ ty' ln' I' R' t m' (n + 1) → (m' = m ∨ m' = nn) → R' m' n = some e → (∀ j, 0 ≤ j → j < n → R' m' j = R m j) → (∀ x, x ≠ nn → ty' x = ty x ∧ ln' x = ln x) → (∀ x j, x ≠ nn → (x ≠ t ∨ (j ≠ 1 ∧ j ≠ 2)) → I' x j = I x j) → (∀ x j, x ≠ nn → x ≠ m' → (x ≠ t ∨ j ≠ 0) → R' x j = R x j) → ((ty' nn = 0 ∧ c' = c) ∨ c' + 1 = c) → ((w : Int) + 4 * ln m ≤ w' + 4 * ln' m') → K (some (vI 1)) (ty', ln', I', R', c', w')) :
    Mth (d + 6) M_AL_add [vR (some t), vR (some e)] (ty, ln, I, R, c, w) K X := by
  obtain ⟨⟨h1, h1w⟩, h2, h3, h4, h5, h6⟩ := id h
  have t8 : ty m < 9 ∨ ty m = 20 := h5.elim (fun z => Or.inr z.2.2) (fun z => Or.inl (by omega))
  have nt : nn ≠ t := fun z => by rw [z] at hf; omega
  have nm : nn ≠ m := fun z => by rw [z] at hf; rcases h5 with y | y <;> omega
  have ne : e ≠ nn := fun z => by rw [← z] at hf; have := he.1; omega
  have mt : m ≠ t := fun z => by rw [z] at h5; rcases h5 with y | y <;> omega
  have hi : (up2 I t 2 (w32 ((I t 2) + 1))) t 1 = n := by rw [up2_self, upI_ne _ _ (by decide), h3]
  rw [in_AL_add, b_AL_add_0, and_t h1, and_t ⟨h1, h1w⟩, and_t h1, and_t h1, and_t h1, hi, h2, in_AL_add_2, b_AL_add_2_0, ex_some, and_t t8]
  -- the end, in row m'
  have fin : ∀ (ty' : Nm → Nat) (ln' : Nm → Int) (I1 : Nm → Int → Int) (R1 : Nm → Int → Option Nm) (c' w' : Nat) (m' : Nm), (m' = m ∨ m' = nn) → ty' m' = 8 → wr m' = true → n < ln' m' → ln' m' ≤ 3620 → 10 ≤ ln' m' → R1 t 0 = some m' → (∀ j, 0 ≤ j → j < n → R1 m' j = R m j) → (∀ j y, R1 m' j = some y → oke ty y) → (∀ x, x ≠ nn → ty' x = ty x ∧ ln' x = ln x) → (∀ x j, x ≠ nn → (x ≠ t ∨ j ≠ 2) → I1 x j = I x j) → (∀ x j, x ≠ nn → (x ≠ t ∨ j ≠ 0) → R1 x j = R x j) → ((ty' nn = 0 ∧ c' = c) ∨ c' + 1 = c) → ((w : Int) + 4 * ln m ≤ w' + 4 * ln' m') → Rn (d + 4) M_AL_add_2 (fun v h' => Rn (d + 5) M_AL_add K X 23 [vR (some t), vR (some e)] (v.toList ++ []) h') X 11 [vR (some t), vR (some e), vR (some m'), vI n] [] (ty', ln', I1, R1, c', w') := by
    intro ty' ln' I1 R1 c' w' m' hm' g1 g2 g3 g4 g5 g6 g7 g8 g9 g10 g11 g12 g13
    have tt : ty' t = 110 := by rw [(g9 t (Ne.symm nt)).1]; exact h1
    have te : ty' e = ty e := (g9 e ne).1
    have mt' : m' ≠ t := fun z => by rw [z] at g1; omega
    rw [b_AL_add_2_11, ex_some, and_t ⟨by omega, g2, by omega, by omega, by show 100 ≤ ty' e ∧ avB (ty' m') (ty' e - 100) = true; rw [te, g1]; exact ⟨he.1, avB8 he⟩⟩, and_t ⟨tt, h1w⟩, w32_id (by omega) (by omega)]
    show Rn (d + 5) M_AL_add K X 23 _ [] _
    rw [b_AL_add_23, and_t (Or.inr rfl)]
    have oy : ∀ y, oke ty y → oke ty' y := fun y hy => by
      have : y ≠ nn := fun z => by rw [z] at hy; have := hy.1; omega
      unfold oke
      rw [(g9 y this).1]; exact hy
    refine k ty' ln' _ _ c' w' m' ⟨⟨tt, h1w⟩, ?_, ?_, ⟨by omega, by omega, g4⟩, Or.inr ⟨g1, g5, g2⟩, ?_⟩ hm' ?_ ?_ g9 ?_ ?_ g12 g13
    · rw [up2_ne (Ne.symm mt')]; exact g6
    · rw [up2_self, upI_self]
    · intro j y hy
      rw [up2_self] at hy
      by_cases z : j = n
      · rw [z, upI_self] at hy
        cases hy
        exact oy _ he
      · rw [upI_ne _ _ z] at hy
        exact oy _ (g8 j y hy)
    · rw [up2_self, upI_self]
    · intro j j0 j1
      rw [up2_self, upI_ne _ _ (by omega)]
      exact g7 j j0 j1
    · intro x j hx hj
      by_cases z : x = t
      · rw [z, up2_self, upI_ne _ _ (hj.elim (fun y => absurd z y) (fun y => y.1))]
        exact g10 t j (by rw [← z]; exact hx) (Or.inr (hj.elim (fun y => absurd z y) (fun y => y.2)))
      · rw [up2_ne z]
        exact g10 x j hx (Or.inl z)
    · intro x j hx hxm hj
      rw [up2_ne hxm]
      exact g11 x j hx hj
  by_cases q : n = ln m
  · rw [if_neg (fun z => z q), and_t h1, in_AL_grow, b_AL_grow_0, and_t h1, and_t h1, hi, w32_id (by omega) (by omega), in_AL_grow_2, b_AL_grow_2_0, and_t h1, h2, ex_some, and_t t8]
    by_cases q2 : 0 < ln m
    · -- a longer row
      obtain ⟨m8, m10, mw⟩ := h5.elim (fun z => by omega) id
      have cap : (if 1 < ln m / 2 then ln m / 2 else 1) = ln m / 2 := if_pos (by omega)
      rw [if_pos q2, b_AL_grow_2_20, shr1 (by omega), w32_id (by omega) (by omega), in_AS_newLength, b_AS_newLength_0, show n + 1 - ln m = 1 by omega, cap, w32_id (by omega) (by omega), if_neg (by omega), if_neg (by omega)]
      show Rn (d + 2) M_AL_grow_2 _ X 30 _ [vI (ln m + ln m / 2)] _
      rw [b_AL_grow_2_30, and_t h1, h2, in_Ar_copyOf, b_Ar_copyOf_0, ex_some, and_t m8, in_Ar_copyOf_2, b_Ar_copyOf_2_0, and_t (Or.inl rfl), if_neg (fun z => z rfl), and_t ⟨by omega, by omega, by omega, by omega⟩]
      refine ⟨nn, hf, ?_⟩
      rw [ex_some, upN_ne ty _ (Ne.symm nm), and_t t8, ex_some, ex_some, upN_self, upN_self, upN_ne ty _ (Ne.symm nm), upN_ne ln _ (Ne.symm nm), if_neg (by omega), and_t ⟨m8, hfw, by omega, by omega, by omega, by omega, by omega⟩, if_neg (by decide)]
      refine ⟨rfl, fun i i0 i1 y hy => ?_, ?_⟩
      · rw [upN_ne R _ (Ne.symm nm)] at hy
        have oy := h6 _ y hy
        have : y ≠ nn := fun z => by rw [z] at oy; have := oy.1; omega
        rw [upN_ne ty _ this]
        exact ⟨oy.1, avB8 oy⟩
      · show Rn (d + 1) M_Ar_copyOf _ X 9 _ [vR (some nn)] _
        rw [b_Ar_copyOf_9]
        show Rn (d + 2) M_AL_grow_2 _ X 40 _ [vR (some nn), vR (some t)] _
        rw [b_AL_grow_2_40, and_t ⟨by rw [upN_ne ty _ (Ne.symm nt)]; exact h1, h1w⟩]
        show Rn (d + 3) M_AL_grow _ X 10 _ [vR (some nn)] _
        rw [b_AL_grow_10]
        show Rn (d + 4) M_AL_add_2 _ X 10 _ [vR (some nn)] _
        rw [b_AL_add_2_10]
        refine fin _ _ _ _ _ _ nn (Or.inr rfl) (upN_self _ _ _) hfw (by rw [upN_self]; omega) (by rw [upN_self]; omega) (by rw [upN_self]; omega) (by rw [up2_self, upI_self]) (fun j j0 j1 => ?_) (fun j y hy => ?_) (fun x hx => ⟨upN_ne _ _ hx, upN_ne _ _ hx⟩) (fun x j hx hj => ?_) (fun x j hx hj => ?_) (Or.inr (by omega)) (by rw [upN_self]; omega)
        · rw [up2_ne nt, upN_self, upN_ne R _ (Ne.symm nm)]
          unfold cpyI
          rw [if_pos (by omega), show 0 + (j - 0) = j by omega]
        · rw [up2_ne nt, upN_self, upN_ne R _ (Ne.symm nm)] at hy
          unfold cpyI at hy
          by_cases z : 0 ≤ j ∧ j < 0 + ln m
          · rw [if_pos z] at hy
            exact h6 _ y hy
          · rw [if_neg z, upN_self] at hy
            cases hy
        · rw [upN_ne _ _ hx]
          by_cases z : x = t
          · rw [z, up2_self, upI_ne _ _ (hj.elim (fun y => absurd z y) id)]
          · rw [up2_ne z]
        · by_cases z : x = t
          · rw [z, up2_self, upI_ne _ _ (hj.elim (fun y => absurd z y) id), upN_ne _ _ (Ne.symm nt), upN_ne _ _ (Ne.symm nt)]
          · rw [up2_ne z, upN_ne _ _ hx, upN_ne _ _ hx]
    · -- the first row
      obtain ⟨me, ml, m20⟩ := h5.elim id (fun z => by omega)
      have n0 : n = 0 := by omega
      subst n0
      rw [if_neg q2, and_t h1, me, and_t (Or.inl rfl), if_pos rfl, if_neg (by decide), and_t ⟨by omega, by omega, by omega, by omega⟩]
      refine ⟨nn, hf, ?_⟩
      rw [and_t ⟨by rw [upN_ne ty _ (Ne.symm nt)]; exact h1, h1w⟩]
      show Rn (d + 3) M_AL_grow _ X 10 _ [vR (some nn)] _
      rw [b_AL_grow_10]
      show Rn (d + 4) M_AL_add_2 _ X 10 _ [vR (some nn)] _
      rw [b_AL_add_2_10]
      refine fin _ _ _ _ _ _ nn (Or.inr rfl) (upN_self _ _ _) hfw (by rw [upN_self]; decide) (by rw [upN_self]; decide) (by rw [upN_self]; decide) (by rw [up2_self, upI_self]) (fun j j0 j1 => by omega) (fun j y hy => ?_) (fun x hx => ⟨upN_ne _ _ hx, upN_ne _ _ hx⟩) (fun x j hx hj => ?_) (fun x j hx hj => ?_) (Or.inr (by omega)) (by rw [upN_self, ml]; omega)
      · rw [up2_ne nt, upN_self] at hy
        cases hy
      · rw [upN_ne _ _ hx]
        by_cases z : x = t
        · rw [z, up2_self, upI_ne _ _ (hj.elim (fun y => absurd z y) id)]
        · rw [up2_ne z]
      · by_cases z : x = t
        · rw [z, up2_self, upI_ne _ _ (hj.elim (fun y => absurd z y) id), upN_ne _ _ (Ne.symm nt)]
        · rw [up2_ne z, upN_ne _ _ hx]
  · obtain ⟨m8, m10, mw⟩ := h5.elim (fun z => by omega) id
    rw [if_pos q]
    refine fin ty ln _ R c w m (Or.inl rfl) m8 mw (by omega) h4.2.2 m10 h2 (fun _ _ _ => rfl) h6 (fun _ _ => ⟨rfl, rfl⟩) (fun x j hx hj => ?_) (fun _ _ _ _ => rfl) (Or.inl ⟨hf, rfl⟩) (Int.le_refl _)
    by_cases z : x = t
    · rw [z, up2_self, upI_ne _ _ (hj.elim (fun y => absurd z y) id)]
    · rw [up2_ne z]
set_option maxHeartbeats 2000000 in
/-- element i goes, those behind it move -/
theorem s_AL_remove {d : Nat} {K : Kt} {X : Xt} {ty : Nm → Nat} {ln : Nm → Int} {I : Nm → Int → Int} {R : Nm → Int → Option Nm} {c w : Nat} {t m : Nm} {n i : Int} (h : LQ ty ln I R t m n) (hi : 0 ≤ i ∧ i < n)
    (k : ∀ (I' : Nm → Int → Int) (R' : Nm → Int → Option Nm) (z : Option Nm), LQ ty ln I' R' t m (n - 1) → (∀ j, 0 ≤ j → j < n - 1 → R' m j = if j < i then R m j else R m (j + 1)) → (∀ x j, (x ≠ t ∨ (j ≠ 1 ∧ j ≠ 2)) → I' x j = I x j) → (∀ x j, x ≠ m → R' x j = R x j) → K (some (vR z)) (ty, ln, I', R', c, w)) :
    Mth (d + 3) M_AL_remove [vR (some t), vI i] (ty, ln, I, R, c, w) K X := by
  obtain ⟨⟨h1, h1w⟩, h2, h3, h4, h5, h6⟩ := id h
  obtain ⟨m8, m10, mw⟩ := h5.elim (fun z => by omega) id
  have mt : m ≠ t := fun z => by rw [z] at m8; omega
  have hs : (up2 I t 2 (w32 ((I t 2) + 1))) t 1 = n := by rw [up2_self, upI_ne _ _ (by decide), h3]
  -- the end
  have fin : ∀ (R1 : Nm → Int → Option Nm), (∀ x j, x ≠ m → R1 x j = R x j) → (∀ j y, R1 m j = some y → oke ty y) → (∀ j, 0 ≤ j → j < n - 1 → R1 m j = if j < i then R m j else R m (j + 1)) → Rn (d + 1) M_AL_fastRemove (fun v h' => Rn (d + 2) M_AL_remove K X 24 [vR (some t), vI i, vR (some m), vR (R m i)] (v.toList ++ []) h') X 34 [vR (some t), vR (some m), vI i, vI (n - 1)] [] (ty, ln, up2 I t 2 (w32 ((I t 2) + 1)), R1, c, w) := by
    intro R1 g1 g2 g3
    rw [b_AL_fastRemove_34, and_t ⟨h1, h1w⟩, ex_some, and_t ⟨by omega, mw, by omega, by omega, by show ty m ≠ 5; omega⟩]
    show Rn (d + 2) M_AL_remove K X 24 _ [] _
    rw [b_AL_remove_24]
    refine k _ _ _ ⟨⟨h1, h1w⟩, ?_, ?_, ⟨by omega, by omega, h4.2.2⟩, Or.inr ⟨m8, m10, mw⟩, fun j y hy => ?_⟩ (fun j j0 j1 => ?_) (fun x j hx => ?_) (fun x j hx => ?_)
    · rw [up2_ne (Ne.symm mt), g1 _ _ (Ne.symm mt)]; exact h2
    · rw [up2_self, upI_self]
    · rw [up2_self] at hy
      by_cases z : j = n - 1
      · rw [z, upI_self] at hy; cases hy
      · rw [upI_ne _ _ z] at hy; exact g2 j y hy
    · rw [up2_self, upI_ne _ _ (by omega)]; exact g3 j j0 j1
    · by_cases z : x = t
      · rw [z, up2_self, upI_ne _ _ (hx.elim (fun y => absurd z y) (fun y => y.1)), up2_self, upI_ne _ _ (hx.elim (fun y => absurd z y) (fun y => y.2))]
      · rw [up2_ne z, up2_ne z]
    · rw [up2_ne hx]; exact g1 x j hx
  rw [in_AL_remove, b_AL_remove_0, and_t h1, h3, s_Ob_checkIndex hi.1 hi.2]
  show Rn (d + 2) M_AL_remove K X 8 _ [vI i] _
  rw [b_AL_remove_8, and_t h1, h2, ex_some, and_t ⟨⟨by omega, by omega⟩, by omega, by omega⟩, and_t h1, in_AL_fastRemove, b_AL_fastRemove_0, and_t h1, and_t ⟨h1, h1w⟩, and_t h1, hs, w32_id (by omega) (by omega)]
  by_cases q : n - 1 ≤ i
  · rw [if_pos q]
    exact fin R (fun _ _ _ => rfl) h6 (fun j j0 j1 => by rw [if_pos (by omega)])
  · rw [if_neg q, ex_some, ex_some, w32_id (x := i + 1) (by omega) (by omega), w32_id (x := n - 1 - i) (by omega) (by omega), and_t ⟨rfl, mw, by omega, by omega, by omega, by omega, by omega⟩, if_neg (by omega)]
    refine ⟨m8, fun j j0 j1 y hy => ?_, ?_⟩
    · have := h6 _ y hy
      exact ⟨this.1, avB8 this⟩
    · refine fin _ (fun x j hx => by rw [upN_ne _ _ hx]) (fun j y hy => ?_) (fun j j0 j1 => ?_)
      · rw [upN_self] at hy
        unfold cpyI at hy
        by_cases z : i ≤ j ∧ j < i + (n - 1 - i)
        · rw [if_pos z] at hy; exact h6 _ y hy
        · rw [if_neg z] at hy; exact h6 _ y hy
      · rw [upN_self]
        unfold cpyI
        by_cases z : i ≤ j
        · rw [if_pos (by omega), if_neg (by omega), show i + 1 + (j - i) = j + 1 by omega]
        · rw [if_neg (by omega), if_pos (by omega)]
