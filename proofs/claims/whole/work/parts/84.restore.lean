/-! ===== the reference: restore ===== -/
/-- the bytes of q chunks from the k-th on -/
def lnS (J : Int → Int → Int) (k : Int) : Nat → Int
  | 0 => 0
  | q + 1 => lnS J k q + J 19 (k + q)
theorem lnS_m {J : Int → Int → Int} {k : Int} (h : MR J) : ∀ q : Nat, 0 ≤ lnS J k q ∧ ∀ m : Nat, m ≤ q → lnS J k m ≤ lnS J k q
  | 0 => ⟨Int.le_refl _, fun m hm => by rw [show m = 0 by omega]; exact Int.le_refl _⟩
  | q + 1 => by
    obtain ⟨g1, g2⟩ := lnS_m (k := k) h q
    have b := h.k19 (k + q)
    have e : lnS J k (q + 1) = lnS J k q + J 19 (k + q) := rfl
    refine ⟨by omega, fun m hm => ?_⟩
    by_cases c : m = q + 1
    · rw [c]; exact Int.le_refl _
    · have := g2 m (by omega); omega
theorem lnS_c {J J' : Int → Int → Int} {k : Int} (h : ∀ x, J' 19 x = J 19 x) : ∀ q : Nat, lnS J' k q = lnS J k q
  | 0 => rfl
  | q + 1 => by show lnS J' k q + J' 19 (k + q) = lnS J k q + J 19 (k + q); rw [lnS_c h q, h]
theorem cntR_c {J J' : Int → Int → Int} {s : Int} (h : ∀ k x, k = 6 ∨ k = 25 ∨ k = 26 → J' k x = J k x) : ∀ q : Nat, cntR J' s q = cntR J s q
  | 0 => rfl
  | q + 1 => by
    unfold cntR
    simp only [isR, cntR_c h q, h 6 _ (Or.inl rfl), h 25 _ (Or.inr (Or.inl rfl)), h 26 _ (Or.inr (Or.inr rfl))]
/-- whether the last q chunks before e can be read -/
def okR (J : Int → Int → Int) (e : Int) : Nat → Int
  | 0 => 1
  | q + 1 => if J (-1) 2 ≤ cntR J (J 18 (e - (q + 1)) / 60) (J (-1) 3).toNat then okR J e q else 0
theorem okR_1 {J : Int → Int → Int} {e : Int} : ∀ q : Nat, okR J e q = 1 → ∀ i : Nat, i < q → J (-1) 2 ≤ cntR J (J 18 (e - (i + 1)) / 60) (J (-1) 3).toNat
  | 0, _, i, hi => absurd hi (by omega)
  | q + 1, h, i, hi => by
    by_cases c : J (-1) 2 ≤ cntR J (J 18 (e - (q + 1)) / 60) (J (-1) 3).toNat
    · rw [show okR J e (q + 1) = okR J e q from if_pos c] at h
      by_cases z : i = q
      · rw [z]; exact c
      · exact okR_1 q h i (by omega)
    · rw [show okR J e (q + 1) = 0 from if_neg c] at h
      omega
/-- one chunk read behind z bytes -/
def rdJ (J : Int → Int → Int) (k z : Int) : Int → Int → Int := wJ (solJ J (J 18 k / 60)) 37 z (z + J 19 k) (fun x => solJ J (J 18 k / 60) 33 (J 18 k % 60 + (x - z)))
def rdS (J : Int → Int → Int) (k : Int) : Nat → Int → Int → Int
  | 0 => J
  | q + 1 => rdJ (rdS J k q) (k + q) (lnS J k q)
def reS (J : Int → Int → Int) (k : Int) (q : Nat) : Int → Int → Int := wJ (uJ (rdS J k q) (-1) 35 (lnS J k q)) 36 0 (lnS J k q) (fun x => rdS J k q 37 x)
theorem rdJ_o {J : Int → Int → Int} {k z m x : Int} (h : m ≠ 32 ∧ m ≠ 33 ∧ m ≠ 34 ∧ m ≠ 37) : rdJ J k z m x = J m x := by
  unfold rdJ
  rw [wJ_ne h.2.2.2, solJ_o ⟨h.1, h.2.1, h.2.2.1⟩]
theorem rdS_o {J : Int → Int → Int} {k m x : Int} (h : m ≠ 32 ∧ m ≠ 33 ∧ m ≠ 34 ∧ m ≠ 37) : ∀ q : Nat, rdS J k q m x = J m x
  | 0 => rfl
  | q + 1 => (rdJ_o h).trans (rdS_o h q)
theorem rdS_g {J : Int → Int → Int} {k : Int} (h : GI J) : ∀ q : Nat, GI (rdS J k q)
  | 0 => h
  | q + 1 => by
    have g := (rdS_g (k := k) h q).sol (s := rdS J k q 18 (k + q) / 60)
    exact g.w (fun x _ _ => g.1.k33 _) (by decide)
set_option maxHeartbeats 2000000 in
theorem m_restore {d : Nat} {K : Kt} {X : Xt} {J : Int → Int → Int} {ty : Nm → Nat} {ln : Nm → Int} {I : Nm → Int → Int} {R : Nm → Int → Option Nm} {c w : Nat} {a n t : Int} (h : MOk ty ln R) (hpv : PVok) (hG : GI J) (hL : 0 ≤ slotJ J a n → ∀ t : Nat, t < 10 → lnS J (500 * slotJ J a n + alJ J (slotJ J a n) t) (J 17 (10 * slotJ J a n + t)).toNat ≤ 200 ∧ ∀ i : Int, 0 ≤ i → i < J 17 (10 * slotJ J a n + t) → J 18 (500 * slotJ J a n + alJ J (slotJ J a n) t + i) % 60 + J 19 (500 * slotJ J a n + alJ J (slotJ J a n) t + i) ≤ 60) :
    Mth (d + 5) M_Mo_restore [vR (some [2]), vI a, vI n, vI t] (ty, ln, pJ I J, R, c, w) K X = (if ((0 ≤ a ∧ a ≤ 9) ∧ 0 < J 5 a) ∧ 0 ≤ slotJ J a n ∧ (0 ≤ t ∧ t ≤ 9) ∧ 0 ≤ J 17 (10 * slotJ J a n + t) then (if J 7 a = 0 then (if okR (uJ J (-1) 0 0) (500 * slotJ J a n + alJ J (slotJ J a n) t.toNat + J 17 (10 * slotJ J a n + t)) (J 17 (10 * slotJ J a n + t)).toNat = 1 then K (some (vI (lnS (uJ J (-1) 0 0) (500 * slotJ J a n + alJ J (slotJ J a n) t.toNat) (J 17 (10 * slotJ J a n + t)).toNat))) (ty, ln, pJ I (reS (uJ J (-1) 0 0) (500 * slotJ J a n + alJ J (slotJ J a n) t.toNat) (J 17 (10 * slotJ J a n + t)).toNat), R, c, w) else K (some (vI (-1))) (ty, ln, pJ I ((uJ J (-1) 0 0)), R, c, w)) else K (some (vI (0))) (ty, ln, pJ I (uJ J (-1) 0 2), R, c, w)) else K (some (vI (0))) (ty, ln, pJ I (uJ J (-1) 0 1), R, c, w)) := by
  have h0 := h.1
  have a7 := h.a7
  have a17 := h.a17
  have a18 := h.a18
  have a19 := h.a19
  have a33 := h.a33
  have a36 := h.a36
  have a37 := h.a37
  by_cases q1 : ((0 ≤ a ∧ a ≤ 9) ∧ 0 < J 5 a)
  · have sr := slotJ_r (J := J) (a := a) (n := n)
    by_cases q2 : 0 ≤ slotJ J a n
    · by_cases q3 : 0 ≤ t ∧ t ≤ 9
      · have hL' := hL q2 t.toNat (by omega)
        rw [show ((t.toNat : Nat) : Int) = t by omega] at hL'
        obtain ⟨sl, hsl⟩ : ∃ sl, sl = slotJ J a n := ⟨_, rfl⟩
        rw [← hsl] at sr q2 hL' ⊢
        by_cases q4 : 0 ≤ J 17 (10 * sl + t)
        · rw [if_pos ⟨q1, q2, q3, q4⟩]
          by_cases q5 : J 7 a = 0
          · rw [if_pos q5]
            have start : Mth (d + 5) M_Mo_restore [vR (some [2]), vI a, vI n, vI t] (ty, ln, pJ I J, R, c, w) K X = Rn (d + 4) M_Mo_restore K X 100 [vR (some [2]), vI a, vI n, vI t, vI sl, vI 1, vI (500 * sl), vI 0, vJ, vJ, vJ] [] (ty, ln, pJ I (uJ J (-1) 0 0), R, c, w) := by
              simp (disch := omega) only [in_Mo_restore, b_Mo_restore_0, b_Mo_restore_5, b_Mo_restore_14, b_Mo_restore_18, b_Mo_restore_32, b_Mo_restore_54, b_Mo_restore_55, b_Mo_restore_81, b_Mo_restore_84, m_isHouse h, m_refused h, m_slotOf h, s_Mo_isIn, ← hsl, ↓h.e7, ↓h.e17, Option.toList_some, Option.toList_none, List.cons_append, List.nil_append, ↓if_pos, ↓if_neg, ↓and_t, pJ_a, pJ_m, up_a, up_m, Option.some.injEq, exists_eq_left', wr_a, wr_m, true_and, and_true, not_true_eq_false, not_false_eq_true, if_true, if_false, or_true, true_or, uJ_self, uJ_ne, upI_self, upI_ne, w32_id, reduceCtorEq, ne_eq, wJ_ne, wJ_out]
            rw [start]
            have hG2 : GI (uJ J (-1) 0 0) := hG.u (Or.inl rfl) (Or.inr (Or.inl rfl)) (by decide)
            have e17 : ∀ x, J 17 x = (uJ J (-1) 0 0) 17 x := fun x => by rw [uJ_ne (by decide)]
            have eal : ∀ q : Nat, alJ J sl q = alJ (uJ J (-1) 0 0) sl q := by
              intro q
              induction q with
              | zero => rfl
              | succ q ih => show alJ J sl q + (if J 17 (10 * sl + q) ≤ 0 then 0 else J 17 (10 * sl + q)) = alJ (uJ J (-1) 0 0) sl q + (if (uJ J (-1) 0 0) 17 (10 * sl + q) ≤ 0 then 0 else (uJ J (-1) 0 0) 17 (10 * sl + q)); rw [ih, e17]
            have e18 : ∀ x, J 18 x = (uJ J (-1) 0 0) 18 x := fun x => by rw [uJ_ne (by decide)]
            have e19 : ∀ x, J 19 x = (uJ J (-1) 0 0) 19 x := fun x => by rw [uJ_ne (by decide)]
            rw [← lnS_c (J := J) (J' := (uJ J (-1) 0 0)) (fun x => (e19 x).symm)] at hL'
            simp only [e17, e18, e19, eal] at hL' q4 ⊢
            generalize (uJ J (-1) 0 0) = J at hG2 hL' q4 ⊢
            clear e17 e18 e19 eal start hL hG
            have hR := hG2.1
            have hS := hG2.2.1
            obtain ⟨tn, htn⟩ : ∃ tn : Nat, tn = t.toNat := ⟨_, rfl⟩
            have et : t = (tn : Int) := by omega
            rw [← htn] at hL' ⊢
            subst et
            have r0 := alJ_r (sl := sl) hR tn
            have m0 := hR.k17 (10 * sl + tn)
            obtain ⟨C, hC⟩ : ∃ C, C = 500 * sl + alJ J sl tn := ⟨_, rfl⟩
            obtain ⟨n9, hn9⟩ : ∃ n9 : Nat, n9 = (J 17 (10 * sl + tn)).toNat := ⟨_, rfl⟩
            have en9 : J 17 (10 * sl + tn) = (n9 : Int) := by omega
            rw [← hC, en9] at hL' ⊢
            rw [show ((n9 : Int)).toNat = n9 by omega] at hL' ⊢
            obtain ⟨hL1, hL2⟩ := hL'
            -- the end
            have k4 : ∀ q i : Nat, (i : Int) + q = lnS J C n9 → ∀ (u10 : Vl), isLg u10 = false → Rn (d + 4) M_Mo_restore K X 299 [vR (some [2]), vI a, vI n, vI tn, vI sl, vI 1, vI C, vI (C + n9), vI (lnS J C n9), vI (i : Int), u10] [] (ty, ln, pJ I (wJ (uJ (rdS J C n9) (-1) 35 (lnS J C n9)) 36 0 i (fun x => rdS J C n9 37 x)), R, c, w) = K (some (vI (lnS J C n9))) (ty, ln, pJ I (reS J C n9), R, c, w) := by
              intro q
              induction q with
              | zero =>
                intro i hi u10 v10
                rw [b_Mo_restore_299 v10, if_pos (by omega), show (i : Int) = lnS J C n9 by omega]
                rfl
              | succ q ih =>
                intro i hi u10 v10
                have ih' := ih (i + 1) (by omega) u10 v10
                rw [b_Mo_restore_299 v10, if_neg (by omega), and_t h0, and_t h0, h.e37, and_t ⟨Or.inl a37.2.1, by omega, by omega⟩, h.e36, and_t ⟨a36.2.1, rfl, by omega, by omega⟩, pJ_a (by decide), up_a (by decide), wJ_up (by omega) (by rw [wJ_ne (by decide), uJ_ne (by decide)]), w32_id (by omega) (by omega)]
                exact ih'
            have k3 : ∀ q i : Nat, i + q = n9 → okR J (C + n9) n9 = 1 → ∀ (u10 : Vl), isLg u10 = false → Rn (d + 4) M_Mo_restore K X 214 [vR (some [2]), vI a, vI n, vI tn, vI sl, vI 1, vI C, vI (C + n9), vI (lnS J C i), vI (C + i), u10] [] (ty, ln, pJ I (rdS J C i), R, c, w) = K (some (vI (lnS J C n9))) (ty, ln, pJ I (reS J C n9), R, c, w) := by
              intro q
              induction q with
              | zero =>
                intro i hi hok u10 v10
                have z := k4 (lnS J C n9).toNat 0 (by have := (lnS_m (k := C) hR n9).1; omega) u10 v10
                rw [wJ_nil (by decide)] at z
                rw [b_Mo_restore_214 v10, if_pos (by omega), and_t ⟨h0, rfl⟩, up_m, show i = n9 by omega]
                exact z
              | succ q ih =>
                intro i hi hok u10 v10
                have ih' := ih (i + 1) (by omega) hok
                have g := rdS_g (k := C) hG2 i
                have e18 := rdS_o (J := J) (k := C) (m := 18) (x := C + i) (by decide) i
                have e19 := rdS_o (J := J) (k := C) (m := 19) (x := C + i) (by decide) i
                have k18 := hR.k18 (C + i)
                have k19 := hR.k19 (C + i)
                have hh := hL2 i (by omega) (by omega)
                have l1 := (lnS_m (k := C) hR i).1
                have l2 := (lnS_m (k := C) hR n9).2 (i + 1) (by omega)
                have l3 : lnS J C (i + 1) = lnS J C i + J 19 (C + i) := rfl
                have em : ∀ x, rdS J C i (-1) x = J (-1) x := fun x => rdS_o (by decide) i
                have hok2 := okR_1 n9 hok (n9 - 1 - i) (by omega)
                rw [show C + (n9 : Int) - (((n9 - 1 - i : Nat) : Int) + 1) = C + i by omega, ← em 2, ← em 3, ← cntR_c (J := J) (J' := rdS J C i) (fun k x hk => rdS_o (by omega) i)] at hok2
                rw [b_Mo_restore_214 v10, if_neg (by omega), and_t h0, h.e18, and_t ⟨Or.inl a18.2.1, by omega, by omega⟩, pJ_a (by decide), and_t (by decide), and_t h0, e18, Int.tdiv_eq_ediv_of_nonneg k18.1, w32_id (x := J 18 (C + (i : Int)) / 60) (by omega) (by omega), m_solve h g.1 g.2.1 (by omega) hok2 (hpv _ _ g.2.1 hok2)]
                show Rn (d + 4) M_Mo_restore K X 235 [vR (some [2]), vI a, vI n, vI tn, vI sl, vI 1, vI C, vI (C + n9), vI (lnS J C i), vI (C + i), u10] [] (ty, ln, pJ I (solJ (rdS J C i) (J 18 (C + i) / 60)), R, c, w) = _
                rw [b_Mo_restore_235 v10]
                have s18 : ∀ x, solJ (rdS J C i) (J 18 (C + i) / 60) 18 x = J 18 x := fun x => by rw [solJ_o (by decide), rdS_o (by decide)]
                have s19 : ∀ x, solJ (rdS J C i) (J 18 (C + i) / 60) 19 x = J 19 x := fun x => by rw [solJ_o (by decide), rdS_o (by decide)]
                have inner : ∀ p b : Nat, (b : Int) + p = J 19 (C + i) → Rn (d + 4) M_Mo_restore K X 238 [vR (some [2]), vI a, vI n, vI tn, vI sl, vI 1, vI C, vI (C + n9), vI (lnS J C i + b), vI (C + i), vI (b : Int)] [] (ty, ln, pJ I (wJ (solJ (rdS J C i) (J 18 (C + i) / 60)) 37 (lnS J C i) (lnS J C i + b) (fun x => solJ (rdS J C i) (J 18 (C + i) / 60) 33 (J 18 (C + i) % 60 + (x - lnS J C i)))), R, c, w) = K (some (vI (lnS J C n9))) (ty, ln, pJ I (reS J C n9), R, c, w) := by
                  intro p
                  induction p with
                  | zero =>
                    intro b hb
                    rw [b_Mo_restore_238, and_t h0, h.e19, and_t ⟨Or.inl a19.2.1, by omega, by omega⟩, pJ_a (by decide), wJ_ne (by decide), s19, if_pos (by omega), w32_id (by omega) (by omega), show (b : Int) = J 19 (C + i) by omega, show C + (i : Int) + 1 = C + ((i + 1 : Nat) : Int) by omega]
                    have z := ih' (vI (J 19 (C + i))) rfl
                    rw [l3, show rdS J C (i + 1) = rdJ (rdS J C i) (C + i) (lnS J C i) from rfl] at z
                    unfold rdJ at z
                    rw [e18, e19] at z
                    exact z
                  | succ p jh =>
                    intro b hb
                    have jh' := jh (b + 1) (by omega)
                    rw [b_Mo_restore_238, and_t h0, h.e19, and_t ⟨Or.inl a19.2.1, by omega, by omega⟩, pJ_a (by decide), wJ_ne (by decide), s19, if_neg (by omega), and_t h0, and_t h0, and_t h0, h.e18, and_t ⟨Or.inl a18.2.1, by omega, by omega⟩, pJ_a (by decide), wJ_ne (by decide), s18, and_t (by decide), Int.tmod_eq_emod_of_nonneg k18.1, w32_id (x := J 18 (C + (i : Int)) % 60 + (b : Int)) (by omega) (by omega), h.e33, and_t ⟨Or.inl a33.2.1, by omega, by omega⟩, pJ_a (by decide), wJ_ne (by decide)]
                    rw [h.e37, and_t ⟨a37.2.1, rfl, by omega, by omega⟩, up_a (by decide), wJ_up (by omega) (by rw [show lnS J C i + (b : Int) - lnS J C i = b by omega]), w32_id (by omega) (by omega), w32_id (by omega) (by omega), Int.add_assoc]
                    exact jh'
                have z := inner (J 19 (C + i)).toNat 0 (by omega)
                rw [show lnS J C i + ((0 : Nat) : Int) = lnS J C i by omega, wJ_nil (by omega)] at z
                exact z
            have k2 : ∀ q : Nat, q ≤ n9 → okR J (C + n9) n9 = okR J (C + n9) q → Rn (d + 4) M_Mo_restore K X 171 [vR (some [2]), vI a, vI n, vI tn, vI sl, vI 1, vI C, vI (C + n9), vI (C + n9 - q), vJ, vJ] [] (ty, ln, pJ I J, R, c, w) = (if okR J (C + n9) n9 = 1 then K (some (vI (lnS J C n9))) (ty, ln, pJ I (reS J C n9), R, c, w) else K (some (vI (-1))) (ty, ln, pJ I J, R, c, w)) := by
              intro q
              induction q with
              | zero =>
                intro hq e
                have e1 : okR J (C + n9) n9 = 1 := e
                rw [b_Mo_restore_171, if_pos (by omega), if_pos e1]
                have z := k3 n9 0 (by omega) e1 vJ rfl
                rw [show C + ((0 : Nat) : Int) = C by omega] at z
                exact z
              | succ q ih =>
                intro hq e
                have k18 := hR.k18 (C + n9 - (q + 1))
                have e9 : C + (n9 : Int) - ((q + 1 : Nat) : Int) = C + n9 - (q + 1) := by omega
                rw [b_Mo_restore_171, if_neg (by omega), e9, and_t h0, h.e18, and_t ⟨Or.inl a18.2.1, by omega, by omega⟩, pJ_a (by decide), and_t (by decide), and_t h0, Int.tdiv_eq_ediv_of_nonneg k18.1, w32_id (x := J 18 (C + (n9 : Int) - ((q : Int) + 1)) / 60) (by omega) (by omega), m_reachable h (by omega) (by have := hS; unfold SC at this; omega) (fun p => (hR.k25 p).2)]
                show Rn (d + 4) M_Mo_restore K X 192 [vR (some [2]), vI a, vI n, vI tn, vI sl, vI 1, vI C, vI (C + n9), vI (C + n9 - (q + 1)), vJ, vJ] [vI (cntR J (J 18 (C + n9 - (q + 1)) / 60) (J (-1) 3).toNat)] (ty, ln, pJ I J, R, c, w) = _
                rw [b_Mo_restore_192, and_t h0, pJ_m]
                by_cases c1 : J (-1) 2 ≤ cntR J (J 18 (C + n9 - (q + 1)) / 60) (J (-1) 3).toNat
                · rw [if_pos c1, w32_id (by omega) (by omega), show C + (n9 : Int) - ((q : Int) + 1) + 1 = C + n9 - q by omega]
                  exact ih (by omega) (e.trans (if_pos c1))
                · rw [if_neg c1, if_neg (by rw [e, show okR J (C + n9) (q + 1) = 0 from if_neg c1]; decide)]
            have k1 : ∀ q i : Nat, i + q = tn → Rn (d + 4) M_Mo_restore K X 100 [vR (some [2]), vI a, vI n, vI tn, vI sl, vI 1, vI (500 * sl + alJ J sl i), vI (i : Int), vJ, vJ, vJ] [] (ty, ln, pJ I J, R, c, w) = (if okR J (C + n9) n9 = 1 then K (some (vI (lnS J C n9))) (ty, ln, pJ I (reS J C n9), R, c, w) else K (some (vI (-1))) (ty, ln, pJ I J, R, c, w)) := by
              intro q
              induction q with
              | zero =>
                intro i hi
                have z := k2 n9 (Nat.le_refl _) rfl
                rw [show C + (n9 : Int) - (n9 : Int) = C by omega] at z
                rw [b_Mo_restore_100, if_pos (by omega), and_t h0, h.e17, w32_id (x := 10 * sl) (by omega) (by omega), w32_id (x := 10 * sl + (tn : Int)) (by omega) (by omega), and_t ⟨Or.inl a17.2.1, by omega, by omega⟩, pJ_a (by decide), en9, show i = tn by omega, ← hC, w32_id (by omega) (by omega)]
                exact z
              | succ q ih =>
                intro i hi
                have ih' := ih (i + 1) (by omega)
                have b := alJ_r (sl := sl) hR i
                have b2 := hR.k17 (10 * sl + i)
                rw [b_Mo_restore_100, if_neg (by omega)]
                by_cases c1 : J 17 (10 * sl + i) ≤ 0
                · rw [show alJ J sl (i + 1) = alJ J sl i by show alJ J sl i + (if _ then 0 else _) = _; rw [if_pos c1]; omega] at ih'
                  simp (disch := omega) only [b_Mo_restore_141, ↓h.e17, Int.add_zero, Option.toList_some, Option.toList_none, List.cons_append, List.nil_append, ↓if_pos, ↓if_neg, ↓and_t, pJ_a, pJ_m, up_a, up_m, Option.some.injEq, exists_eq_left', wr_a, wr_m, true_and, and_true, not_true_eq_false, not_false_eq_true, if_true, if_false, or_true, true_or, uJ_self, uJ_ne, upI_self, upI_ne, w32_id, reduceCtorEq, ne_eq, wJ_ne, wJ_out]
                  exact ih'
                · rw [show alJ J sl (i + 1) = alJ J sl i + J 17 (10 * sl + i) by show alJ J sl i + (if _ then 0 else _) = _; rw [if_neg c1], ← Int.add_assoc] at ih'
                  simp (disch := omega) only [b_Mo_restore_141, ↓h.e17, Option.toList_some, Option.toList_none, List.cons_append, List.nil_append, ↓if_pos, ↓if_neg, ↓and_t, pJ_a, pJ_m, up_a, up_m, Option.some.injEq, exists_eq_left', wr_a, wr_m, true_and, and_true, not_true_eq_false, not_false_eq_true, if_true, if_false, or_true, true_or, uJ_self, uJ_ne, upI_self, upI_ne, w32_id, reduceCtorEq, ne_eq, wJ_ne, wJ_out]
                  exact ih'
            have z := k1 tn 0 (by omega)
            rw [show 500 * sl + alJ J sl 0 = 500 * sl from Int.add_zero _] at z
            exact z
          · rw [if_neg q5]
            simp (disch := omega) only [in_Mo_restore, b_Mo_restore_0, b_Mo_restore_5, b_Mo_restore_14, b_Mo_restore_18, b_Mo_restore_32, b_Mo_restore_54, b_Mo_restore_55, b_Mo_restore_81, b_Mo_restore_84, m_isHouse h, m_refused h, m_slotOf h, s_Mo_isIn, ← hsl, ↓h.e7, ↓h.e17, Option.toList_some, Option.toList_none, List.cons_append, List.nil_append, ↓if_pos, ↓if_neg, ↓and_t, pJ_a, pJ_m, up_a, up_m, Option.some.injEq, exists_eq_left', wr_a, wr_m, true_and, and_true, not_true_eq_false, not_false_eq_true, if_true, if_false, or_true, true_or, uJ_self, uJ_ne, upI_self, upI_ne, w32_id, reduceCtorEq, ne_eq, wJ_ne, wJ_out]
        · rw [if_neg (fun z => q4 z.2.2.2)]
          simp (disch := omega) only [in_Mo_restore, b_Mo_restore_0, b_Mo_restore_5, b_Mo_restore_14, b_Mo_restore_18, b_Mo_restore_32, b_Mo_restore_54, b_Mo_restore_55, b_Mo_restore_81, b_Mo_restore_84, m_isHouse h, m_refused h, m_slotOf h, s_Mo_isIn, ← hsl, ↓h.e7, ↓h.e17, Option.toList_some, Option.toList_none, List.cons_append, List.nil_append, ↓if_pos, ↓if_neg, ↓and_t, pJ_a, pJ_m, up_a, up_m, Option.some.injEq, exists_eq_left', wr_a, wr_m, true_and, and_true, not_true_eq_false, not_false_eq_true, if_true, if_false, or_true, true_or, uJ_self, uJ_ne, upI_self, upI_ne, w32_id, reduceCtorEq, ne_eq, wJ_ne, wJ_out]
      · rw [if_neg (fun z => q3 z.2.2.1)]
        simp (disch := omega) only [in_Mo_restore, b_Mo_restore_0, b_Mo_restore_5, b_Mo_restore_14, b_Mo_restore_18, b_Mo_restore_32, b_Mo_restore_54, b_Mo_restore_55, b_Mo_restore_81, b_Mo_restore_84, m_isHouse h, m_refused h, m_slotOf h, s_Mo_isIn, ↓h.e7, ↓h.e17, Option.toList_some, Option.toList_none, List.cons_append, List.nil_append, ↓if_pos, ↓if_neg, ↓and_t, pJ_a, pJ_m, up_a, up_m, Option.some.injEq, exists_eq_left', wr_a, wr_m, true_and, and_true, not_true_eq_false, not_false_eq_true, if_true, if_false, or_true, true_or, uJ_self, uJ_ne, upI_self, upI_ne, w32_id, reduceCtorEq, ne_eq, wJ_ne, wJ_out]
    · rw [if_neg (fun z => q2 z.2.1)]
      simp (disch := omega) only [in_Mo_restore, b_Mo_restore_0, b_Mo_restore_5, b_Mo_restore_14, b_Mo_restore_18, b_Mo_restore_32, b_Mo_restore_54, b_Mo_restore_55, b_Mo_restore_81, b_Mo_restore_84, m_isHouse h, m_refused h, m_slotOf h, s_Mo_isIn, ↓h.e7, ↓h.e17, Option.toList_some, Option.toList_none, List.cons_append, List.nil_append, ↓if_pos, ↓if_neg, ↓and_t, pJ_a, pJ_m, up_a, up_m, Option.some.injEq, exists_eq_left', wr_a, wr_m, true_and, and_true, not_true_eq_false, not_false_eq_true, if_true, if_false, or_true, true_or, uJ_self, uJ_ne, upI_self, upI_ne, w32_id, reduceCtorEq, ne_eq, wJ_ne, wJ_out]
  · rw [if_neg (fun z => q1 z.1)]
    exact n_restore h q1
