/-! ===== the reference: isUsed, chunks, count ===== -/
/-- whether a chunk of slot sl lies in segment s, or u; q chunks looked at -/
def usI (J : Int → Int → Int) (sl s u : Int) : Nat → Int
  | 0 => u
  | q + 1 => if usI J sl s u q ≠ 0 ∨ J 18 (500 * sl + q) / 60 = s then 1 else 0
def usJ (J : Int → Int → Int) (a s : Int) : Nat → Int
  | 0 => 0
  | q + 1 => if J 16 (6 * a + q) < 0 then usJ J a s q else usI J (6 * a + q) s (usJ J a s q) (alJ J (6 * a + q) 10).toNat
theorem usI_b {J : Int → Int → Int} {sl s u : Int} (hu : u = 0 ∨ u = 1) : ∀ q : Nat, usI J sl s u q = 0 ∨ usI J sl s u q = 1
  | 0 => hu
  | q + 1 => by
    show (if _ then _ else _) = (0 : Int) ∨ (if _ then _ else _) = (1 : Int)
    split
    · exact Or.inr rfl
    · exact Or.inl rfl
theorem usJ_b {J : Int → Int → Int} {a s : Int} : ∀ q : Nat, usJ J a s q = 0 ∨ usJ J a s q = 1
  | 0 => Or.inl rfl
  | q + 1 => by
    by_cases c : J 16 (6 * a + q) < 0
    · rw [show usJ J a s (q + 1) = usJ J a s q from if_pos c]; exact usJ_b q
    · rw [show usJ J a s (q + 1) = usI J (6 * a + q) s (usJ J a s q) (alJ J (6 * a + q) 10).toNat from if_neg c]; exact usI_b (usJ_b q) _
/-- whether place P is one of slot sl's n chunks, the last q of them looked at -/
def hsD (J : Int → Int → Int) (sl P n : Int) : Nat → Int
  | 0 => 0
  | q + 1 => if J 18 (500 * sl + (n - (q + 1))) = P then 1 else hsD J sl P n q
def hsS (J : Int → Int → Int) (a P : Int) : Nat → Int
  | 0 => 0
  | q + 1 => if 0 ≤ J 16 (6 * a + (5 - q)) ∧ hsD J (6 * a + (5 - q)) P (alJ J (6 * a + (5 - q)) 10) (alJ J (6 * a + (5 - q)) 10).toNat ≠ 0 then 1 else hsS J a P q
def nCh (J : Int → Int → Int) (a : Int) : Nat → Int
  | 0 => 0
  | q + 1 => if hsS J a (2400 * a + q) 6 = 0 then nCh J a q else nCh J a q + 1
theorem nCh_r {J : Int → Int → Int} {a : Int} : ∀ q : Nat, 0 ≤ nCh J a q ∧ nCh J a q ≤ q
  | 0 => ⟨Int.le_refl _, Int.le_refl _⟩
  | q + 1 => by
    have := nCh_r (J := J) (a := a) q
    by_cases c : hsS J a (2400 * a + q) 6 = 0
    · rw [show nCh J a (q + 1) = nCh J a q from if_pos c]; omega
    · rw [show nCh J a (q + 1) = nCh J a q + 1 from if_neg c]; omega
def cn1 (J : Int → Int → Int) (a : Int) : Nat → Int
  | 0 => 0
  | q + 1 => if J 21 (40 * a + q) = 0 then cn1 J a q + 1 else cn1 J a q
def cn2 (J : Int → Int → Int) (a : Int) : Nat → Int
  | 0 => 0
  | q + 1 => if J 22 (40 * a + q) = 0 then cn2 J a q else cn2 J a q + 1
def cn3 (J : Int → Int → Int) (a : Int) : Nat → Int
  | 0 => 0
  | q + 1 => if J 16 (6 * a + q) < 0 then cn3 J a q else cn3 J a q + 1
theorem cn1_r {J : Int → Int → Int} {a : Int} : ∀ q : Nat, 0 ≤ cn1 J a q ∧ cn1 J a q ≤ q
  | 0 => ⟨Int.le_refl _, Int.le_refl _⟩
  | q + 1 => by
    have := cn1_r (J := J) (a := a) q
    unfold cn1
    split <;> omega
theorem cn2_r {J : Int → Int → Int} {a : Int} : ∀ q : Nat, 0 ≤ cn2 J a q ∧ cn2 J a q ≤ q
  | 0 => ⟨Int.le_refl _, Int.le_refl _⟩
  | q + 1 => by
    have := cn2_r (J := J) (a := a) q
    unfold cn2
    split <;> omega
theorem cn3_r {J : Int → Int → Int} {a : Int} : ∀ q : Nat, 0 ≤ cn3 J a q ∧ cn3 J a q ≤ q
  | 0 => ⟨Int.le_refl _, Int.le_refl _⟩
  | q + 1 => by
    have := cn3_r (J := J) (a := a) q
    unfold cn3
    split <;> omega

theorem m_isUsed {d : Nat} {K : Kt} {X : Xt} {J : Int → Int → Int} {ty : Nm → Nat} {ln : Nm → Int} {I : Nm → Int → Int} {R : Nm → Int → Option Nm} {c w : Nat} {a s : Int} (h : MOk ty ln R) (hR : MR J) (a0 : 0 ≤ a ∧ a ≤ 9) :
    Mth (d + 2) M_Mo_isUsed [vR (some [2]), vI a, vI s] (ty, ln, pJ I J, R, c, w) K X = K (some (vI (usJ J a s 6))) (ty, ln, pJ I (J), R, c, w) := by
  have h0 := h.1
  have a16 := h.a16
  have a18 := h.a18
  have key : ∀ (q i : Nat), i + q = 6 → ∀ u5 u6 : Vl, isLg u5 = false → isLg u6 = false → Rn (d + 1) M_Mo_isUsed K X 8 [vR (some [2]), vI a, vI s, vI (usJ J a s i), vI (6 * a + i), u5, u6] [] (ty, ln, pJ I J, R, c, w) = K (some (vI (usJ J a s 6))) (ty, ln, pJ I J, R, c, w) := by
    intro q
    induction q with
    | zero =>
      intro i hi u5 u6 v5 v6
      rw [b_Mo_isUsed_8 v5 v6, w32_id (x := 6 * a) (by omega) (by omega), w32_id (x := 6 * a + 6) (by omega) (by omega), if_pos (by omega), and_t (usJ_b i), show i = 6 by omega]
    | succ q ih =>
      intro i hi u5 u6 v5 v6
      have ih' := ih (i + 1) (by omega)
      have e9 : 6 * a + (i : Int) + 1 = 6 * a + ((i + 1 : Nat) : Int) := by omega
      rw [b_Mo_isUsed_8 v5 v6, w32_id (x := 6 * a) (by omega) (by omega), w32_id (x := 6 * a + 6) (by omega) (by omega), if_neg (by omega), and_t h0, h.e16, and_t ⟨Or.inl a16.2.1, by omega, by omega⟩, pJ_a (by decide)]
      by_cases c1 : J 16 (6 * a + i) < 0
      · rw [show usJ J a s (i + 1) = usJ J a s i from if_pos c1] at ih'
        rw [if_pos c1, b_Mo_isUsed_90 v5 v6, w32_id (by omega) (by omega), e9]
        exact ih' u5 u6 v5 v6
      · rw [show usJ J a s (i + 1) = usI J (6 * a + i) s (usJ J a s i) (alJ J (6 * a + i) 10).toNat from if_neg c1] at ih'
        have r := alJ_r (sl := 6 * a + i) hR 10
        rw [if_neg c1, and_t h0, m_chunksOf h hR (by omega)]
        show Rn (d + 1) M_Mo_isUsed K X 36 [vR (some [2]), vI a, vI s, vI (usJ J a s i), vI (6 * a + i), u5, u6] [vI (alJ J (6 * a + i) 10)] (ty, ln, pJ I J, R, c, w) = _
        rw [b_Mo_isUsed_36 v5 v6, w32_id (x := 500 * (6 * a + (i : Int))) (by omega) (by omega)]
        obtain ⟨n, hn⟩ : ∃ n : Nat, n = (alJ J (6 * a + i) 10).toNat := ⟨_, rfl⟩
        have en : alJ J (6 * a + i) 10 = (n : Int) := by omega
        rw [en] at r ⊢
        rw [← hn] at ih'
        have inner : ∀ (p t : Nat), t + p = n → Rn (d + 1) M_Mo_isUsed K X 46 [vR (some [2]), vI a, vI s, vI (usI J (6 * a + i) s (usJ J a s i) t), vI (6 * a + i), vI (n : Int), vI (500 * (6 * a + i) + t)] [] (ty, ln, pJ I J, R, c, w) = K (some (vI (usJ J a s 6))) (ty, ln, pJ I J, R, c, w) := by
          intro p
          induction p with
          | zero =>
            intro t ht
            rw [b_Mo_isUsed_46, w32_id (x := 500 * (6 * a + (i : Int))) (by omega) (by omega), w32_id (x := 500 * (6 * a + (i : Int)) + (n : Int)) (by omega) (by omega), if_pos (by omega), b_Mo_isUsed_90 rfl rfl, w32_id (by omega) (by omega), e9, show t = n by omega]
            exact ih' _ _ rfl rfl
          | succ p jh =>
            intro t ht
            have jh' := jh (t + 1) (by omega)
            have f9 : 500 * (6 * a + (i : Int)) + (t : Int) + 1 = 500 * (6 * a + (i : Int)) + ((t + 1 : Nat) : Int) := by omega
            have k18 := hR.k18 (500 * (6 * a + i) + t)
            have ub := usI_b (J := J) (sl := 6 * a + i) (s := s) (usJ_b (J := J) (a := a) (s := s) i) t
            rw [b_Mo_isUsed_46, w32_id (x := 500 * (6 * a + (i : Int))) (by omega) (by omega), w32_id (x := 500 * (6 * a + (i : Int)) + (n : Int)) (by omega) (by omega), if_neg (by omega)]
            by_cases c2 : usI J (6 * a + i) s (usJ J a s i) t = 0
            · rw [if_neg (fun z => z c2), and_t h0, h.e18, and_t ⟨Or.inl a18.2.1, by omega, by omega⟩, pJ_a (by decide), and_t (by decide), Int.tdiv_eq_ediv_of_nonneg k18.1, w32_id (x := J 18 (500 * (6 * a + (i : Int)) + (t : Int)) / 60) (by omega) (by omega)]
              by_cases c3 : J 18 (500 * (6 * a + i) + t) / 60 = s
              · rw [show usI J (6 * a + i) s (usJ J a s i) (t + 1) = 1 from if_pos (Or.inr c3)] at jh'
                rw [if_neg (fun z => z c3), b_Mo_isUsed_78, b_Mo_isUsed_83, w32_id (by omega) (by omega), f9]
                exact jh'
              · rw [show usI J (6 * a + i) s (usJ J a s i) (t + 1) = 0 from if_neg (fun z => z.elim (fun y => y c2) c3)] at jh'
                rw [if_pos c3, b_Mo_isUsed_83, w32_id (by omega) (by omega), f9]
                exact jh'
            · rw [show usI J (6 * a + i) s (usJ J a s i) (t + 1) = 1 from if_pos (Or.inl c2)] at jh'
              rw [if_pos c2, b_Mo_isUsed_78, b_Mo_isUsed_83, w32_id (by omega) (by omega), f9]
              exact jh'
        have z := inner n 0 (by omega)
        rw [show 500 * (6 * a + (i : Int)) + ((0 : Nat) : Int) = 500 * (6 * a + i) by omega] at z
        exact z
  rw [in_Mo_isUsed, b_Mo_isUsed_0, w32_id (by omega) (by omega)]
  have z := key 6 0 rfl vJ vJ rfl rfl
  rw [show 6 * a + ((0 : Nat) : Int) = 6 * a by omega] at z
  exact z
set_option maxHeartbeats 1000000 in
theorem m_chunks {d : Nat} {K : Kt} {X : Xt} {J : Int → Int → Int} {ty : Nm → Nat} {ln : Nm → Int} {I : Nm → Int → Int} {R : Nm → Int → Option Nm} {c w : Nat} {a : Int} (h : MOk ty ln R) (hR : MR J) (a0 : 0 ≤ a ∧ a ≤ 9) :
    Mth (d + 2) M_Mo_chunks [vR (some [2]), vI a] (ty, ln, pJ I J, R, c, w) K X = K (some (vI (nCh J a 2400))) (ty, ln, pJ I (J), R, c, w) := by
  have h0 := h.1
  have a16 := h.a16
  have a18 := h.a18
  have key : ∀ (q i : Nat), i + q = 2400 → ∀ u4 u5 u6 u7 : Vl, isLg u4 = false → isLg u5 = false → isLg u6 = false → isLg u7 = false → Rn (d + 1) M_Mo_chunks K X 8 [vR (some [2]), vI a, vI (nCh J a i), vI (2400 * a + i), u4, u5, u6, u7] [] (ty, ln, pJ I J, R, c, w) = K (some (vI (nCh J a 2400))) (ty, ln, pJ I J, R, c, w) := by
    intro q
    induction q with
    | zero =>
      intro i hi u4 u5 u6 u7 v4 v5 v6 v7
      rw [b_Mo_chunks_8 v4 v5 v6 v7, w32_id (x := 2400 * a) (by omega) (by omega), w32_id (x := 2400 * a + 2400) (by omega) (by omega), if_pos (by omega), show i = 2400 by omega]
    | succ q ih =>
      intro i hi u4 u5 u6 u7 v4 v5 v6 v7
      have ih' := ih (i + 1) (by omega)
      have nr := nCh_r (J := J) (a := a) i
      have e9 : 2400 * a + (i : Int) + 1 = 2400 * a + ((i + 1 : Nat) : Int) := by omega
      rw [b_Mo_chunks_8 v4 v5 v6 v7, w32_id (x := 2400 * a) (by omega) (by omega), w32_id (x := 2400 * a + 2400) (by omega) (by omega), if_neg (by omega), w32_id (x := 6 * a) (by omega) (by omega)]
      obtain ⟨G, hG⟩ : ∃ G, G = K (some (vI (nCh J a 2400))) (ty, ln, pJ I J, R, c, w) := ⟨_, rfl⟩
      rw [← hG] at ih' ⊢
      have fin : ∀ (x5 : Int) (u6 u7 : Vl), isLg u6 = false → isLg u7 = false → ∀ v : Int, v = hsS J a (2400 * a + i) 6 → Rn (d + 1) M_Mo_chunks K X 122 [vR (some [2]), vI a, vI (nCh J a i), vI (2400 * a + i), vI v, vI x5, u6, u7] [] (ty, ln, pJ I J, R, c, w) = G := by
        intro x5 u6 u7 v6 v7 v ev
        subst ev
        rw [b_Mo_chunks_122 v6 v7]
        by_cases c : hsS J a (2400 * a + i) 6 = 0
        · rw [show nCh J a (i + 1) = nCh J a i from if_pos c] at ih'
          rw [if_pos c, b_Mo_chunks_134 v6 v7, w32_id (by omega) (by omega), e9]
          exact ih' _ _ _ _ rfl rfl v6 v7
        · rw [show nCh J a (i + 1) = nCh J a i + 1 from if_neg c] at ih'
          rw [if_neg c, b_Mo_chunks_134 v6 v7, w32_id (x := nCh J a i + 1) (by omega) (by omega), w32_id (by omega) (by omega), e9]
          exact ih' _ _ _ _ rfl rfl v6 v7
      have mid : ∀ (p : Nat), p ≤ 6 → hsS J a (2400 * a + i) 6 = hsS J a (2400 * a + i) p → ∀ u6 u7 : Vl, isLg u6 = false → isLg u7 = false → Rn (d + 1) M_Mo_chunks K X 30 [vR (some [2]), vI a, vI (nCh J a i), vI (2400 * a + i), vI 0, vI (6 * a + (6 - (p : Int))), u6, u7] [] (ty, ln, pJ I J, R, c, w) = G := by
        intro p
        induction p with
        | zero =>
          intro hp e u6 u7 v6 v7
          rw [b_Mo_chunks_30 v6 v7, w32_id (x := 6 * a) (by omega) (by omega), w32_id (x := 6 * a + 6) (by omega) (by omega), if_pos (by omega)]
          exact fin _ _ _ v6 v7 _ e.symm
        | succ p jh =>
          intro hp e u6 u7 v6 v7
          have f0 : 6 * a + (6 - ((p + 1 : Nat) : Int)) = 6 * a + (5 - p) := by omega
          have f9 : 6 * a + (5 - (p : Int)) + 1 = 6 * a + (6 - (p : Int)) := by omega
          rw [b_Mo_chunks_30 v6 v7, w32_id (x := 6 * a) (by omega) (by omega), w32_id (x := 6 * a + 6) (by omega) (by omega), if_neg (by omega), if_neg (fun z => z rfl), f0, and_t h0, h.e16, and_t ⟨Or.inl a16.2.1, by omega, by omega⟩, pJ_a (by decide)]
          by_cases c1 : J 16 (6 * a + (5 - p)) < 0
          · rw [if_pos c1, b_Mo_chunks_116 v6 v7, w32_id (by omega) (by omega), f9]
            refine jh (by omega) ?_ u6 u7 v6 v7
            rw [e]
            exact if_neg (fun z => by omega)
          · have r := alJ_r (sl := 6 * a + (5 - p)) hR 10
            rw [if_neg c1, and_t h0, m_chunksOf h hR (by omega)]
            show Rn (d + 1) M_Mo_chunks K X 63 [vR (some [2]), vI a, vI (nCh J a i), vI (2400 * a + i), vI 0, vI (6 * a + (5 - p)), u6, u7] [vI (alJ J (6 * a + (5 - p)) 10)] (ty, ln, pJ I J, R, c, w) = _
            rw [b_Mo_chunks_63 v6 v7, w32_id (x := 500 * (6 * a + (5 - (p : Int)))) (by omega) (by omega)]
            obtain ⟨n, hn⟩ : ∃ n : Int, n = alJ J (6 * a + (5 - p)) 10 := ⟨_, rfl⟩
            rw [← hn] at r ⊢
            have inner : ∀ (t : Nat), t ≤ n.toNat → hsD J (6 * a + (5 - p)) (2400 * a + i) n n.toNat = hsD J (6 * a + (5 - p)) (2400 * a + i) n t → Rn (d + 1) M_Mo_chunks K X 73 [vR (some [2]), vI a, vI (nCh J a i), vI (2400 * a + i), vI 0, vI (6 * a + (5 - p)), vI n, vI (500 * (6 * a + (5 - p)) + (n - t))] [] (ty, ln, pJ I J, R, c, w) = G := by
              intro t
              induction t with
              | zero =>
                intro ht e2
                rw [b_Mo_chunks_73, w32_id (x := 500 * (6 * a + (5 - (p : Int)))) (by omega) (by omega), w32_id (x := 500 * (6 * a + (5 - (p : Int))) + n) (by omega) (by omega), if_pos (by omega), b_Mo_chunks_116 rfl rfl, w32_id (by omega) (by omega), f9]
                refine jh (by omega) ?_ _ _ rfl rfl
                rw [e]
                refine if_neg (fun z => z.2 ?_)
                rw [← hn, e2]
                rfl
              | succ t kh =>
                intro ht e2
                have g0 : 500 * (6 * a + (5 - (p : Int))) + (n - ((t + 1 : Nat) : Int)) = 500 * (6 * a + (5 - p)) + (n - (t + 1)) := by omega
                have g9 : 500 * (6 * a + (5 - (p : Int))) + (n - ((t : Int) + 1)) + 1 = 500 * (6 * a + (5 - p)) + (n - t) := by omega
                rw [b_Mo_chunks_73, w32_id (x := 500 * (6 * a + (5 - (p : Int)))) (by omega) (by omega), w32_id (x := 500 * (6 * a + (5 - (p : Int))) + n) (by omega) (by omega), if_neg (by omega), if_neg (fun z => z rfl), g0, and_t h0, h.e18, and_t ⟨Or.inl a18.2.1, by omega, by omega⟩, pJ_a (by decide)]
                by_cases c3 : J 18 (500 * (6 * a + (5 - p)) + (n - (t + 1))) = 2400 * a + i
                · rw [if_neg (fun z => z c3), b_Mo_chunks_108, w32_id (by omega) (by omega), g9, b_Mo_chunks_73]
                  have e1 : (1 : Int) = hsS J a (2400 * a + i) 6 := by
                    rw [e]
                    refine (if_pos ⟨by omega, ?_⟩).symm
                    rw [← hn, e2, show hsD J (6 * a + (5 - p)) (2400 * a + i) n (t + 1) = 1 from if_pos c3]
                    decide
                  have last : ∀ x7 : Int, Rn (d + 1) M_Mo_chunks K X 116 [vR (some [2]), vI a, vI (nCh J a i), vI (2400 * a + i), vI 1, vI (6 * a + (5 - p)), vI n, vI x7] [] (ty, ln, pJ I J, R, c, w) = G := by
                    intro x7
                    rw [b_Mo_chunks_116 rfl rfl, w32_id (by omega) (by omega), b_Mo_chunks_30 rfl rfl]
                    split
                    · exact fin _ _ _ rfl rfl _ e1
                    · rw [if_pos (by decide)]
                      exact fin _ _ _ rfl rfl _ e1
                  split
                  · exact last _
                  · rw [if_pos (by decide)]
                    exact last _
                · rw [if_pos c3, b_Mo_chunks_108, w32_id (by omega) (by omega), g9]
                  refine kh (by omega) ?_
                  rw [e2]
                  exact if_neg c3
            have z := inner n.toNat (by omega) rfl
            rw [show 500 * (6 * a + (5 - (p : Int))) + (n - (n.toNat : Int)) = 500 * (6 * a + (5 - p)) by omega] at z
            exact z
      have z := mid 6 (by omega) rfl u6 u7 v6 v7
      rw [show 6 * a + (6 - ((6 : Nat) : Int)) = 6 * a by omega] at z
      exact z
  rw [in_Mo_chunks, b_Mo_chunks_0, w32_id (by omega) (by omega)]
  have z := key 2400 0 rfl vJ vJ vJ vJ rfl rfl rfl rfl
  rw [show 2400 * a + ((0 : Nat) : Int) = 2400 * a by omega] at z
  exact z
