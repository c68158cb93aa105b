/-! ===== the reference: a segment solved ===== -/
def solE (J : Int → Int → Int) (s : Int) : Int → Int → Int := elA (sysA J s (J (-1) 2) (selJ J s (J (-1) 2).toNat (J (-1) 3).toNat)) (J (-1) 2).toNat
def solJ (J : Int → Int → Int) (s : Int) : Int → Int → Int := wJ (mxJ J (J (-1) 2) (60 / J (-1) 2) (solE J s)) 33 0 60 (fun x => solE J s (x / (60 / J (-1) 2)) (J (-1) 2 + x % (60 / J (-1) 2)))
theorem m_solve2 {d : Nat} {K : Kt} {X : Xt} {J : Int → Int → Int} {ty : Nm → Nat} {ln : Nm → Int} {I : Nm → Int → Int} {R : Nm → Int → Option Nm} {c w : Nat} {k l s n : Int} {A : Int → Int → Int} (h : MOk ty ln R) (hk : 2 ≤ k ∧ k ≤ 6) (hl : l = 60 / k) (ek : J (-1) 2 = k) (hA : rg8 A k l) (hp : ∀ i : Nat, (i : Int) < k → elA A i i i ≠ 0) :
    ∀ (x4 : Int) (u5 : Vl), isLg u5 = false → Rn (d + 3) M_Mo_solve K X 132 [vR (some [2]), vI s, vI l, vI n, vI x4, u5, vJ, vJ] [] (ty, ln, pJ I (mxJ J k l A), R, c, w) = K none (ty, ln, pJ I (wJ (mxJ J k l (elA A k.toNat)) 33 0 60 (fun x => elA A k.toNat (x / l) (k + x % l))), R, c, w) := by
  have h0 := h.1
  have a32 := h.a32
  have a33 := h.a33
  have a34 := h.a34
  have lr := l_rg hk hl
  -- the answers
  have k3 : ∀ q i : Nat, i + q = k.toNat → ∀ u5 u6 u7, isLg u5 = false → isLg u6 = false → isLg u7 = false → Rn (d + 3) M_Mo_solve K X 262 [vR (some [2]), vI s, vI l, vI n, vI (i : Int), u5, u6, u7] [] (ty, ln, pJ I (wJ (mxJ J k l (elA A k.toNat)) 33 0 (i * l) (fun x => elA A k.toNat (x / l) (k + x % l))), R, c, w) = K none (ty, ln, pJ I (wJ (mxJ J k l (elA A k.toNat)) 33 0 60 (fun x => elA A k.toNat (x / l) (k + x % l))), R, c, w) := by
    intro q
    induction q with
    | zero =>
      intro i hi u5 u6 u7 v5 v6 v7
      have e60 : (i : Int) * l = 60 := by
        have : k = 2 ∨ k = 3 ∨ k = 4 ∨ k = 5 ∨ k = 6 := by omega
        rcases this with rfl | rfl | rfl | rfl | rfl
        · rw [show l = 30 from hl, show (i : Int) = 2 by omega]; rfl
        · rw [show l = 20 from hl, show (i : Int) = 3 by omega]; rfl
        · rw [show l = 15 from hl, show (i : Int) = 4 by omega]; rfl
        · rw [show l = 12 from hl, show (i : Int) = 5 by omega]; rfl
        · rw [show l = 10 from hl, show (i : Int) = 6 by omega]; rfl
      rw [b_Mo_solve_262 v5 v6 v7, and_t h0, pJ_m, wJ_ne (by decide), mx_o (by decide) (by decide), ek, if_pos (by omega), e60]
    | succ q ih =>
      intro i hi u5 u6 u7 v5 v6 v7
      have r1 := il_r (i := i) hk hl (by omega)
      rw [b_Mo_solve_262 v5 v6 v7, and_t h0, pJ_m, wJ_ne (by decide), mx_o (by decide) (by decide), ek, if_neg (by omega)]
      have inner : ∀ q t : Nat, t + q = l.toNat → Rn (d + 3) M_Mo_solve K X 274 [vR (some [2]), vI s, vI l, vI n, vI (i : Int), vI (t : Int), u6, u7] [] (ty, ln, pJ I (wJ (mxJ J k l (elA A k.toNat)) 33 0 (i * l + t) (fun x => elA A k.toNat (x / l) (k + x % l))), R, c, w) = K none (ty, ln, pJ I (wJ (mxJ J k l (elA A k.toNat)) 33 0 60 (fun x => elA A k.toNat (x / l) (k + x % l))), R, c, w) := by
        intro q
        induction q with
        | zero =>
          intro t ht
          have ih' := ih (i + 1) (by omega) (vI (t : Int)) u6 u7 rfl v6 v7
          rw [show (((i + 1 : Nat) : Int)) * l = i * l + t by rw [Int.natCast_add, Int.add_mul]; omega] at ih'
          rw [b_Mo_solve_274 v6 v7, if_pos (by omega), w32_id (by omega) (by omega)]
          exact ih'
        | succ q ih2 =>
          intro t ht
          have ih' := ih2 (t + 1) (by omega)
          have d1 : ((i : Int) * l + t) / l = i := by rw [Int.add_comm, Int.add_mul_ediv_right _ _ (by omega), Int.ediv_eq_zero_of_lt (by omega) (by omega)]; omega
          have d2 : ((i : Int) * l + t) % l = t := by rw [Int.add_comm, Int.add_mul_emod_self_right, Int.emod_eq_of_lt (by omega) (by omega)]
          rw [b_Mo_solve_274 v6 v7, if_neg (by omega), and_t h0, and_t h0, h.e34, w32_id (x := 30 * (i : Int)) (by omega) (by omega), w32_id (x := 30 * (i : Int) + (t : Int)) (by omega) (by omega), and_t ⟨Or.inl a34.2.1, by omega, by omega⟩, h.e33, w32_id (x := (i : Int) * l) (by omega) (by omega), w32_id (x := (i : Int) * l + (t : Int)) (by omega) (by omega), and_t ⟨a33.2.1, rfl, by omega, by omega⟩, pJ_a (by decide), wJ_ne (by decide), mx_r lr.2 (by omega) (by omega), up_a (by decide), wJ_up (by omega) (by rw [d1, d2]), w32_id (by omega) (by omega), Int.add_assoc]
          exact ih'
      have k0 := inner l.toNat 0 (Nat.zero_add _)
      rw [show (i : Int) * l + ((0 : Nat) : Int) = i * l by omega] at k0
      exact k0
  -- the steps
  have k2 : ∀ q i : Nat, i + q = k.toNat → ∀ u5 u6 u7, isLg u5 = false → isLg u6 = false → isLg u7 = false → Rn (d + 3) M_Mo_solve K X 135 [vR (some [2]), vI s, vI l, vI n, vI (i : Int), u5, u6, u7] [] (ty, ln, pJ I (mxJ J k l (elA A i)), R, c, w) = K none (ty, ln, pJ I (wJ (mxJ J k l (elA A k.toNat)) 33 0 60 (fun x => elA A k.toNat (x / l) (k + x % l))), R, c, w) := by
    intro q
    induction q with
    | zero =>
      intro i hi u5 u6 u7 v5 v6 v7
      rw [b_Mo_solve_135 v5 v6 v7, and_t h0, pJ_m, mx_o (by decide) (by decide), ek, if_pos (by omega), show i = k.toNat by omega]
      have := k3 k.toNat 0 (Nat.zero_add _) u5 u6 u7 v5 v6 v7
      rw [show ((0 : Nat) : Int) * l = 0 by simp, wJ_nil (by omega)] at this
      exact this
    | succ q ih =>
      intro i hi u5 u6 u7 v5 v6 v7
      have g := elA_g (by omega) hA i (by omega)
      have pv := hp i (by omega)
      obtain ⟨B, hB⟩ : ∃ B, B = elA A i := ⟨_, rfl⟩
      have eS : elA A (i + 1) = stepA B i := by rw [hB]; rfl
      have ih' := ih (i + 1) (by omega)
      rw [eS] at ih'
      rw [← hB] at g pv ⊢
      have pr := g i i (by omega) (by omega) (by omega) (by omega)
      have iv := invZ_r (a := B i i)
      rw [b_Mo_solve_135 v5 v6 v7, and_t h0, pJ_m, mx_o (by decide) (by decide), ek, if_neg (by omega), b_Mo_solve_148 v6 v7, and_t h0, h.e32, w32_id (x := 6 * (i : Int)) (by omega) (by omega), w32_id (x := 6 * (i : Int) + (i : Int)) (by omega) (by omega), and_t ⟨Or.inl a32.2.1, by omega, by omega⟩, pJ_a (by decide), mx_m hk.2 (by omega) (by omega), if_pos pv, and_t h0, m_swap h hk lr (by rw [mx_o (by decide) (by decide)]; exact ek) (by omega)]
      refine (b_Mo_solve_179 v6 v7).trans ?_
      rw [and_t h0, h.e32, w32_id (x := 6 * (i : Int)) (by omega) (by omega), w32_id (x := 6 * (i : Int) + (i : Int)) (by omega) (by omega), and_t ⟨Or.inl a32.2.1, by omega, by omega⟩, pJ_a (by decide), mx_m hk.2 (by omega) (by omega), s_inverse (by omega)]
      refine (b_Mo_solve_195 v6 v7).trans ?_
      rw [and_t h0, m_scale h hk lr ek (by omega) (by omega) g]
      refine (b_Mo_solve_206 v7).trans ?_
      -- rows below r are done
      have inner : ∀ q r : Nat, r + q = k.toNat → Rn (d + 3) M_Mo_solve K X 209 [vR (some [2]), vI s, vI l, vI n, vI (i : Int), vI (i : Int), vI (invZ (B i i)), vI (r : Int)] [] (ty, ln, pJ I (mxJ J k l (fun r' c => if r' < r ∨ r' = i then stepA B i r' c else B r' c)), R, c, w) = K none (ty, ln, pJ I (wJ (mxJ J k l (elA A k.toNat)) 33 0 60 (fun x => elA A k.toNat (x / l) (k + x % l))), R, c, w) := by
        intro q
        induction q with
        | zero =>
          intro r hr
          rw [b_Mo_solve_209, and_t h0, pJ_m, mx_o (by decide) (by decide), ek, if_pos (by omega), w32_id (by omega) (by omega), mx_e (B := stepA B i) (by omega) (fun r' c r0 r1 c0 c1 => if_pos (Or.inl (by omega)))]
          exact ih' _ _ _ rfl rfl rfl
        | succ q ih2 =>
          intro r hr
          have ih3 := ih2 (r + 1) (by omega)
          rw [b_Mo_solve_209, and_t h0, pJ_m, mx_o (by decide) (by decide), ek, if_neg (by omega)]
          by_cases q1 : (r : Int) = i
          · rw [if_pos q1, b_Mo_solve_247, w32_id (by omega) (by omega), mx_e (B := fun r' c => if r' < ((r + 1 : Nat) : Int) ∨ r' = i then stepA B i r' c else B r' c) (by omega) (fun r' c r0 r1 c0 c1 => by
              by_cases z : r' < (r : Int) ∨ r' = i
              · rw [if_pos z, if_pos (by omega)]
              · rw [if_neg z, if_neg (by omega)])]
            exact ih3
          · have gs : rg8 (fun r' c => if r' < (r : Int) ∨ r' = i then stepA B i r' c else B r' c) k l := fun r' c r0 r1 c0 c1 => by
              show 0 ≤ (if r' < (r : Int) ∨ r' = i then stepA B i r' c else B r' c) ∧ (if r' < (r : Int) ∨ r' = i then stepA B i r' c else B r' c) < 256
              by_cases z : r' < (r : Int) ∨ r' = i
              · rw [if_pos z]; exact stepA_g (by omega) g (by omega) r' c r0 r1 c0 c1
              · rw [if_neg z]; exact g r' c r0 r1 c0 c1
            have br := g r i (by omega) (by omega) (by omega) (by omega)
            rw [if_neg q1, and_t h0, h.e32, w32_id (x := 6 * (r : Int)) (by omega) (by omega), w32_id (x := 6 * (r : Int) + (i : Int)) (by omega) (by omega), and_t ⟨Or.inl a32.2.1, by omega, by omega⟩, pJ_a (by decide), mx_m hk.2 (by omega) (by omega), if_neg (by omega), and_t h0, m_subtract h hk lr ek (by omega) (by omega) (fun e => q1 e.symm) br gs]
            refine b_Mo_solve_247.trans ?_
            rw [w32_id (by omega) (by omega), mx_e (B := fun r' c => if r' < ((r + 1 : Nat) : Int) ∨ r' = i then stepA B i r' c else B r' c) (by omega) (fun r' c r0 r1 c0 c1 => by
              by_cases z : r' = (r : Int)
              · rw [z, rowF_lt c1, if_neg (show ¬ ((r : Int) < (r : Int) ∨ (r : Int) = i) by omega), if_pos (show ((i : Int) < (r : Int) ∨ (i : Int) = i) from Or.inr rfl), if_pos (show (r : Int) < ((r + 1 : Nat) : Int) ∨ (r : Int) = i from Or.inl (by omega))]
                unfold stepA
                rw [if_neg q1, if_pos rfl]
              · rw [rowF_ne z]
                by_cases z2 : r' < (r : Int) ∨ r' = i
                · rw [if_pos z2, if_pos (by omega)]
                · rw [if_neg z2, if_neg (by omega)])]
            exact ih3
      have k0 := inner k.toNat 0 (Nat.zero_add _)
      rw [mx_e (B := rowF B i (k + l) (fun c => mulZ (invZ (B i i)) (B i c))) (by omega) (fun r' c r0 r1 c0 c1 => by
        by_cases z : r' = (i : Int)
        · rw [if_pos (Or.inr z), z, rowF_lt c1]
          unfold stepA
          rw [if_pos rfl]
        · rw [if_neg (by show ¬ (r' < ((0 : Nat) : Int) ∨ r' = i); omega), rowF_ne z])] at k0
      exact k0
  intro x4 u5 v5
  rw [b_Mo_solve_132 v5]
  exact k2 k.toNat 0 (Nat.zero_add _) u5 vJ vJ v5 rfl rfl
theorem m_solve {d : Nat} {K : Kt} {X : Xt} {J : Int → Int → Int} {ty : Nm → Nat} {ln : Nm → Int} {I : Nm → Int → Int} {R : Nm → Int → Option Nm} {c w : Nat} {s : Int} (h : MOk ty ln R) (hR : MR J) (hS : SC J) (s0 : 0 ≤ s ∧ s < 400) (hc : J (-1) 2 ≤ cntR J s (J (-1) 3).toNat) (hp : ∀ i : Nat, (i : Int) < J (-1) 2 → elA (sysA J s (J (-1) 2) (selJ J s (J (-1) 2).toNat (J (-1) 3).toNat)) i i i ≠ 0) :
    Mth (d + 4) M_Mo_solve [vR (some [2]), vI s] (ty, ln, pJ I J, R, c, w) K X = K none (ty, ln, pJ I (solJ J s), R, c, w) := by
  have h0 := h.1
  have a27 := h.a27
  have a32 := h.a32
  have a34 := h.a34
  obtain ⟨k, ek⟩ : ∃ k, k = J (-1) 2 := ⟨_, rfl⟩
  obtain ⟨l, hl⟩ : ∃ l, l = 60 / k := ⟨_, rfl⟩
  obtain ⟨N, hN⟩ : ∃ N, N = (J (-1) 3).toNat := ⟨_, rfl⟩
  have hk : 2 ≤ k ∧ k ≤ 6 := by rw [ek]; exact hS.1
  have hN2 := hS.2.1
  have lr := l_rg hk hl
  unfold solJ solE
  rw [← ek, ← hl, ← hN]
  rw [← ek, ← hN] at hp hc
  have key : ∀ q j : Nat, j + q = N → ∀ u5, isLg u5 = false → Rn (d + 3) M_Mo_solve K X 10 [vR (some [2]), vI s, vI l, vI ((selJ J s k.toNat j).length : Int), vI (j : Int), u5, vJ, vJ] [] (ty, ln, pJ I (mxJ J k l (sysA J s k (selJ J s k.toNat j))), R, c, w) = K none (ty, ln, pJ I (wJ (mxJ J k l (elA (sysA J s k (selJ J s k.toNat N)) k.toNat)) 33 0 60 (fun x => elA (sysA J s k (selJ J s k.toNat N)) k.toNat (x / l) (k + x % l))), R, c, w) := by
    intro q
    induction q with
    | zero =>
      intro j hj u5 v5
      rw [show j = N by omega, b_Mo_solve_10 v5, and_t h0, pJ_m, mx_o (by decide) (by decide), if_pos (by omega)]
      exact m_solve2 h hk hl ek.symm (sys_g hR) hp _ u5 v5
    | succ q ih =>
      intro j hj u5 v5
      have ih' := ih (j + 1) (by omega)
      obtain ⟨b1, b2⟩ := selJ_len (J := J) (s := s) (K := k.toNat) j
      rw [b_Mo_solve_10 v5, and_t h0, pJ_m, mx_o (by decide) (by decide), if_neg (by omega), and_t h0, mx_o (by decide) (by decide), ← ek]
      by_cases q1 : k ≤ ((selJ J s k.toNat j).length : Int)
      · rw [if_pos q1]
        have e := selJ_full (J := J) (s := s) (K := k.toNat) (j := j) (by omega) (N - j)
        rw [show j + (N - j) = N by omega] at e
        rw [← e]
        exact m_solve2 h hk hl ek.symm (sys_g hR) hp _ u5 v5
      · rw [if_neg q1, and_t h0, w32_id (x := 12 * s) (by omega) (by omega), w32_id (x := 12 * s + (j : Int)) (by omega) (by omega), m_isReachable h (by omega) (by rw [mx_o (by decide) (by decide)]; exact (hR.k25 _).2)]
        have eR : isR (mxJ J k l (sysA J s k (selJ J s k.toNat j))) (12 * s + j) = isR J (12 * s + j) := by
          unfold isR
          rw [mx_o (by decide) (by decide), mx_o (by decide) (by decide), mx_o (by decide) (by decide)]
        refine (b_Mo_solve_38 v5).trans ?_
        by_cases q2 : isR J (12 * s + j)
        · rw [show selJ J s k.toNat (j + 1) = selJ J s k.toNat j ++ [j] from if_pos ⟨by omega, q2⟩] at ih'
          rw [if_pos (eR.mpr q2), if_neg (by decide)]
          obtain ⟨js, hjs⟩ : ∃ js, js = selJ J s k.toNat j := ⟨_, rfl⟩
          rw [← hjs] at ih' q1 b1 ⊢
          obtain ⟨f, hf⟩ : ∃ f : Int → Int, f = fun c => if c < k then cfZ (j : Int) c else J 27 (30 * (12 * s + (j : Int)) + (c - k)) := ⟨_, rfl⟩
          have kB : ∀ q t : Nat, t + q = l.toNat → Rn (d + 3) M_Mo_solve K X 81 [vR (some [2]), vI s, vI l, vI (js.length : Int), vI (j : Int), vI (t : Int), vJ, vJ] [] (ty, ln, pJ I (mxJ J k l (rowF (sysA J s k js) js.length (k + t) f)), R, c, w) = K none (ty, ln, pJ I (wJ (mxJ J k l (elA (sysA J s k (selJ J s k.toNat N)) k.toNat)) 33 0 60 (fun x => elA (sysA J s k (selJ J s k.toNat N)) k.toNat (x / l) (k + x % l))), R, c, w) := by
            intro q
            induction q with
            | zero =>
              intro t ht
              rw [b_Mo_solve_81, if_pos (by omega), b_Mo_solve_126 rfl, w32_id (x := (js.length : Int) + 1) (by omega) (by omega), w32_id (by omega) (by omega), show (t : Int) = l by omega, hf, sys_snoc (by omega)]
              have := ih' (vI l) rfl
              rw [show (((js ++ [j]).length : Nat) : Int) = (js.length : Int) + 1 by rw [List.length_append, List.length_singleton]; rfl] at this
              exact this
            | succ q ih2 =>
              intro t ht
              have ih3 := ih2 (t + 1) (by omega)
              rw [b_Mo_solve_81, if_neg (by omega), and_t h0, and_t h0, h.e27, w32_id (x := 12 * s) (by omega) (by omega), w32_id (x := 12 * s + (j : Int)) (by omega) (by omega), w32_id (x := 30 * (12 * s + (j : Int))) (by omega) (by omega), w32_id (x := 30 * (12 * s + (j : Int)) + (t : Int)) (by omega) (by omega), and_t ⟨Or.inl a27.2.1, by omega, by omega⟩, h.e34, w32_id (x := 30 * (js.length : Int)) (by omega) (by omega), w32_id (x := 30 * (js.length : Int) + (t : Int)) (by omega) (by omega), and_t ⟨a34.2.1, rfl, by omega, by omega⟩, pJ_a (by decide), mx_o (by decide) (by decide), up_a (by decide), mx_ur lr.2 (by omega) (by omega) (by rw [hf]; show _ = (if k + (t : Int) < k then _ else _); rw [if_neg (by omega), show k + (t : Int) - k = t by omega]), w32_id (by omega) (by omega)]
              rw [show k + ((t + 1 : Nat) : Int) = k + (t : Int) + 1 by omega] at ih3
              exact ih3
          have kA : ∀ q i : Nat, i + q = k.toNat → Rn (d + 3) M_Mo_solve K X 44 [vR (some [2]), vI s, vI l, vI (js.length : Int), vI (j : Int), vI (i : Int), vJ, vJ] [] (ty, ln, pJ I (mxJ J k l (rowF (sysA J s k js) js.length i f)), R, c, w) = K none (ty, ln, pJ I (wJ (mxJ J k l (elA (sysA J s k (selJ J s k.toNat N)) k.toNat)) 33 0 60 (fun x => elA (sysA J s k (selJ J s k.toNat N)) k.toNat (x / l) (k + x % l))), R, c, w) := by
            intro q
            induction q with
            | zero =>
              intro i hi
              rw [b_Mo_solve_44, and_t h0, pJ_m, mx_o (by decide) (by decide), ← ek, if_pos (by omega), show (i : Int) = k by omega]
              have := kB l.toNat 0 (Nat.zero_add _)
              rw [show k + ((0 : Nat) : Int) = k by omega] at this
              exact this
            | succ q ih2 =>
              intro i hi
              have ih3 := ih2 (i + 1) (by omega)
              rw [b_Mo_solve_44, and_t h0, pJ_m, mx_o (by decide) (by decide), ← ek, if_neg (by omega), and_t h0, s_coefficient (by omega) (by omega), a32.1]
              refine b_Mo_solve_71.trans ?_
              rw [ex_some, w32_id (x := 6 * (js.length : Int)) (by omega) (by omega), w32_id (x := 6 * (js.length : Int) + (i : Int)) (by omega) (by omega), and_t ⟨a32.2.1, rfl, by omega, by omega⟩, up_a (by decide), mx_um hk.2 (by omega) (by omega) (by omega) (by rw [hf]; show _ = (if (i : Int) < k then _ else _); rw [if_pos (by omega)]), w32_id (by omega) (by omega)]
              exact ih3
          have k0 := kA k.toNat 0 (Nat.zero_add _)
          rw [show ((0 : Nat) : Int) = 0 from rfl, rowF_0 (by omega)] at k0
          exact k0
        · rw [show selJ J s k.toNat (j + 1) = selJ J s k.toNat j from if_neg (fun z => q2 z.2)] at ih'
          rw [if_neg (fun z => q2 (eR.mp z)), if_pos rfl, b_Mo_solve_126 v5, w32_id (by omega) (by omega)]
          exact ih' u5 v5
  have k0 := key N 0 (Nat.zero_add _) vJ rfl
  rw [show selJ J s k.toNat 0 = [] from rfl, sys_nil hk.2 (by omega)] at k0
  rw [in_Mo_solve, b_Mo_solve_0, and_t h0, m_length h (by rw [← ek]; exact hk), ← ek, ← hl]
  exact b_Mo_solve_4.trans k0
