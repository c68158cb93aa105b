/-! ===== the class solves a segment, repairs ===== -/
theorem s_take0 {d : Nat} {K : Kt} {X : Xt} {ty : Nm → Nat} {ln : Nm → Int} {I : Nm → Int → Int} {R : Nm → Int → Option Nm} {c w : Nat} {k l : Int} (hC : CdS ty ln R) (hV : CV I) (hk : 2 ≤ k ∧ k ≤ 6) (hl : l = 60 / k) (k3 : I [17] 3 = k) (k5 : I [17] 5 = l) {r j : Int} {m : Option Nm} (e6 : I [17] 6 = r) (hr : k ≤ r) : Mth (d + 1) M_Coder_take [vR (some [17]), vI j, vR m] (ty, ln, I, R, c, w) K X = K none (ty, ln, I, R, c, w) := by
  obtain ⟨s1, s2, s3, s4, s5, s6, s7, s8, s9, s10, s11, s12, s13⟩ := id hC
  have lr := l_rg hk hl
  rw [in_Coder_take, b_Coder_take_0, and_t s1, and_t s1, e6, k3, if_neg (by omega)]
set_option maxHeartbeats 1000000 in
theorem s_take {d : Nat} {K : Kt} {X : Xt} {ty : Nm → Nat} {ln : Nm → Int} {I : Nm → Int → Int} {R : Nm → Int → Option Nm} {c w : Nat} {k l : Int} (hC : CdS ty ln R) (hV : CV I) (hk : 2 ≤ k ∧ k ≤ 6) (hl : l = 60 / k) (k3 : I [17] 3 = k) (k5 : I [17] 5 = l) {r j : Int} {m : Nm} (e6 : I [17] 6 = r) (hr : 0 ≤ r ∧ r < k) (hj : 0 ≤ j ∧ j < 12) (m1 : ty m = 1) (m2 : l ≤ ln m) (m3 : hd m ≠ 17)
    (kk : ∀ I' : Nm → Int → Int, (∀ n x, n ≠ [17, 2, r] → (n ≠ [17] ∨ x ≠ 6) → I' n x = I n x) → I' [17] 6 = r + 1 → (∀ x : Int, 0 ≤ x → x < k → I' [17, 2, r] x = cfZ j x) → (∀ x : Int, k ≤ x → x < k + l → I' [17, 2, r] x = I m (x - k)) → K none (ty, ln, I', R, c, w)) :
    Mth (d + 1) M_Coder_take [vR (some [17]), vI j, vR (some m)] (ty, ln, I, R, c, w) K X := by
  obtain ⟨s1, s2, s3, s4, s5, s6, s7, s8, s9, s10, s11, s12, s13⟩ := id hC
  have lr := l_rg hk hl
  obtain ⟨q1, q2, q3⟩ := s13 r (by omega) (by omega)
  obtain ⟨p1, p2, p3⟩ := s12 j (by omega) (by omega)
  have n1 : ([17] : Nm) ≠ [17, 2, r] := by simp
  have n2 : m ≠ [17, 2, r] := fun z => m3 (by rw [z]; rfl)
  rw [in_Coder_take, b_Coder_take_0, and_t s1, and_t s1, e6, k3, if_pos hr.2, and_t s1, s3, ex_some, and_t ⟨by omega, by omega, by omega⟩, and_t s1, and_t s1, s4, ex_some, and_t ⟨by omega, by omega, by omega⟩, and_t s1, q1, ex_some, p1, ex_some, and_t ⟨by omega, rfl, by omega, by omega, by omega, by omega, by omega⟩, if_pos q2]
  simp only [upN_ne _ _ n1, upN_ne _ _ n2, upN_self, e6, k3, k5]
  rw [and_t s1, and_t s1, ex_some, and_t ⟨by omega, by omega, by omega⟩, and_t s1, and_t s1, q1, ex_some, ex_some, and_t ⟨by omega, rfl, by omega, by omega, by omega, by omega, by omega⟩, if_pos q2, and_t s1, and_t ⟨s1, rfl⟩, upN_ne _ _ n1, upN_ne _ _ n1, e6, w32_id (by omega) (by omega)]
  refine kk _ (fun n x h1 h2 => ?_) ?_ (fun x x0 x1 => ?_) (fun x x0 x1 => ?_)
  · by_cases z : n = [17]
    · rw [z, up2_self, upI_ne _ _ (h2.elim (fun y => absurd z y) id), upN_ne _ _ n1, upN_ne _ _ n1]
    · rw [up2_ne z, upN_ne _ _ h1, upN_ne _ _ h1]
  · rw [up2_self, upI_self]
  · rw [up2_ne (Ne.symm n1), upN_self]
    unfold cpyI
    rw [if_neg (by omega), upN_self, if_pos (by omega), show 0 + (x - 0) = x by omega]
    exact hV.2.2 j x hj.1 hj.2 x0 (by omega)
  · rw [up2_ne (Ne.symm n1), upN_self]
    unfold cpyI
    rw [if_pos (by omega), upN_ne _ _ n2, show 0 + (x - k) = x - k by omega]
theorem getD_app {js : List Nat} {j r : Nat} (h : r < js.length) : (js ++ [j]).getD r 0 = js.getD r 0 := by
  rw [List.getD_eq_getElem?_getD, List.getD_eq_getElem?_getD, List.getElem?_append_left h]
theorem getD_end {js : List Nat} {j : Nat} : (js ++ [j]).getD js.length 0 = j := by simp
theorem sysA_e {J : Int → Int → Int} {s k r c : Int} {js : List Nat} (h : r < js.length) : sysA J s k js r c = if c < k then cfZ ((js.getD r.toNat 0 : Nat) : Int) c else J 27 (30 * (12 * s + ((js.getD r.toNat 0 : Nat) : Int)) + (c - k)) := if_pos h
set_option maxHeartbeats 2000000 in
theorem y_solve {d : Nat} {K : Kt} {X : Xt} {J : Int → Int → Int} {E : Nm → Int → Int} {ty : Nm → Nat} {ln : Nm → Int} {I : Nm → Int → Int} {R : Nm → Int → Option Nm} {c w : Nat} {a s : Int} {t : Nm} (h : RC J E ty ln I R) (hG : GI J) (hV : VI J) (hpv : PVok) (hs : sgJ J a s) (hc : J (-1) 2 ≤ cntR J (40 * a + s) (J (-1) 3).toNat) (t1 : ty t = 1) (t2 : ln t = 60) (t3 : wr t = true) (t4 : hd t ≠ 17)
    (kk : ∀ I' : Nm → Int → Int, (∀ n x, (∀ r, n ≠ [17, 2, r]) → (n ≠ [17] ∨ x ≠ 6) → (n ≠ t ∨ x < 0 ∨ 60 ≤ x) → I' n x = I n x) → (∀ x : Int, 0 ≤ x → x < 60 → I' t x = solJ J (40 * a + s) 33 x) → K none (ty, ln, I', R, c, w)) :
    Mth (d + 4) M_FB_solve [vR (some [1]), vR (some [4, a, 8, s]), vR (some t)] (ty, ln, I, R, c, w) K X := by
  have ha := hs.1
  obtain ⟨g0, ⟨gr0, gt0, gl0⟩, ⟨gr1, gt1, gl1⟩, ⟨gr2, gt2, gl2⟩, gp⟩ := h.sg a s hs
  obtain ⟨f1, fr0, fr1, fr2, fr3, fr4, fr5, ⟨ft0, fl0⟩, ⟨ft3, fl3⟩, ⟨ft4, fl4⟩, ⟨ft5, fl5⟩, ft16, fr160, fr161, ⟨ft160, fl160⟩, ⟨ft161, fl161⟩⟩ := id h.g.1
  have hC := h.g.2.1
  have hCV := h.g.2.2.1
  have sc := h.g.2.2.2.2.2.2.2
  obtain ⟨k3, k4, k5⟩ := h.g.2.2.2.1
  have hk := sc.1
  obtain ⟨s1, s2, s3, s4, s5, s6, s7, s8, s9, s10, s11, s12, s13⟩ := id hC
  have key : ∀ q i : Nat, i + q = (J (-1) 3).toNat → ∀ I1 : Nm → Int → Int, (∀ n x, (∀ r, n ≠ [17, 2, r]) → (n ≠ [17] ∨ x ≠ 6) → I1 n x = I n x) → I1 [17] 6 = ((selJ J (40 * a + s) (J (-1) 2).toNat i).length : Int) → (∀ r c : Int, 0 ≤ r → r < (selJ J (40 * a + s) (J (-1) 2).toNat i).length → 0 ≤ c → c < J (-1) 2 + 60 / J (-1) 2 → I1 [17, 2, r] c = sysA J (40 * a + s) (J (-1) 2) (selJ J (40 * a + s) (J (-1) 2).toNat i) r c) → Rn (d + 3) M_FB_solve K X 9 [vR (some [1]), vR (some [4, a, 8, s]), vR (some t), vI (i : Int)] [] (ty, ln, I1, R, c, w) := by
    intro q
    induction q with
    | zero =>
      intro i hi I1 f1' f6 fA
      have ei : i = (J (-1) 3).toNat := by omega
      subst ei
      have sl := selJ_len (J := J) (s := 40 * a + s) (K := (J (-1) 2).toNat) (J (-1) 3).toNat
      have hV1 : CV I1 := hCV.o (fun n x n1 n2 _ => f1' n x n1 (Or.inl n2))
      rw [b_FB_solve_9, ex_some, and_t g0, gr2, ex_some, and_t (Or.inl (by omega)), if_pos (by omega), and_t f1, fr1, ex_some, and_t s1]
      refine s_solveInto hC hV1 hk rfl (by rw [f1' _ _ (by simp) (Or.inr (by decide)), k3]) (by rw [f1' _ _ (by simp) (Or.inr (by decide)), k5]) (sys_g hG.1) (hpv J (40 * a + s) hG.2.1 hc) (fun r c r0 r1 c0 c1 => fA r c r0 (by omega) c0 c1) t1 t2 t3 t4 (fun I' e1 e2 => ?_)
      show Rn (d + 3) M_FB_solve K X 62 _ [] _
      rw [b_FB_solve_62]
      exact kk I' (fun n x n1 n2 n3 => (e1 n x n1 n3).trans (f1' n x n1 n2)) (fun x x0 x1 => by rw [e2 x x0 x1, solJ_33 ⟨x0, x1⟩]; rfl)
    | succ q ih =>
      intro i hi I1 f1' f6 fA
      have ih' := ih (i + 1) (by omega)
      obtain ⟨pr, pt, ⟨pr0, pt0, pl0⟩, -⟩ := gp i (by omega) (by omega)
      have hp : piJ J a s i := ⟨hs, by omega, by omega, by omega⟩
      have h1 : RC J E ty ln I1 R := h.scr (fun n x _ _ _ n1 n2 => f1' n x n1 n2)
      have sl := selJ_len (J := J) (s := 40 * a + s) (K := (J (-1) 2).toNat) i
      have e3 : I1 [17] 3 = J (-1) 2 := by rw [f1' _ _ (by simp) (Or.inr (by decide)), k3]
      have e5 : I1 [17] 5 = 60 / J (-1) 2 := by rw [f1' _ _ (by simp) (Or.inr (by decide)), k5]
      have hV1 : CV I1 := hCV.o (fun n x n1 n2 _ => f1' n x n1 (Or.inl n2))
      rw [b_FB_solve_9, ex_some, and_t g0, gr2, ex_some, and_t (Or.inl (by omega)), if_neg (by omega), ex_some, and_t g0, gr2, ex_some, and_t ⟨⟨by omega, by omega⟩, by omega, by omega⟩, and_t f1, pr, y_isReachable h1 hp (hV.pb hG.1 _ (by omega) (by omega))]
      show Rn (d + 3) M_FB_solve K X 28 _ [vI _] _
      rw [b_FB_solve_28]
      by_cases c1 : isR J (12 * (40 * a + s) + i)
      · rw [if_neg (by rw [if_pos c1]; decide), and_t f1, ex_some, and_t g0, gr2, ex_some, and_t ⟨⟨by omega, by omega⟩, by omega, by omega⟩, pr, ex_some, and_t pt, fr1, ex_some, and_t s1, pr0]
        by_cases c2 : (selJ J (40 * a + s) (J (-1) 2).toNat i).length < (J (-1) 2).toNat
        · have es : selJ J (40 * a + s) (J (-1) 2).toNat (i + 1) = selJ J (40 * a + s) (J (-1) 2).toNat i ++ [i] := if_pos ⟨c2, c1⟩
          refine s_take hC hV1 hk rfl e3 e5 f6 ⟨by omega, by omega⟩ ⟨by omega, by omega⟩ pt0 (by omega) (by show (4 : Int) ≠ 17; decide) (fun I' g1 g2 g3 g4 => ?_)
          show Rn (d + 3) M_FB_solve K X 48 _ [] _
          rw [b_FB_solve_48, w32_id (by omega) (by omega)]
          refine ih' I' (fun n x n1 n2 => (g1 n x (n1 _) n2).trans (f1' n x n1 n2)) ?_ ?_
          · rw [g2, es, List.length_append, List.length_singleton]; omega
          · intro r c r0 r1 c0 c1'
            rw [es]
            rw [es, List.length_append, List.length_singleton] at r1
            by_cases z : r = ((selJ J (40 * a + s) (J (-1) 2).toNat i).length : Int)
            · rw [z]
              unfold sysA
              rw [if_pos (by rw [List.length_append, List.length_singleton]; omega), Int.toNat_natCast, getD_end]
              by_cases y : c < J (-1) 2
              · rw [if_pos y]
                exact g3 c c0 y
              · rw [if_neg y, g4 c (by omega) c1', f1' _ _ (by simp) (Or.inl (by simp))]
                exact h.ri _ _ _ _ (l27 ⟨hp, by omega, by have := lK hk; omega, by omega⟩)
            · rw [g1 _ _ (fun e => z (by simpa using e)) (Or.inl (by simp)), fA r c r0 (by omega) c0 c1']
              rw [sysA_e (by omega), sysA_e (by rw [List.length_append, List.length_singleton]; omega), getD_app (by omega)]
        · have es : selJ J (40 * a + s) (J (-1) 2).toNat (i + 1) = selJ J (40 * a + s) (J (-1) 2).toNat i := if_neg (fun z => c2 z.1)
          rw [s_take0 hC hV1 hk rfl e3 e5 f6 (by omega)]
          show Rn (d + 3) M_FB_solve K X 48 _ [] _
          rw [b_FB_solve_48, w32_id (by omega) (by omega)]
          rw [es] at ih'
          exact ih' I1 f1' f6 fA
      · have es : selJ J (40 * a + s) (J (-1) 2).toNat (i + 1) = selJ J (40 * a + s) (J (-1) 2).toNat i := if_neg (fun z => c1 z.2)
        rw [if_pos (by rw [if_neg c1]), b_FB_solve_48, w32_id (by omega) (by omega)]
        rw [es] at ih'
        exact ih' I1 f1' f6 fA
  rw [in_FB_solve, b_FB_solve_0, and_t f1, fr1, ex_some, and_t s1, in_Coder_beginSolving, b_Coder_beginSolving_0, and_t ⟨s1, rfl⟩]
  show Rn (d + 3) M_FB_solve K X 7 _ [] _
  rw [b_FB_solve_7]
  refine key (J (-1) 3).toNat 0 (Nat.zero_add _) _ (fun n x n1 n2 => ?_) ?_ (fun r c r0 r1 => absurd r1 (by show ¬ r < ((0 : Nat) : Int); omega))
  · by_cases z : n = [17]
    · rw [z, up2_self, upI_ne _ _ (n2.elim (fun y => absurd z y) id)]
    · rw [up2_ne z]
  · rw [up2_self, upI_self]; rfl
