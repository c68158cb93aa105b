/-! ===== the class seals ===== -/
theorem SNN.j {J J' : Int → Int → Int} {E : Nm → Int → Int} {ty : Nm → Nat} {ln : Nm → Int} {R : Nm → Int → Option Nm} {a n : Int} {L : List Ck} {m : Nm} (h : SNN J E ty ln R a L n m) (e1 : slotJ J' a n = slotJ J a n) (e2 : ∀ k x, k = 17 ∨ k = 18 ∨ k = 19 → J' k x = J k x) : SNN J' E ty ln R a L n m := by
  obtain ⟨s1, s2, s3, mc, st, hf, a1, b1, d1, s4⟩ := h
  have al : ∀ s t, alJ J' s t = alJ J s t := fun s t => alJ_c t (fun x _ => e2 17 _ (by decide))
  refine ⟨s1, s2, by rw [e1]; exact s3, mc, st, hf, a1, b1, d1, fun hs => ?_⟩
  rw [e1] at hs ⊢
  obtain ⟨g1, g2, g3, g4⟩ := s4 hs
  exact ⟨by rw [al]; exact g1, fun t ht => by rw [al]; exact g2 t ht, fun t ht => by rw [e2 17 _ (by decide)]; exact g3 t ht, fun i hi => by rw [al] at hi; rw [e2 18 _ (by decide), e2 19 _ (by decide)]; exact g4 i hi⟩
/-- the words of the house's slots behind a seal that failed -/
theorem QRs.jb {J0 J1 J' : Int → Int → Int} {a sl b : Int} {ks : Nat} {Nw : List Ck} (h : QRs J0 J1 a sl Nw) (hks : sl = 6 * a + ks ∧ ks < 6) (hf : J0 16 sl < 0) (ha : 0 ≤ a ∧ a ≤ 9) (hb : 0 ≤ b ∧ b ≤ 9) (h20 : J0 20 b ≤ 40) (h20a : 0 ≤ J0 20 a) (e : ∀ k x, k = 15 ∨ k = 16 ∨ k = 17 ∨ k = 18 ∨ k = 19 ∨ k = 23 → J' k x = J1 k x) (e20 : J' 20 b = J0 20 b) : JB J0 J' b := by
  obtain ⟨⟨q1, q2⟩, q3, q4, q5, q6, q7, q8, q9, q10, q11⟩ := h
  have e16 : ∀ x, J' 16 x = J0 16 x := fun x => by rw [e 16 _ (by decide)]; exact q1 16 _ (by decide) (by decide) (by decide) (by decide) (by decide) (by decide) (by decide) (by decide)
  refine ⟨by rw [e 15 _ (by decide)]; exact q1 15 _ (by decide) (by decide) (by decide) (by decide) (by decide) (by decide) (by decide) (by decide), e20, fun x _ _ => e16 x, fun k t hk hl ht => ?_, fun k x hk hl h1 h2 => ?_, fun x x0 x1 => ?_⟩
  · rw [e 17 _ (by decide)]
    refine q3 _ ?_
    by_cases z : b = a ∧ k = ks
    · obtain ⟨rfl, rfl⟩ := z
      rw [← hks.1] at hl; omega
    · omega
  · rw [e 18 _ (by decide), e 19 _ (by decide)]
    refine q4 _ ?_
    by_cases z : b = a ∧ k = ks
    · obtain ⟨rfl, rfl⟩ := z
      rw [← hks.1] at hl; omega
    · omega
  · rw [e 23 _ (by decide)]
    refine q7 _ ?_
    by_cases z : b = a
    · subst z; omega
    · omega
theorem LK.y {J : Int → Int → Int} {n : Nm} {x k y : Int} (h : LK J n x k y) : (k = 21 ∨ k = 22 → ∃ a s, sgJ J a s ∧ y = 40 * a + s) ∧ (k = 23 ∨ k = 24 → ∃ a s, sgJ J a s ∧ 60 * (40 * a + s) ≤ y ∧ y < 60 * (40 * a + s) + 60) := by
  unfold LK at h
  rcases h with ⟨a, h1, rfl, h3, h4⟩ | ⟨a, b, h1, rfl, h3, h4, h5, h6⟩ | ⟨a, t, h1, rfl, h3, h4, h5, h6⟩ | ⟨a, s, h1, rfl, h3, h4⟩ | ⟨a, s, b, h1, rfl, h3, h4, h5, h6⟩ | ⟨a, s, j, h1, rfl, h3, h4⟩ | ⟨a, s, j, h1, rfl, h3, h4, h5⟩ | ⟨a, s, j, h1, rfl, h3, h4, h5⟩
  · exact ⟨fun z => by omega, fun z => by omega⟩
  · exact ⟨fun z => by omega, fun z => by omega⟩
  · exact ⟨fun z => by omega, fun z => by omega⟩
  · exact ⟨fun _ => ⟨a, s, h1, h3⟩, fun z => by omega⟩
  · exact ⟨fun z => by omega, fun _ => ⟨a, s, h1, by omega, by omega⟩⟩
  · exact ⟨fun z => by omega, fun z => by omega⟩
  · exact ⟨fun z => by omega, fun z => by omega⟩
  · exact ⟨fun z => by omega, fun z => by omega⟩
theorem slJ_ne {J J' : Int → Int → Int} {b m : Int} : ∀ n : Nat, (∀ k : Nat, k < n → (J' 16 (6 * b + k) = m ↔ J 16 (6 * b + k) = m)) → slJ J' b m n = slJ J b m n
  | 0, _ => rfl
  | n + 1, h => by
    have e := h n (by omega)
    have ih := slJ_ne n (fun k hk => h k (by omega))
    by_cases q : J 16 (6 * b + n) = m
    · rw [show slJ J' b m (n + 1) = 6 * b + n from if_pos (e.mpr q), show slJ J b m (n + 1) = 6 * b + n from if_pos q]
    · rw [show slJ J' b m (n + 1) = slJ J' b m n from if_neg (fun z => q (e.mp z)), show slJ J b m (n + 1) = slJ J b m n from if_neg q, ih]
theorem opN_20o {J : Int → Int → Int} {a x : Int} (h : x ≠ a) : ∀ n : Nat, opN J a n 20 x = J 20 x
  | 0 => rfl
  | n + 1 => by
    show opS (opN J a n) a 20 x = _
    rw [opS_20, if_neg h, opN_20o h n]
set_option maxHeartbeats 8000000 in
theorem z_seal {d : Nat} {K : Kt} {X : Xt} {J : Int → Int → Int} {ty : Nm → Nat} {ln : Nm → Int} {I : Nm → Int → Int} {R : Nm → Int → Option Nm} {c w : Nat} {a : Int} (h : RC J I ty ln I R) (hR : MR J) (hP : PL J) (hA : RLs J I ty ln R) (h00 : J (-1) 0 = 0) (ha : hsJ J a) (hU : ∀ s, J 20 a ≤ s → s < 40 → UNs J a s) (f9 : FR9 ty c) (hf8 : ∀ s t, J 20 a ≤ s → ty (4 :: a :: 8 :: s :: t) = 0) (hT : rmA J a 10 ≤ 140) (hc : 2200 ≤ c) (hw : 200000 ≤ w)
    (k0 : J 7 a = 0 → ∀ (ty' : Nm → Nat) (ln' : Nm → Int) (I' : Nm → Int → Int) (R' : Nm → Int → Option Nm) (c' w' : Nat), RC (slS J a).2 I' ty' ln' I' R' → RLs (slS J a).2 I' ty' ln' R' → FR9 ty' c' → (∀ n, ty n ≠ 0 → ty' n = ty n ∧ ln' n = ln n) → (∀ n, ty n = 0 → ¬ n12 a n → (∀ s t, s < (slS J a).2 20 a → n ≠ 4 :: a :: 8 :: s :: t) → ty' n = 0) → (∀ n x, fxh n → I' n x = I n x) → (∀ n x, fxS a n → ty n ≠ 0 → R' n x = R n x) → (c ≤ c' + (3 * rmA J a 10 + 41 * ((slS J a).2 20 a - J 20 a) + 5).toNat ∧ (w : Int) + 4 * (ln (la R a 7) + ln (la R a 8) + ln (la R a 9)) ≤ w' + 4 * (ln' (la R' a 7) + ln' (la R' a 8) + ln' (la R' a 9)) + 64 * rmA J a 10 + 706 * ((slS J a).2 20 a - J 20 a) + 604) → K (some (vI (slS J a).1)) (ty', ln', I', R', c', w'))
    (k2 : J 7 a ≠ 0 → (1 ≤ c ∧ 6 ≤ w) ∧ X 2 (ty, ln, I, R, c - 1, w - 6)) :
    Mth (d + 10) M_FB_seal [vR (some [1]), vI a] (ty, ln, I, R, c, w) K X := by
  obtain ⟨f1, fr0, fr1, fr2, fr3, fr4, fr5, ⟨ft0, fl0⟩, ⟨ft3, fl3⟩, ⟨ft4, fl4⟩, ⟨ft5, fl5⟩, ft16, fr160, fr161, ⟨ft160, fl160⟩, ⟨ft161, fl161⟩⟩ := id h.g.1
  obtain ⟨t0, ⟨r2, t2, ll2⟩, ⟨r3, t3, ll3⟩, ⟨r4, t4, ll4⟩, ⟨r5, t5, ll5⟩, rw5, ⟨r6, t6, ll6⟩, ⟨r7, t7⟩, ⟨r8, t8⟩, ⟨r9, t9⟩⟩ := h.hs a ha
  obtain ⟨L0, hL⟩ := hA a ha
  obtain ⟨hY, h7⟩ := hL.y
  have hCK := hL.2.2.1
  have hCV := hL.2.2.2.1
  obtain ⟨y1, y2, y3, y4, y5, y6, y7, ⟨y8, y9⟩, y10⟩ := id hY
  have b7 := h.ri _ _ _ _ (l7 ha)
  have b15 := hR.k15 a
  have a0 := ha.1
  have cb := cn3_b (J := J) (b := a) 6
  have eu : uJ J (-1) 0 0 = J := uJ_same h00.symm
  have rm0 := rmA_0 (a := a) hR 10
  rw [in_FB_seal, b_FB_seal_0, and_t f1, x_houseOf_yes h.g ha]
  show Rn (d + 9) M_FB_seal K X 5 _ [vR (some [4, a])] _
  rw [b_FB_seal_5, ex_some, and_t t0, b7]
  by_cases q7 : J 7 a = 0
  case neg =>
    rw [if_pos q7, b_FB_seal_18, x_rS rfl]
    exact k2 q7
  rw [if_neg (fun z => z q7), b_FB_seal_18, x_rS1 (by decide)]
  show Rn (d + 9) M_FB_seal K X 21 _ [] _
  rw [b_FB_seal_21, ex_some, and_t t0, r9, ex_some, and_t t9, s_AL_size2 y1]
  show Rn (d + 9) M_FB_seal K X 28 _ [vI (J 15 a)] _
  rw [b_FB_seal_28, ex_some, and_t t0, y4]
  have k0' := k0 q7
  -- no room: nothing changes
  have no : (frJ J a 6 < 0 ∨ J 15 a = 30) → Rn (d + 9) M_FB_seal K X 44 [vR (some [1]), vI a, vR (some [4, a]), vI (J 15 a), vJ] [] (ty, ln, I, R, c, w) := fun z => by
    have es : slS J a = (-1, J) := by unfold slS; rw [if_pos z, eu]
    rw [es] at k0'
    rw [b_FB_seal_44]
    exact k0' ty ln I R c w h hA f9 (fun _ _ => ⟨rfl, rfl⟩) (fun _ hz _ _ => hz) (fun _ _ _ => rfl) (fun _ _ _ _ => rfl) ⟨by show c ≤ c + (3 * rmA J a 10 + 41 * (J 20 a - J 20 a) + 5).toNat; omega, by show _ ≤ _ + _ + 64 * rmA J a 10 + 706 * (J 20 a - J 20 a) + 604; omega⟩ 
  by_cases q6 : cn3 J a 6 = 6
  case pos =>
    rw [if_pos q6]
    refine no (Or.inl ?_)
    rcases frJ_k (J := J) (a := a) 6 (Nat.le_refl _) with ⟨z, _⟩ | ⟨i, hi, _, z⟩
    · omega
    · have := (cn3_6 (J := J) (a := a) 6).mp q6 i hi
      omega
  rw [if_neg q6]
  by_cases q15 : J 15 a < 30
  case neg =>
    rw [if_neg q15]
    exact no (Or.inr (by omega))
  rw [if_pos q15, ex_some, and_t t0, r7, ex_some, and_t t7, s_AL_size2 h7.1]
  show Rn (d + 9) M_FB_seal K X 53 _ [vI (L0.length : Int)] _
  obtain ⟨ks, hks6, efr, h16⟩ : ∃ i : Nat, i < 6 ∧ frJ J a 6 = 6 * a + i ∧ J 16 (6 * a + i) < 0 := by
    rcases frJ_k (J := J) (a := a) 6 (Nat.le_refl _) with ⟨_, z⟩ | z
    · exact absurd ((cn3_6 (J := J) (a := a) 6).mpr (fun i hi => z i (by omega) hi)) q6
    · exact z
  obtain ⟨sl, esl⟩ : ∃ sl, sl = frJ J a 6 := ⟨_, rfl⟩
  have hks : sl = 6 * a + ks ∧ ks < 6 := ⟨esl.trans efr, hks6⟩
  have hf16 : J 16 sl < 0 := by rw [hks.1]; exact h16
  have es : slS J a = if (tgL (wJ (uJ J (-1) 30 60) 17 (10 * sl) (10 * sl + 10) (fun _ => -1)) a sl 10).1 = 0 then (-1, uJ (tgL (wJ (uJ J (-1) 30 60) 17 (10 * sl) (10 * sl + 10) (fun _ => -1)) a sl 10).2.2 20 a (J 20 a)) else (J 15 a, sdJ (tgL (wJ (uJ J (-1) 30 60) 17 (10 * sl) (10 * sl + 10) (fun _ => -1)) a sl 10).2.2 a sl (J 20 a)) := by
    unfold slS
    rw [← esl, eu, if_neg (by omega)]
  have ca7 := h7.1.2.2.2.1
  have ca8 := y7.2.2.2.1
  have ca9 := y1.2.2.2.1
  have hMS : MS J a L0 ty ln I R c := ⟨h, fun b hb hb' => hA b hb', hY, hCK, hCV, f9⟩
  rw [b_FB_seal_53, and_t f1, fr2, ex_some, and_t ft16]
  refine y_lay (sl := sl) (C0 := (c : Int) - 3 * rmA J a 10) (W0 := (w : Int) + 4 * ln (la R a 7) - 64 * rmA J a 10) hMS h7 hR hP ha hks hf16 (by omega) (by omega) (by omega) (by omega) ?_ ?_
  · -- the segments do not suffice
    intro hz ty1 ln1 I1 R1 c1 w1 Nw hFM hS1 h71 hQ hty hc1 hw1
    rw [if_pos hz] at es
    rw [es] at k0'
    obtain ⟨m1, m2, mY, m4, m5, m6⟩ := id hS1
    obtain ⟨tt0, -⟩ := m1.hs a ha
    show Rn (d + 9) M_FB_seal K X 63 _ [vI 0] _
    rw [b_FB_seal_63, if_neg (fun z => z rfl), ex_some, and_t tt0]
    have la1 : ∀ k, k = 8 ∨ k = 9 → la R1 a k = la R a k := fun k hk => by
      unfold la
      have t' : ty [4, a, k] ≠ 0 := by rcases hk with rfl | rfl <;> omega
      rw [hFM.2.2.2 _ _ (hk.elim (fun e => Or.inr (Or.inl (by rw [e]))) (fun e => Or.inr (Or.inr (by rw [e])))) t']
    have ln1' : ∀ k, k = 8 ∨ k = 9 → ln1 (la R a k) = ln (la R a k) := fun k hk => by
      have : ty (la R a k) ≠ 0 := by
        rcases hk with rfl | rfl
        · exact rw12_ty (a := a) y7
        · exact rw12_ty (a := a) y1
      exact (hFM.1 _ this).2
    refine y_dropChunksFrom hR ha I1 R1 (fun I2 R2 hla hFM2 hS2 h72 => ?_) Nw I1 R1 (fun _ => rfl) FRM.refl hS1 h71 hty
    show Rn (d + 9) M_FB_seal K X 72 _ [] _
    rw [b_FB_seal_72]
    obtain ⟨J1, eJ1⟩ : ∃ J1, J1 = (tgL (wJ (uJ J (-1) 30 60) 17 (10 * sl) (10 * sl + 10) (fun _ => -1)) a sl 10).2.2 := ⟨_, rfl⟩
    rw [← eJ1] at k0' hQ
    obtain ⟨⟨q1, q2⟩, q3, q4, q5, q6', q7', q8, q9, q10, q11⟩ := id hQ
    obtain ⟨n1, n2, nY, n4, n5, n6⟩ := id hS2
    have hF := hFM.trans hFM2
    have j20 : ∀ x, uJ J1 20 a (J 20 a) 20 x = J 20 x := fun x => by
      rw [uJ_self]
      by_cases z : x = a
      · rw [z, upI_self]
      · rw [upI_ne _ _ z]; exact q5 x z
    have jo : ∀ k x, k ≠ 20 → uJ J1 20 a (J 20 a) k x = J1 k x := fun k x hk => by rw [uJ_ne hk]
    have b20 := hR.k20 a
    have hRC : RC (uJ J1 20 a (J 20 a)) I2 ty1 ln1 I2 R2 := n1.eqv (fun k x hk => by
        by_cases z : k = 20
        · rw [z]; exact j20 x
        · rw [jo k x z]; exact q1 k x (by omega) (by omega) (by omega) (by omega) z (by omega) (by omega) (by omega)) (fun x _ x3 => by rw [jo _ _ (by decide)]; exact q2 x x3) (fun n x k y hl => by
        have kr := hl.kr
        rw [jo k y (by omega)]
        by_cases z : k = 21 ∨ k = 22
        · obtain ⟨b, s, hs, ey⟩ := hl.y.1 z
          have := q6' y (by
            by_cases u : b = a
            · subst u; have := hs.2; omega
            · have := hs.2; have := hs.1.1; omega)
          rcases z with z | z
          · rw [z]; exact this.1
          · rw [z]; exact this.2
        · by_cases z2 : k = 23
          · obtain ⟨b, s, hs, ey⟩ := hl.y.2 (Or.inl z2)
            rw [z2]
            refine q7' y ?_
            by_cases u : b = a
            · subst u; have := hs.2; omega
            · have := hs.2; have := hs.1.1; omega
          · exact q1 k y (by omega) (by omega) (by omega) (by omega) (by omega) (by omega) (by omega) z2)
    have hsb : ∀ b, hsJ (uJ J1 20 a (J 20 a)) b → hsJ J b := fun b hb => by
      unfold hsJ at hb ⊢
      rw [jo 5 _ (by decide), q1 5 _ (by decide) (by decide) (by decide) (by decide) (by decide) (by decide) (by decide) (by decide)] at hb; exact hb
    have hLa : HLL J I2 ty1 ln1 R2 a L0 := HLL.of nY h72 n4 n5
    have hRL : RLs (uJ J1 20 a (J 20 a)) I2 ty1 ln1 R2 := fun b hb => by
      have hb' := hsb b hb
      obtain ⟨Lb, hLb⟩ : ∃ L, HLL J I2 ty1 ln1 R2 b L := by
        by_cases z : b = a
        · subst z; exact ⟨L0, hLa⟩
        · exact n2 b z hb'
      have := hR.k20 b
      exact ⟨Lb, hLb.cg ⟨fun _ _ => ⟨rfl, rfl⟩, fun _ _ _ _ _ => rfl, fun _ _ _ _ => rfl⟩ (hQ.jb hks hf16 a0 hb'.1 this.2 b20.1 (fun k x hk => jo k x (by omega)) (j20 b)) hb'.1.1 (fun s s0 s1 => by rw [(n1.sg b s ⟨hb', s0, by omega, s1⟩).1]; decide) (by rw [(n1.hs b hb').1]; decide) hR⟩
    refine k0' ty1 ln1 I2 R2 c1 w1 hRC hRL n6 hF.1 (fun n hn h12 _ => hF.2.1 n hn h12) hF.2.2.1 (fun n x hx hn => hF.2.2.2 n x (Or.inl hx) hn) ⟨?_, ?_⟩
    · show c ≤ c1 + (3 * rmA J a 10 + 41 * (uJ J1 20 a (J 20 a) 20 a - J 20 a) + 5).toNat
      rw [j20]; omega
    · show _ ≤ _ + _ + 64 * rmA J a 10 + 706 * (uJ J1 20 a (J 20 a) 20 a - J 20 a) + 604
      rw [j20, hla 7, hla 8, hla 9, la1 8 (Or.inl rfl), la1 9 (Or.inr rfl), ln1' 8 (Or.inl rfl), ln1' 9 (Or.inr rfl)]; omega
  · -- sealed
    intro hz hln hhf ty1 ln1 I1 R1 c1 w1 Nw hFM hM hc1 hw1 hst
    rw [if_neg (by omega)] at es
    rw [es] at k0'
    have hSIs : SI (wJ (uJ J (-1) 30 60) 17 (10 * sl) (10 * sl + 10) (fun _ => -1)) a := by
      refine ⟨(hR.u (Or.inl rfl)).w (fun _ _ _ => ⟨by decide, by decide⟩), fun x => by rw [wJ_ne (by decide), uJ_ne (by decide), wJ_ne (by decide), uJ_ne (by decide)]; exact hP x, by rw [wJ_ne (by decide), uJ_self, upI_self]; omega, Or.inl (by rw [wJ_ne (by decide), uJ_self, upI_self])⟩
    have tgi := tgL_i (a := a) (sl := sl) hSIs a0 10 (Nat.le_refl _)
    obtain ⟨J1, eJ1⟩ : ∃ J1, J1 = (tgL (wJ (uJ J (-1) 30 60) 17 (10 * sl) (10 * sl + 10) (fun _ => -1)) a sl 10).2.2 := ⟨_, rfl⟩
    rw [← eJ1] at k0' hM hln hhf hst tgi
    have hR1 : MR J1 := tgi.2.1.1
    obtain ⟨hS1, h71, hN1, hV1, hQ, hD⟩ := id hM
    obtain ⟨⟨q1, q2⟩, q3, q4, q5, q6', q7', q8, q9, q10, q11⟩ := id hQ
    obtain ⟨d1, d2, d3, d4⟩ := id hD
    obtain ⟨m1, m2, mY, m4, m5, m6⟩ := id hS1
    obtain ⟨z1, z2, z3, z4, z5, z6, z7, ⟨z8, z9⟩, z10⟩ := id mY
    have b20 := hR.k20 a
    have b201 := hR1.k20 a
    have h17 : ∀ x, J 17 x ≤ 50 := fun x => (hR.k17 x).2
    have h171 : ∀ x, J1 17 x ≤ 50 := fun x => (hR1.k17 x).2
    obtain ⟨n, en⟩ : ∃ n : Nat, J1 20 a = J 20 a + n := ⟨(J1 20 a - J 20 a).toNat, by omega⟩
    obtain ⟨tt0, -, -, -, -, -, ⟨rr6, tt6, ll6'⟩, ⟨rr7, tt7⟩, ⟨rr8, tt8⟩, ⟨rr9, tt9⟩⟩ := m1.hs a ha
    obtain ⟨g1', gr0, gr1, gr2, gr3, gr4, gr5, -, -, -, -, gt16, gr160, gr161, gt160, gt161⟩ := id m1.g.1
    have la1 : ∀ k, k = 8 ∨ k = 9 → la R1 a k = la R a k := fun k hk => by
      unfold la
      have t' : ty [4, a, k] ≠ 0 := by rcases hk with rfl | rfl <;> omega
      rw [hFM.2.2.2 _ _ (hk.elim (fun e => Or.inr (Or.inl (by rw [e]))) (fun e => Or.inr (Or.inr (by rw [e])))) t']
    have ln1' : ∀ k, k = 8 ∨ k = 9 → ln1 (la R a k) = ln (la R a k) := fun k hk => by
      have : ty (la R a k) ≠ 0 := by
        rcases hk with rfl | rfl
        · exact rw12_ty (a := a) y7
        · exact rw12_ty (a := a) y1
      exact (hFM.1 _ this).2
    have ca71 := h71.1.2.2.2.1
    have ca81 := z7.2.2.2.1
    have al9 : alJ J1 sl 10 ≤ 500 := by have := alJ_50 (J := J1) (sl := sl) h171 10; omega
    have al0 := alJ_0 (J := J1) (sl := sl) 10
    show Rn (d + 9) M_FB_seal K X 63 _ [vI 1] _
    rw [b_FB_seal_63, if_pos (by decide), and_t g1', gr2, ex_some, and_t gt16, and_t g1', ex_some, and_t tt0, d2, w32_id (by omega) (by omega), gr1, show J1 20 a - 1 + 1 = J 20 a + n by omega]
    refine y_addSegments (LL := L0 ++ Nw) hS1 h71 hR ha (by omega) hU (fun s t hs => hFM.2.1 _ (hf8 s t hs) (fun ⟨q, hq⟩ => by simp at hq)) (by omega) (by omega) (fun ty2 ln2 I2 R2 c2 w2 hS2 h72 t12 i12 r12 f2 f2b b2 la2 => ?_)
    show Rn (d + 9) M_FB_seal K X 91 _ [] _
    obtain ⟨Jx, eJx⟩ : ∃ Jx, Jx = opN J a n := ⟨_, rfl⟩
    rw [← eJx] at hS2
    have hRx : MR Jx := by rw [eJx]; exact opN_r hR n (by omega)
    have hax : hsJ Jx a := by rw [eJx]; exact hsJ_c ha (opN_o (by decide) n)
    have ex20 : Jx 20 a = J1 20 a := by rw [eJx, opN_20]; omega
    have t1n : ∀ {x}, ty1 x ≠ 0 → ty2 x ≠ 0 := fun hx => by rw [(t12 _ hx).1]; exact hx
    have hN2 : ∀ e ∈ Nw, CKN J1 I2 ty2 ln2 R2 a e ∧ I2 e.1 3 = 0 := fun e he => by
      obtain ⟨u, v⟩ := hN1 e he
      have u3 := u.2.2.1
      have u1 := u.1
      exact ⟨u.cg ⟨t12, fun x y hx hz _ => i12 x y (Or.inl hz) (n12_4 hx), fun x y hx hz h8 => r12 x y hz (n12_4 hx) (Or.inl h8)⟩ (fun _ _ _ => rfl), by rw [i12 _ _ (Or.inl (by omega)) (n12_4 u1)]; exact v⟩
    have tt02 : ty2 [4, a] = 105 := by rw [(t12 _ (by omega)).1]; exact tt0
    rw [b_FB_seal_91, ex_some, and_t tt02]
    refine y_fillSegments (J1 := J1) hS2 h72 hRx hR1 hax hN2 (fun e he => by rw [ex20]; exact hV1.2.1 e (List.mem_append.mpr (Or.inr he))) (fun e he f hf => by have := m5.2.1 f hf; have := q10 e he; omega) (fun I3 hT3 io3 => ?_)
    show Rn (d + 9) M_FB_seal K X 97 _ [] _
    obtain ⟨Jf, eJf⟩ : ∃ Jf, Jf = flL (J1 23) Jx Nw := ⟨_, rfl⟩
    rw [← eJf] at hT3
    obtain ⟨n1, n2, nY, n4, n5, n6⟩ := id hT3
    obtain ⟨v1, v2, v3, v4, v5, v6, v7, ⟨v8, v9⟩, v10⟩ := id nY
    have ca82 := v7.2.2.2.1
    -- cells of before, through the segments
    have i13 : ∀ x y, ty1 x ≠ 0 → x ≠ [4, a, 8] → (∀ s t, x ≠ 4 :: a :: 8 :: s :: t) → I3 x y = I1 x y := fun x y h1 h2 h3 => by rw [io3 x y h3]; exact i12 x y (Or.inl h1) h2
    have c2b : (2000 : Int) ≤ c2 + 41 * n + 400 := by omega
    obtain ⟨ns, ens⟩ : ∃ ns : Nm, ns = [12, a, (c2 : Int)] := ⟨_, rfl⟩
    obtain ⟨hf, ehf⟩ : ∃ hf : Nm, hf = [12, a, (c2 : Int) - 1] := ⟨_, rfl⟩
    obtain ⟨mc, emc⟩ : ∃ mc : Nm, mc = [12, a, (c2 : Int) - 2] := ⟨_, rfl⟩
    obtain ⟨st, est⟩ : ∃ st : Nm, st = [12, a, (c2 : Int) - 3] := ⟨_, rfl⟩
    obtain ⟨nn, enn⟩ : ∃ nn : Nm, nn = [12, a, (c2 : Int) - 4] := ⟨_, rfl⟩
    have zs : ty2 ns = 0 := by rw [ens]; exact n6 a _ (Int.le_refl _)
    have zh : ty2 hf = 0 := by rw [ehf]; exact n6 a _ (by omega)
    have zm : ty2 mc = 0 := by rw [emc]; exact n6 a _ (by omega)
    have zt : ty2 st = 0 := by rw [est]; exact n6 a _ (by omega)
    have zn : ty2 nn = 0 := by rw [enn]; exact n6 a _ (by omega)
    have n12s : n12 a ns := ⟨_, ens⟩
    have n12h : n12 a hf := ⟨_, ehf⟩
    have n12m : n12 a mc := ⟨_, emc⟩
    have n12t : n12 a st := ⟨_, est⟩
    have n12n : n12 a nn := ⟨_, enn⟩
    have dsh : ns ≠ hf := by rw [ens, ehf]; simp <;> omega
    have dsm : ns ≠ mc := by rw [ens, emc]; simp <;> omega
    have dst : ns ≠ st := by rw [ens, est]; simp <;> omega
    have dsn : ns ≠ nn := by rw [ens, enn]; simp <;> omega
    have dhm : hf ≠ mc := by rw [ehf, emc]; simp <;> omega
    have dht : hf ≠ st := by rw [ehf, est]; simp <;> omega
    have dhn : hf ≠ nn := by rw [ehf, enn]; simp <;> omega
    have dmt : mc ≠ st := by rw [emc, est]; simp <;> omega
    have dmn : mc ≠ nn := by rw [emc, enn]; simp <;> omega
    have dtn : st ≠ nn := by rw [est, enn]; simp <;> omega
    have xx : ∀ {x}, ty2 x ≠ 0 → x ≠ ns ∧ x ≠ hf ∧ x ≠ mc ∧ x ≠ st ∧ x ≠ nn := fun {x} hx => ⟨fun e => hx (by rw [e]; exact zs), fun e => hx (by rw [e]; exact zh), fun e => hx (by rw [e]; exact zm), fun e => hx (by rw [e]; exact zt), fun e => hx (by rw [e]; exact zn)⟩
    have T2 : ∀ {x k}, ty1 x = k → k ≠ 0 → ty2 x = k := fun h1 h2 => by rw [(t12 _ (by omega)).1]; exact h1
    have x1 := xx (x := [1]) (by rw [T2 g1' (by decide)]; decide)
    have x16 := xx (x := [16]) (by rw [T2 gt16 (by decide)]; decide)
    have x160 := xx (x := [16, 0]) (by rw [T2 gt160.1 (by decide)]; decide)
    have x161 := xx (x := [16, 1]) (by rw [T2 gt161.1 (by decide)]; decide)
    have x4 := xx (x := [4, a]) (by rw [T2 tt0 (by decide)]; decide)
    have x46 := xx (x := [4, a, 6]) (by rw [T2 tt6 (by decide)]; decide)
    have r2e : ∀ x y, ty1 x ≠ 0 → x ≠ [4, a, 8] → ty1 x ≠ 8 → upN R2 ns (fun _ => none) x y = R1 x y := fun x y h1 h2 h3 => by rw [upN_ne _ _ (xx (t1n h1)).1]; exact r12 x y h1 h2 (Or.inl h3)
    have lnT : ∀ {x k v}, ty1 x = k ∧ ln1 x = v → k ≠ 0 → ty2 x = k ∧ ln2 x = v := fun h1 h2 => by rw [(t12 _ (by omega)).1, (t12 _ (by omega)).2]; exact h1
    rw [b_FB_seal_97, and_t ⟨by omega, by omega⟩]
    refine ⟨ns, zs, ?_⟩
    rw [upN_ne _ _ x1.1, and_t (T2 g1' (by decide)), r2e _ _ (by omega) (by simp) (by omega), gr2]
    have LLc : ∀ e ∈ L0 ++ Nw, ty1 e.1 = 101 ∧ n12 a e.1 ∧ (R1 e.1 0 = some e.2.1 ∧ ty1 e.2.1 = 1 ∧ ln1 e.2.1 = e.2.2.2 ∧ n12 a e.2.1) ∧ I1 e.1 1 = e.2.2.1 / 60 - 40 * a ∧ I1 e.1 2 = e.2.2.1 % 60 ∧ (∀ x, 0 ≤ x → x < e.2.2.2 → I1 e.2.1 x = J1 23 (e.2.2.1 + x)) := fun e he => by
      rcases List.mem_append.mp he with g | g
      · obtain ⟨⟨c1', c2', c3', c4', c5', c6', c7', c8', c9'⟩, -⟩ := m4 e g
        have rg := m5.2.1 e g
        exact ⟨c3', c1', ⟨c4', c5', c6', c2'⟩, c7', c8', fun x x0 x1 => by rw [c9' x x0 x1, q7' _ (Or.inl (by omega))]⟩
      · obtain ⟨⟨c1', c2', c3', c4', c5', c6', c7', c8', c9'⟩, -⟩ := hN1 e g
        exact ⟨c3', c1', ⟨c4', c5', c6', c2'⟩, c7', c8', c9'⟩
    refine s_Snapshot_init (ns := ns) (mc := mc) (st := st) (hf := hf) (ml := [4, a, 6]) (q := alJ J1 sl 10) (upN_self _ _ _) (by rw [ens]; rfl) (by rw [upN_ne _ _ x16.1]; exact T2 gt16 (by decide)) (by rw [r2e _ _ (by omega) (by simp) (by omega)]; exact gr160) (by rw [r2e _ _ (by omega) (by simp) (by omega)]; exact gr161) (by rw [upN_ne _ _ x160.1, upN_ne _ _ x160.1]; exact lnT gt160 (by decide)) (by rw [upN_ne _ _ x161.1, upN_ne _ _ x161.1]; exact lnT gt161 (by decide)) ⟨by rw [upN_ne _ _ x16.1, i13 _ _ (by omega) (by simp) (by simp)]; exact d1, al0, al9⟩ (by rw [upN_ne _ _ x4.1]; exact tt02) (by rw [r2e _ _ (by omega) (by simp) (by omega)]; exact rr6) (by rw [upN_ne _ _ x46.1, upN_ne _ _ x46.1]; exact lnT ⟨tt6, ll6'⟩ (by decide)) ⟨by rw [upN_ne _ _ (Ne.symm dsh)]; exact zh, by rw [ehf]; rfl⟩ ⟨by rw [upN_ne _ _ (Ne.symm dsm)]; exact zm, by rw [emc]; rfl⟩ (by rw [upN_ne _ _ (Ne.symm dst)]; exact zt) dhm dht dmt (fun i i0 i1 => ?_) (by omega) (by omega) (fun ty5 ln5 I5 R5 w5 k1' k2' k3' k4' k5' k6' k7' k8' k9' k10' k11' => ?_)
    · obtain ⟨e, he, u1, u2, u3⟩ := d4 i.toNat (by omega)
      rw [Int.toNat_of_nonneg i0] at u1
      have ce := (LLc e he).1
      refine ⟨e.1, by rw [r2e _ _ (by omega) (by simp) (by omega)]; exact u1, ?_⟩
      rw [upN_ne _ _ (xx (t1n (by omega))).1]; exact T2 ce (by decide)
    show Rn (d + 9) M_FB_seal K X 110 _ [vR (some ns), vR (some [4, a])] _
    -- the state with the snapshot made
    have o5 : ∀ x, ty2 x ≠ 0 → ty5 x = ty2 x ∧ ln5 x = ln2 x ∧ (∀ y, I5 x y = I3 x y) ∧ (∀ y, R5 x y = R2 x y) := fun x hx => by
      have u := xx hx
      obtain ⟨w1', w2', w3', w4'⟩ := k10' x u.2.1 u.2.2.1 u.2.2.2.1
      exact ⟨by rw [w1', upN_ne _ _ u.1], by rw [w2', upN_ne _ _ u.1], fun y => by rw [w3' y, upN_ne _ _ u.1], fun y => by rw [w4' y u.1, upN_ne _ _ u.1]⟩
    have t15 : ∀ x, ty1 x ≠ 0 → ty5 x = ty1 x ∧ ln5 x = ln1 x := fun x hx => by
      have u := o5 x (t1n hx)
      have v := t12 x hx
      exact ⟨u.1.trans v.1, u.2.1.trans v.2⟩
    have T5 : ∀ {x k}, ty1 x = k → k ≠ 0 → ty5 x = k := fun h1 h2 => by rw [(t15 _ (by omega)).1]; exact h1
    have tns : ty5 ns = 108 := by
      have := (k10' ns dsh dsm dst).1
      rw [this, upN_self]
    have r5e : ∀ x y, ty1 x ≠ 0 → x ≠ [4, a, 8] → ty1 x ≠ 8 → R5 x y = R1 x y := fun x y h1 h2 h3 => by rw [(o5 x (t1n h1)).2.2.2 y]; exact r12 x y h1 h2 (Or.inl h3)
    have i5e : ∀ x y, ty1 x ≠ 0 → x ≠ [4, a, 8] → (∀ s t, x ≠ 4 :: a :: 8 :: s :: t) → I5 x y = I1 x y := fun x y h1 h2 h3 => by rw [(o5 x (t1n h1)).2.2.1 y]; exact i13 x y h1 h2 h3
    have t9n : ty2 [4, a, 9] ≠ 0 := by rw [T2 tt9 (by decide)]; decide
    have tl9 : ty2 (la R2 a 9) ≠ 0 := rw12_ty (a := a) v1
    have jf15 : Jf 15 a = J 15 a := by rw [eJf, flL_o (by decide), eJx, opN_o (by decide)]
    have lq5 : LQ ty5 ln5 I5 R5 [4, a, 9] (la R2 a 9) (J 15 a) := by
      have := v1.fr (ty' := ty5) (ln' := ln5) (I' := I5) (R' := R5) (fun x hx => ⟨(o5 x hx).1, (o5 x hx).2.1⟩) ((o5 _ t9n).2.2.2 0) ((o5 _ t9n).2.2.1 1) (fun j => (o5 _ tl9).2.2.2 j)
      rw [jf15] at this
      exact this
    have u3e : ∀ e ∈ L0 ++ Nw, I5 e.1 3 = if e ∈ L0 then uA J a e.2.2.1 6 else 0 := fun e he => by
      have ce := LLc e he
      rw [i5e _ _ (by omega) (n12_4 ce.2.1) (fun s t => n12_4 ce.2.1)]
      by_cases g : e ∈ L0
      · rw [if_pos g]; exact (m4 e g).2
      · rw [if_neg g]
        rcases List.mem_append.mp he with g' | g'
        · exact absurd g' g
        · exact (hN1 e g').2
    have ub : ∀ e : Ck, 0 ≤ (if e ∈ L0 then uA J a e.2.2.1 6 else 0) ∧ (if e ∈ L0 then uA J a e.2.2.1 6 else 0) ≤ 100000 := fun e => by
      have u1 := (uA_p (J := J) (a := a) (P := e.2.2.1) 6).1
      have u2 := uA_le (J := J) (b := a) (P := e.2.2.1) h17 6
      split <;> omega
    have DD := pw_or (fun _ _ => DCk.symm) hV1.1
    have i10 : I5 [4, a] 10 = cn3 J a 6 := by rw [i5e _ _ (by omega) (by simp) (by simp)]; exact z4
    have l910 := lq5.2.2.2.1
    rw [b_FB_seal_110, ex_some, and_t (T5 tt0 (by decide))]
    refine y_addSnapshot (J1 := J1) (LL := L0 ++ Nw) (U := fun e => if e ∈ L0 then uA J a e.2.2.1 6 else 0) (mc := mc) (q := alJ J1 sl 10) (sl := sl) (n := J 15 a) (m := la R2 a 9) (nn := nn) (T5 tt0 (by decide)) (by rw [r5e _ _ (by omega) (by simp) (by omega)]; exact rr9) tns k4' k2' ⟨al0, al9⟩ (fun i hi => ?_) (fun e he => ⟨T5 (LLc e he).1 (by decide), by obtain ⟨q', hq'⟩ := (LLc e he).2.1; rw [hq']; rfl, u3e e he, (ub e).1, (ub e).2⟩) (fun e he f hf => (DD e he f hf).imp id (fun d => ⟨d.1, d.2.1⟩)) lq5 (by omega) (by rw [i10]; omega) ⟨?_, by rw [enn]; rfl⟩ (by omega) (by omega) (fun ty6 ln6 I6 R6 c6 w6 m6' p1 p2 p3 p4 p5 p6 p7 p8 p9 p10 p11 => ?_)
    · obtain ⟨e, he, u1, u2, u3⟩ := d4 i hi
      refine ⟨e, he, ?_, u2⟩
      rw [k7' i (by omega) hi, upN_ne _ _ x160.1]
      have := r12 [16, 0] i (by omega) (by simp) (Or.inl (by omega))
      rw [this]; exact u1
    · have := (k10' nn (Ne.symm dhn) (Ne.symm dmn) (Ne.symm dtn)).1
      rw [this, upN_ne _ _ (Ne.symm dsn)]; exact zn
    show Rn (d + 9) M_FB_seal K X 113 _ [] _
    have o6 : ∀ x, ty2 x ≠ 0 → ty6 x = ty2 x ∧ ln6 x = ln2 x := fun x hx => by
      have u := p5 x (xx hx).2.2.2.2
      have v := o5 x hx
      exact ⟨u.1.trans v.1, u.2.trans v.2.1⟩
    have t16 : ∀ x, ty1 x ≠ 0 → ty6 x = ty1 x ∧ ln6 x = ln1 x := fun x hx => by
      have u := o6 x (t1n hx)
      have v := t12 x hx
      exact ⟨u.1.trans v.1, u.2.trans v.2⟩
    have T6 : ∀ {x k}, ty1 x = k → k ≠ 0 → ty6 x = k := fun h1 h2 => by rw [(t16 _ (by omega)).1]; exact h1
    rw [b_FB_seal_113, and_t ⟨Or.inr rfl, T6 g1' (by decide), rfl⟩]
    obtain ⟨I7, eI7⟩ : ∃ I7, I7 = up2 I6 [1] 7 1 := ⟨_, rfl⟩
    rw [← eI7]
    have i76 : ∀ x y, (x ≠ [1] ∨ y ≠ 7) → I7 x y = I6 x y := fun x y hx => by
      rw [eI7]
      by_cases z : x = [1]
      · rw [z, up2_self, upI_ne _ _ (hx.elim (fun u => absurd z u) id)]
      · rw [up2_ne z]
    have n1ne : ∀ x, n12 a x → x ≠ [1] := fun x hx z => by have := n12_hd hx; rw [z] at this; simp [hd] at this
    -- names of rows
    have m6w : m6' ≠ nE := fun z => by
      have pp := p1.2.2.2.1
      rcases p1.2.2.2.2.1 with y | y
      · omega
      · rw [z] at y; exact absurd y.2.2 (by decide)
    have m612 : n12 a m6' := by
      rcases p2 with u | u
      · rcases v9 with w9 | w9
        · exact absurd (u.trans w9) m6w
        · rw [u]; exact w9
      · rw [u]; exact n12n
    have m6ty : ∀ x, ty2 x ≠ 0 → ty2 x ≠ 8 → x ≠ m6' := fun x hx h8 z => by
      rcases p2 with u | u
      · rcases v1.2.2.2.2.1 with w9 | w9
        · exact m6w (u.trans w9.1)
        · exact h8 (by rw [z, u]; exact w9.1)
      · exact (xx hx).2.2.2.2 (z.trans u)
    have r6o : ∀ x y, ty2 x ≠ 0 → x ≠ m6' → (x ≠ [4, a, 9] ∨ y ≠ 0) → R6 x y = R2 x y := fun x y hx hm h9 => by rw [p9 x y (xx hx).2.2.2.2 hm h9]; exact (o5 x hx).2.2.2 y
    have i6o : ∀ x y, ty2 x ≠ 0 → x ≠ [4, a, 9] → (x ≠ [4, a] ∨ y ≠ 10) → (y ≠ 3 ∨ ∀ e ∈ L0 ++ Nw, x ≠ e.1) → I6 x y = I3 x y := fun x y hx h1 h2 h3 => by rw [p6 x y (xx hx).2.2.2.2 h1 h2 h3]; exact (o5 x hx).2.2.1 y
    have la6 : ∀ k, k = 7 ∨ k = 8 → la R6 a k = la R2 a k := fun k hk => by
      unfold la
      have t' : ty2 [4, a, k] ≠ 0 := by
        rcases hk with rfl | rfl
        · rw [T2 tt7 (by decide)]; decide
        · rw [T2 tt8 (by decide)]; decide
      rw [r6o _ _ t' (fun z => n12_4 m612 z.symm) (Or.inl (by rcases hk with rfl | rfl <;> simp))]
    have la69 : la R6 a 9 = m6' := by unfold la; rw [p1.2.1]; rfl
    have l7 : LQ ty2 ln2 I2 R2 [4, a, 7] (la R2 a 7) (L0 ++ Nw).length := h72.1
    have m6l : ∀ k n', LQ ty2 ln2 I2 R2 [4, a, k] (la R2 a k) n' → (la R2 a k = la R2 a 9 → la R2 a k = nE) → la R2 a k ≠ m6' := fun k n' hk hh z => by
      rcases p2 with u | u
      · exact m6w (by rw [← z]; exact hh (z.trans u))
      · exact (xx (rw12_ty (a := a) hk)).2.2.2.2 (z.trans u)
    have m67 : la R2 a 7 ≠ m6' := m6l 7 _ l7 (fun z => h72.2.2.2.2 z)
    have m68 : la R2 a 8 ≠ m6' := m6l 8 _ hS2.2.2.1.2.2.2.2.2.2.1 (fun z => v10 z)
    obtain ⟨J', eJ'⟩ : ∃ J', J' = sdJ J1 a sl (J 20 a) := ⟨_, rfl⟩
    rw [← eJ'] at k0'
    have jo' : ∀ k x, k ≠ -1 → k ≠ 15 → k ≠ 16 → k ≠ 22 → k ≠ 24 → J' k x = J1 k x := fun k x h1 h2 h3 h4 h5 => by rw [eJ']; exact sdJ_o ⟨h1, h2, h3, h4, h5⟩
    have q15' : J1 15 a = J 15 a := q1 15 _ (by decide) (by decide) (by decide) (by decide) (by decide) (by decide) (by decide) (by decide)
    have q16' : ∀ x, J1 16 x = J 16 x := fun x => q1 16 _ (by decide) (by decide) (by decide) (by decide) (by decide) (by decide) (by decide) (by decide)
    have j16 : ∀ x, J' 16 x = if x = sl then J 15 a else J 16 x := fun x => by rw [eJ', sdJ_16, q15', q16']
    have j15 : J' 15 a = J 15 a + 1 := by rw [eJ', sdJ_15, if_pos rfl, q15']
    have e16' : ∀ i : Nat, J' 16 (6 * a + i) = if i = ks then J 15 a else J 16 (6 * a + i) := fun i => by
      rw [j16]
      by_cases z : i = ks
      · rw [if_pos z, if_pos (by rw [z, hks.1])]
      · rw [if_neg z, if_neg (by rw [hks.1]; omega)]
    have j20 : J' 20 a = J1 20 a := jo' 20 _ (by decide) (by decide) (by decide) (by decide) (by decide)
    have jf20 : Jf 20 a = J1 20 a := by rw [eJf, flL_o (by decide)]; exact ex20
    have jfo : ∀ k x, k ≠ 20 → k ≠ 21 → k ≠ 22 → k ≠ 23 → k ≠ 24 → Jf k x = J k x := fun k x h1 h2 h3 h4 h5 => by rw [eJf, flL_o ⟨h4, h5⟩, eJx, opN_o ⟨h1, h2, h3, h4, h5⟩]
    -- words that the reference and the making have alike
    have w20 : ∀ x, Jf 20 x = J' 20 x := fun x => by
      rw [jo' 20 x (by decide) (by decide) (by decide) (by decide) (by decide)]
      by_cases z : x = a
      · rw [z]; exact jf20
      · rw [q5 x z, eJf, flL_o (by decide), eJx, opN_20o z]
    have n20 : (J1 20 a - J 20 a).toNat = n := by omega
    have w21 : ∀ b s, sgJ Jf b s → Jf 21 (40 * b + s) = J' 21 (40 * b + s) ∧ Jf 22 (40 * b + s) = J' 22 (40 * b + s) := fun b s hs => by
      have hsb := hs.1.1
      have hs2 := hs.2
      have fx := opN_x (J := J) (a := a) (x := 40 * b + s) n
      rw [eJf, flL_o (by decide), flL_o (by decide), eJx, fx.1, fx.2.1, jo' 21 _ (by decide) (by decide) (by decide) (by decide) (by decide), eJ', sdJ_22, n20]
      by_cases z : 40 * a + J 20 a ≤ 40 * b + s ∧ 40 * b + s < 40 * a + J 20 a + n
      · rw [if_pos z, if_pos z, if_pos z]
        have ab : b = a := by omega
        subst ab
        exact ⟨(q8 s (by omega) (by omega)).1.symm, rfl⟩
      · rw [if_neg z, if_neg z, if_neg z]
        have := q6' (40 * b + s) (by
          by_cases ab : b = a
          · subst ab; rw [jf20] at hs2; omega
          · omega)
        exact ⟨this.1.symm, this.2.symm⟩
    have w23 : ∀ y, (y < 60 * (40 * a + J1 20 a) ∨ 2400 * a + 2400 ≤ y) → Jf 23 y = J' 23 y ∧ Jf 24 y = J' 24 y := fun y hy => by
      have fx := opN_x (J := J) (a := a) (x := y) n
      have fv := flL_v (g := J1 23) (x := y) Nw Jx
      rw [jo' 23 _ (by decide) (by decide) (by decide) (by decide) (by decide), eJf, eJ', sdJ_24, n20]
      by_cases cv : ∃ e ∈ Nw, e.2.2.1 ≤ y ∧ y < e.2.2.1 + e.2.2.2
      · obtain ⟨e, he, ec⟩ := cv
        have u := fv.1 ⟨e, he, ec⟩
        have qe := q10 e he
        have rg := hV1.2.1 e (List.mem_append.mpr (Or.inr he))
        rw [u.1, u.2, if_pos (by omega)]; exact ⟨rfl, rfl⟩
      · have cv' : ∀ e ∈ Nw, ¬ (e.2.2.1 ≤ y ∧ y < e.2.2.1 + e.2.2.2) := fun e he ec => cv ⟨e, he, ec⟩
        have u := fv.2 cv'
        rw [u.1, u.2, eJx, fx.2.2.1, fx.2.2.2]
        by_cases z : 60 * (40 * a + J 20 a) ≤ y ∧ y < 60 * (40 * a + J 20 a + n)
        · rw [if_pos z, if_pos z, if_pos z]
          have := q11 y z.1 (by omega) cv'
          exact ⟨this.symm, this.symm⟩
        · rw [if_neg z, if_neg z, if_neg z]
          exact ⟨(q7' y (by omega)).symm, (q1 24 _ (by decide) (by decide) (by decide) (by decide) (by decide) (by decide) (by decide) (by decide)).symm⟩
    -- the class and these words
    have lt2 : ∀ b, hsJ Jf b → ty2 (la R2 b 8) ≠ 0 ∧ rw12 R2 b 8 := fun b hb => by
      by_cases z : b = a
      · subst z; exact ⟨rw12_ty (a := b) v7, v8⟩
      · obtain ⟨L, u1, u2, u3, u4, u5, u6, u7, u8, u9, u10, u11, ⟨u12, u13, u14⟩, u15⟩ := n2 b z hb
        exact ⟨rw12_ty (a := b) u11, u13⟩
    have i63 : ∀ x y, ¬ n12 a x → x ≠ [4, a, 9] → (x ≠ [4, a] ∨ y ≠ 10) → I6 x y = I3 x y := fun x y h12 h9 h10 => by
      have u : ∀ b, n12 a b → x ≠ b := fun b hb v => h12 (by rw [v]; exact hb)
      rw [p6 x y (u _ n12n) h9 h10 (Or.inr (fun e he => u _ (LLc e he).2.1)), (k10' x (u _ n12h) (u _ n12m) (u _ n12t)).2.2.1 y, upN_ne _ _ (u _ n12s)]
    have t8n : ty2 [4, a, 8] ≠ 0 := by rw [T2 tt8 (by decide)]; decide
    obtain ⟨hRC6, hFR6⟩ := n1.own (a := a) (ty' := ty6) (ln' := ln6) (I' := I6) (R' := R6) lt2 o6 (fun x y h12 h16' hev => i63 x y h12 (fun z => hev ⟨⟨[9], z⟩, Or.inr (Or.inl ⟨a, 9, [], z, Or.inr rfl⟩), by rw [z]; simp⟩) (by
      by_cases u : x = [4, a]
      · right
        rintro rfl
        exact hev ⟨⟨[], u⟩, Or.inr (Or.inr (Or.inr (Or.inl ⟨a, u, rfl⟩))), by rw [u]; simp⟩
      · exact Or.inl u)) (fun x y tx h12 h7' h9 h160 => r6o x y tx (fun z => h12 (by rw [z]; exact m612)) (Or.inl h9)) (fun s _ => r6o _ _ (rw12_ty (a := a) v7) m68 (Or.inl (by rcases v8 with u | ⟨q', u⟩ <;> rw [u] <;> simp [nE])))
    have jm : ∀ x, x ≠ 4 → x ≠ 30 → J' (-1) x = J (-1) x := fun x h4 h30 => by rw [eJ', sdJ_m, if_neg h4]; exact q2 x h30
    have hRCg : RC (uJ J' (-1) 4 (J (-1) 4)) I6 ty6 ln6 I6 R6 := by
      refine hRC6.eqv (fun k x hk => ?_) (fun x h0 h30 => ?_) (fun x y k z hl => ?_)
      · rw [uJ_ne (by omega)]
        by_cases z : k = 20
        · rw [z]; exact (w20 x).symm
        · rw [jo' k x (by omega) (by omega) (by omega) (by omega) (by omega), jfo k x z (by omega) (by omega) (by omega) (by omega)]
          exact q1 k x (by omega) (by omega) (by omega) (by omega) z (by omega) (by omega) (by omega)
      · rw [jfo _ _ (by decide) (by decide) (by decide) (by decide) (by decide), uJ_self]
        by_cases z : x = 4
        · rw [z, upI_self]
        · rw [upI_ne _ _ z]; exact jm x z h30
      · have kr := hl.kr
        rw [uJ_ne (by omega)]
        by_cases z1' : k = 21 ∨ k = 22
        · obtain ⟨b, s, hs, ey⟩ := hl.y.1 z1'
          have := w21 b s hs
          rw [ey]
          rcases z1' with u | u
          · rw [u]; exact this.1.symm
          · rw [u]; exact this.2.symm
        · by_cases z2' : k = 23 ∨ k = 24
          · obtain ⟨b, s, hs, ey⟩ := hl.y.2 z2'
            have hsb := hs.1.1
            have hs2 := hs.2
            have := w23 z (by
              by_cases ab : b = a
              · subst ab; rw [jf20] at hs2; omega
              · omega)
            rcases z2' with u | u
            · rw [u]; exact this.1.symm
            · rw [u]; exact this.2.symm
          · rw [jo' k z (by omega) (by omega) (by omega) (by omega) (by omega), jfo k z (by omega) (by omega) (by omega) (by omega) (by omega)]
            exact q1 k z (by omega) (by omega) (by omega) (by omega) (by omega) (by omega) (by omega) (by omega)
    have hRC7 : RC J' I7 ty6 ln6 I7 R6 := by
      have u := hRCg.m4 (I' := I7) (fun x y hx => i76 x y hx) (by rw [eI7, up2_self, upI_self])
      have ej : uJ (uJ J' (-1) 4 (J (-1) 4)) (-1) 4 1 = J' := by
        funext k x
        by_cases z : k = -1
        · subst z
          by_cases y : x = 4
          · rw [y, uJ_self, upI_self, eJ', sdJ_m, if_pos rfl]
          · rw [uJ_self, upI_ne _ _ y, uJ_self, upI_ne _ _ y]
        · rw [uJ_ne z, uJ_ne z]
      rw [ej] at u
      exact ⟨u.1, u.2.1, u.2.2.1, u.2.2.2.1, u.2.2.2.2.1, u.2.2.2.2.2.1, u.2.2.2.2.2.2.1, u.2.2.2.2.2.2.2.1, fun _ _ _ => rfl⟩
    -- the slots
    have j17 : ∀ x, J' 17 x = J1 17 x := fun x => jo' 17 _ (by decide) (by decide) (by decide) (by decide) (by decide)
    have j18 : ∀ x, J' 18 x = J1 18 x := fun x => jo' 18 _ (by decide) (by decide) (by decide) (by decide) (by decide)
    have j19 : ∀ x, J' 19 x = J1 19 x := fun x => jo' 19 _ (by decide) (by decide) (by decide) (by decide) (by decide)
    have j23 : ∀ x, J' 23 x = J1 23 x := fun x => jo' 23 _ (by decide) (by decide) (by decide) (by decide) (by decide)
    have al' : ∀ s' m, alJ J' s' m = alJ J1 s' m := fun s' m => alJ_c m (fun x _ => j17 _)
    have alo : ∀ i : Nat, i ≠ ks → i < 6 → ∀ m : Nat, m ≤ 10 → alJ J' (6 * a + i) m = alJ J (6 * a + i) m := fun i hi hi6 m hm => by
      rw [al']
      exact alJ_c m (fun x hx => q3 _ (by omega))
    have o18 : ∀ (i : Nat) (x : Int), i ≠ ks → i < 6 → 500 * (6 * a + i) ≤ x → x < 500 * (6 * a + i) + 500 → J' 18 x = J 18 x ∧ J' 19 x = J 19 x := fun i x hi hi6 h1 h2 => by
      rw [j18, j19]; exact q4 x (by omega)
    have l16 : ∀ i : Nat, 0 ≤ J 16 (6 * a + i) → i ≠ ks := fun i hi z => by rw [z] at hi; omega
    have a5 := fun i : Nat => alJ_50 (J := J) (sl := 6 * a + i) h17 10
    have b0 := fun i : Nat => alJ_0 (J := J) (sl := 6 * a + i) 10
    have uAd : ∀ P, uA J' a P 6 = uA J a P 6 + uI J1 sl P (alJ J1 sl 10).toNat := fun P => by
      rw [uA_ad (k := ks) (v := J 15 a) b15.1 h16 e16' (fun i hi hi6 => ⟨alo i hi hi6 10 (Nat.le_refl _), fun q hq => uI_c q (fun x hx => (o18 i _ hi hi6 (by omega) (by omega)).1)⟩) h17 6 (Nat.le_refl _), if_pos hks6, al', ← hks.1, uI_c _ (fun x _ => j18 _)]
    have i7e : ∀ x y, n12 a x → x ≠ ns → ty1 x ≠ 0 → (y ≠ 3 ∨ ∀ e ∈ L0 ++ Nw, x ≠ e.1) → I7 x y = I1 x y := fun x y hx _ h1 h3 => by
      rw [i76 x y (Or.inl (n1ne x hx)), i6o x y (t1n h1) (n12_4 hx) (Or.inl (n12_4 hx)) h3]
      exact i13 x y h1 (n12_4 hx) (fun s t => n12_4 hx)
    have nsx : ∀ {x}, ty1 x ≠ 0 → x ≠ ns := fun hx => (xx (t1n hx)).1
    have hCV' : CVR J' a (-1) (L0 ++ Nw) := by
      obtain ⟨u1, u2, u3, u4⟩ := hV1
      have ee : ∀ k i : Nat, enJ J' a (-1) k i ↔ enJ J1 a sl k i := fun k i => by
        unfold enJ lvJ
        rw [e16' k, al', q16']
        constructor
        · rintro ⟨x, y, z⟩
          by_cases u : k = ks
          · exact ⟨x, Or.inr (by rw [u, hks.1]), z⟩
          · rw [if_neg u] at y
            exact ⟨x, Or.inl (y.elim id (fun w => by omega)), z⟩
        · rintro ⟨x, y, z⟩
          by_cases u : k = ks
          · rw [if_pos u]; exact ⟨x, Or.inl b15.1, z⟩
          · rw [if_neg u]
            exact ⟨x, Or.inl (y.elim id (fun w => by rw [hks.1] at w; omega)), z⟩
      refine ⟨u1.imp ?_, by rw [j20]; exact u2, fun k i hk => ?_, fun e he => ?_⟩
      · intro e f d
        refine ⟨d.1, d.2.1, fun z => d.2.2 ⟨z.1, fun x x0 x1 => ?_⟩⟩
        have := z.2 x x0 x1
        rw [j23, j23] at this
        exact this
      · rw [j18, j19]; exact u3 k i ((ee k i).mp hk)
      · obtain ⟨k, i, w1', w2'⟩ := u4 e he
        exact ⟨k, i, (ee k i).mpr w1', by rw [j18]; exact w2'⟩
    have hCK' : ∀ e ∈ L0 ++ Nw, CKN J' I7 ty6 ln6 R6 a e ∧ I7 e.1 3 = uA J' a e.2.2.1 6 := fun e he => by
      obtain ⟨c1', c2', ⟨c3', c4', c5', c6'⟩, c7', c8', c9'⟩ := LLc e he
      have nb : ∀ f ∈ L0 ++ Nw, e.2.1 ≠ f.1 := fun f hf z => by have := (LLc f hf).1; rw [← z] at this; omega
      refine ⟨⟨c2', c6', T6 c1' (by decide), ?_, T6 c4' (by decide), by rw [(t16 _ (by omega)).2]; exact c5', ?_, ?_, fun x x0 x1 => ?_⟩, ?_⟩
      · rw [r6o _ _ (t1n (by omega)) (m6ty _ (t1n (by omega)) (by rw [T2 c1' (by decide)]; decide)) (Or.inl (n12_4 c2')), r12 _ _ (by omega) (n12_4 c2') (Or.inl (by omega))]; exact c3'
      · rw [i7e _ _ c2' (nsx (by omega)) (by omega) (Or.inl (by decide))]; exact c7'
      · rw [i7e _ _ c2' (nsx (by omega)) (by omega) (Or.inl (by decide))]; exact c8'
      · rw [i7e _ _ c6' (nsx (by omega)) (by omega) (Or.inr nb), j23]; exact c9' x x0 x1
      · rw [i76 _ _ (Or.inl (n1ne _ c2')), p7 e he, uAd]
        show (if e ∈ L0 then uA J a e.2.2.1 6 else 0) + _ = _
        by_cases g : e ∈ L0
        · rw [if_pos g]
        · rw [if_neg g]
          have : uA J a e.2.2.1 6 = 0 := by
            have up := uA_p (J := J) (a := a) (P := e.2.2.1) 6
            by_cases z : uA J a e.2.2.1 6 = 0
            · exact z
            · exfalso
              obtain ⟨k, i, w1', w2', w3', w4'⟩ := up.2.mp (by omega)
              obtain ⟨f, hf, fp, _⟩ := m5.2.2.1 k i ⟨w1', Or.inl w2', w3'⟩
              rcases DD e he f (List.mem_append.mpr (Or.inl hf)) with u | u
              · exact g (by rw [u]; exact hf)
              · exact u.2.1 (w4'.symm.trans fp.symm)
          rw [this]
    have hNUM : NUM J' a := by
      obtain ⟨u1, u2, u3⟩ := z6
      refine ⟨fun k hk => ?_, fun k k' hk hk' => ?_, fun k t hk ht => ?_⟩
      · rw [e16', j15]
        by_cases z : k = ks
        · rw [if_pos z]; left; omega
        · rw [if_neg z]; have := u1 k hk; omega
      · rw [e16', e16']
        by_cases z : k = ks
        · rw [if_pos z]
          by_cases z' : k' = ks
          · intro _ _; omega
          · rw [if_neg z']
            intro _ e
            have := u1 k' hk'
            omega
        · rw [if_neg z]
          by_cases z' : k' = ks
          · rw [if_pos z']
            intro w e
            have := u1 k hk
            omega
          · rw [if_neg z']; exact u2 k k' hk hk'
      · rw [e16']
        by_cases z : k = ks
        · intro _
          rw [z, ← hks.1, al', j17, lnS_c (J := J1) (fun x => j19 x)]
          exact hln t ht
        · rw [if_neg z]
          intro hl
          have w := u3 k t hk ht hl
          have a5' := alJ_50 (J := J) (sl := 6 * a + k) h17 t
          have b0' := alJ_0 (J := J) (sl := 6 * a + k) t
          have w17 := h17 (10 * (6 * a + k) + t)
          have e17 : J' 17 (10 * (6 * a + k) + t) = J 17 (10 * (6 * a + k) + t) := by rw [j17]; exact q3 _ (by omega)
          rw [alo k z hk t (by omega), e17, lnS_c2 (J := J) _ (fun i hi => (o18 k _ z hk (by omega) (by omega)).2)]
          exact w
    -- snapshots
    obtain ⟨Jk, eJk⟩ : ∃ Jk, Jk = uJ J' 16 sl (J 16 sl) := ⟨_, rfl⟩
    have jk16 : ∀ x, Jk 16 x = J 16 x := fun x => by
      rw [eJk, uJ_self]
      by_cases z : x = sl
      · rw [z, upI_self]
      · rw [upI_ne _ _ z, j16, if_neg z]
    have jko : ∀ k x, k ≠ 16 → Jk k x = J' k x := fun k x hk => by rw [eJk, uJ_ne hk]
    have jfk : ∀ k x, k = 15 ∨ k = 16 ∨ k = 17 ∨ k = 18 ∨ k = 19 → Jf k x = J k x := fun k x hk => jfo k x (by omega) (by omega) (by omega) (by omega) (by omega)
    have jsl : JSl Jf Jk a := by
      refine ⟨fun x _ _ => by rw [jk16, jfk 16 _ (by decide)], fun k t hk hl ht => ?_, fun k x hk hl h1 h2 => ?_⟩
      · rw [jfk 16 _ (by decide)] at hl
        have := l16 k hl
        rw [jko 17 _ (by decide), j17, jfk 17 _ (by decide)]; exact q3 _ (by omega)
      · rw [jfk 16 _ (by decide)] at hl
        have := o18 k x (l16 k hl) hk h1 h2
        rw [jko 18 _ (by decide), jko 19 _ (by decide), jfk 18 _ (by decide), jfk 19 _ (by decide)]; exact this
    have f12 : FR12 I3 I7 ty2 ty6 ln2 ln6 R2 R6 a := ⟨o6, fun x y hx hz h101 => by
        rw [i76 x y (Or.inl (n1ne x hx)), i6o x y hz (n12_4 hx) (Or.inl (n12_4 hx)) (h101.elim (fun u => Or.inr (fun e he z => u (by rw [z]; exact T2 (LLc e he).1 (by decide)))) Or.inl)], fun x y hx hz h8 => r6o x y hz (m6ty x hz h8) (Or.inl (n12_4 hx))⟩
    have jf17 : ∀ x, Jf 17 x ≤ 50 := fun x => by rw [jfk 17 _ (by decide)]; exact h17 x
    have row : ∀ j, 0 ≤ j → j < J 15 a → R6 m6' j = R2 (la R2 a 9) j := fun j j0 j1 => by rw [p4 j j0 j1]; exact (o5 _ tl9).2.2.2 j
    have slJ15 : slotJ J' a (J 15 a) = sl := by
      rw [hks.1]
      exact slot_uq hNUM hks6 b15.1 (by rw [e16', if_pos rfl])
    have hSNN : ∀ n', 0 ≤ n' → n' < J 15 a + 1 → ∃ m, R6 m6' n' = some m ∧ SNN J' I7 ty6 ln6 R6 a (L0 ++ Nw) n' m := fun n' x0' x1' => by
      by_cases z : n' = J 15 a
      · subst z
        refine ⟨ns, p3, n12s, ?_, ?_, mc, st, hf, ⟨?_, ?_, n12m⟩, ⟨?_, ?_, ?_, n12t⟩, ⟨?_, ?_, ?_, n12h⟩, fun _ => ⟨?_, fun t ht => ?_, fun t ht => ?_, fun i hi => ?_⟩⟩
        · rw [(p5 ns dsn).1]; exact tns
        · rw [slJ15, if_pos (by omega), i76 _ _ (Or.inl (n1ne _ n12s)), p6 _ _ dsn (n12_4 n12s) (Or.inl (n12_4 n12s)) (Or.inr (fun e he u => by have := T2 (LLc e he).1 (by decide); rw [← u, zs] at this; omega)), (k10' ns dsh dsm dst).2.2.1, upN_self]
        · rw [p9 _ _ dsn (fun u => by
            rcases p2 with w | w
            · exact (xx tl9).1 (w ▸ u.symm)
            · exact dsn (u.trans w)) (Or.inl (n12_4 n12s))]; exact k4'
        · rw [(p5 mc dmn).1]; exact k2'.1
        · rw [p9 _ _ dsn (fun u => by
            rcases p2 with w | w
            · exact (xx tl9).1 (w ▸ u.symm)
            · exact dsn (u.trans w)) (Or.inl (n12_4 n12s))]; exact k5'
        · rw [(p5 st dtn).1]; exact k3'.1
        · rw [(p5 st dtn).2]; exact k3'.2
        · rw [p9 _ _ dsn (fun u => by
            rcases p2 with w | w
            · exact (xx tl9).1 (w ▸ u.symm)
            · exact dsn (u.trans w)) (Or.inl (n12_4 n12s))]; exact k6'
        · rw [(p5 hf dhn).1]; exact k1'.1
        · rw [(p5 hf dhn).2]; exact k1'.2
        · rw [slJ15, (p5 mc dmn).2, al']; exact k2'.2
        · rw [slJ15, al', i76 _ _ (Or.inl (n1ne _ n12t)), p6 _ _ dtn (n12_4 n12t) (Or.inl (n12_4 n12t)) (Or.inr (fun e he u => by have := T2 (LLc e he).1 (by decide); rw [← u, zt] at this; omega)), k8', upN_ne _ _ x161.1, i13 _ _ (by omega) (by simp) (by simp)]
          exact hst t ht
        · rw [slJ15, j17, i76 _ _ (Or.inl (n1ne _ n12h)), p6 _ _ dhn (n12_4 n12h) (Or.inl (n12_4 n12h)) (Or.inr (fun e he u => by have := T2 (LLc e he).1 (by decide); rw [← u, zh] at this; omega)), k9' t (by omega) (by omega), upN_ne _ _ x46.1, i13 _ _ (by omega) (by simp) (by simp), m1.rf a t ha (by omega) (by omega)]
          have hh := hhf t ht
          have b13 := hR.k13 (10 * a + t)
          by_cases u : J 12 (10 * a + t) = 0
          · rw [if_pos u, if_pos rfl, if_neg (fun w => hh.mp w u)]
          · rw [if_neg u, if_neg (by omega), if_pos (hh.mpr u)]
        · rw [slJ15, al'] at hi
          rw [slJ15, j18, j19]
          obtain ⟨e, he, u1, u2, u3⟩ := d4 i hi
          refine ⟨e, he, ?_, u2, u3⟩
          rw [p9 _ _ dmn (fun u => by
            rcases p2 with w | w
            · exact (xx tl9).2.2.1 (w ▸ u.symm)
            · exact dmn (u.trans w)) (Or.inl (n12_4 n12m)), k7' i (by omega) hi, upN_ne _ _ x160.1, r12 [16, 0] i (by omega) (by simp) (Or.inl (by omega))]; exact u1
      · obtain ⟨m, e1, e2⟩ := v2 n' x0' (by rw [jf15]; omega)
        refine ⟨m, by rw [row n' x0' (by omega)]; exact e1, ?_⟩
        refine (e2.cg f12 jsl a0.1 jf17).j ?_ (fun k x hk => (jko k x (by omega)).symm)
        unfold slotJ
        rw [slJ_ne 6 (fun k hk => ?_)]
        rw [e16', jk16]
        by_cases u : k = ks
        · rw [if_pos u, u]
          exact ⟨fun w => by omega, fun w => by omega⟩
        · rw [if_neg u]
    have t7n : ty2 [4, a, 7] ≠ 0 := by rw [T2 tt7 (by decide)]; decide
    have tl7 : ty2 (la R2 a 7) ≠ 0 := rw12_ty (a := a) l7
    have tl8 : ty2 (la R2 a 8) ≠ 0 := rw12_ty (a := a) v7
    have n7w : la R2 a 7 ≠ [4, a, 9] := by rcases h72.2.2.1 with u | ⟨q', u⟩ <;> rw [u] <;> simp [nE]
    have n8w : la R2 a 8 ≠ [4, a, 9] := by rcases v8 with u | ⟨q', u⟩ <;> rw [u] <;> simp [nE]
    have hHa : HLL J' I7 ty6 ln6 R6 a (L0 ++ Nw) := by
      refine ⟨?_, ?_, hCK', hCV', ?_, ?_, ?_, ?_, ?_, hNUM, ?_, ⟨?_, ?_, ?_⟩, ?_, ?_, ?_⟩
      · rw [la6 7 (Or.inl rfl)]
        exact l7.fr o6 (r6o _ _ t7n (fun z => n12_4 m612 z.symm) (Or.inl (by simp))) (by rw [i76 _ _ (Or.inl (by simp)), i6o _ _ t7n (by simp) (Or.inl (by simp)) (Or.inl (by decide)), io3 _ _ (by simp)]) (fun j => r6o _ _ tl7 m67 (Or.inl n7w))
      · rw [la6 7 (Or.inl rfl)]
        intro i e he
        rw [r6o _ _ tl7 m67 (Or.inl n7w)]; exact h72.2.1 i e he
      · rw [la69, j15]
        obtain ⟨w1', w2', w3', w4', w5', w6'⟩ := p1
        exact ⟨w1', w2', by rw [i76 _ _ (Or.inl (by simp))]; exact w3', w4', w5', w6'⟩
      · rw [la69, j15]; exact hSNN
      · rw [la69, j15]
        intro n1' n2' x0' x1' x2'
        by_cases z : n2' = J 15 a
        · rw [z, p3, row n1' x0' (by omega)]
          obtain ⟨m, e1, e2⟩ := v2 n1' x0' (by rw [jf15]; omega)
          rw [e1]
          intro u
          cases u
          have := e2.2.1
          rw [zs] at this
          omega
        · rw [row n1' x0' (by omega), row n2' (by omega) (by omega)]
          exact v3 n1' n2' x0' x1' (by rw [jf15]; omega)
      · rw [i76 _ _ (Or.inl (by simp)), p8, i10, cn3_ad (J := J) (J' := J') (k := ks) (v := J 15 a) b15.1 h16 e16' 6, if_pos hks6]
      · rw [j20]
        intro s s0 s1
        have hsg : sgJ Jf a s := ⟨hsJ_c ha (by rw [eJf, flL_o (by decide), eJx, opN_o (by decide)]), s0, by omega, by rw [jf20]; exact s1⟩
        have tg := (n1.sg a s hsg).1
        rw [i76 _ _ (Or.inl (by simp)), i6o _ _ (by rw [tg]; decide) (by simp) (Or.inl (by simp)) (Or.inl (by decide))]
        exact v5 s s0 (by rw [jf20]; exact s1)
      · rw [la6 8 (Or.inr rfl), j20, ← jf20]
        exact v7.fr o6 (r6o _ _ t8n (fun z => n12_4 m612 z.symm) (Or.inl (by simp))) (by rw [i76 _ _ (Or.inl (by simp)), i6o _ _ t8n (by simp) (Or.inl (by simp)) (Or.inl (by decide))]) (fun j => r6o _ _ tl8 m68 (Or.inl n8w))
      · unfold rw12; rw [la6 7 (Or.inl rfl)]; exact h72.2.2.1
      · unfold rw12; rw [la6 8 (Or.inr rfl)]; exact v8
      · unfold rw12; rw [la69]; exact Or.inr m612
      · rw [la6 7 (Or.inl rfl), la6 8 (Or.inr rfl)]; exact h72.2.2.2.1
      · rw [la6 7 (Or.inl rfl), la69]; intro z; exact absurd z m67
      · rw [la6 8 (Or.inr rfl), la69]; intro z; exact absurd z m68
    have hRL : RLs J' I7 ty6 ln6 R6 := fun b hb => by
      by_cases z : b = a
      · subst z; exact ⟨_, hHa⟩
      · have hb1 : hsJ Jf b := by
          unfold hsJ at hb ⊢
          rw [jo' 5 _ (by decide) (by decide) (by decide) (by decide) (by decide), q1 5 _ (by decide) (by decide) (by decide) (by decide) (by decide) (by decide) (by decide) (by decide)] at hb
          rw [jfo 5 _ (by decide) (by decide) (by decide) (by decide) (by decide)]; exact hb
        obtain ⟨Lb, hLb⟩ := n2 b z hb1
        have hRf : MR Jf := by rw [eJf]; exact flL_r (fun x => hR1.k23 x) Nw Jx hRx
        have kb := hRf.k20 b
        have hb9 := hb1.1
        obtain ⟨u1, u2, u3⟩ := hFR6 b z
        refine ⟨Lb, hLb.cg ⟨u1, fun x y hx hz he => ?_, u3⟩ ⟨?_, (w20 b).symm, fun x h1 h2 => ?_, fun k t hk hl ht => ?_, fun k x hk hl h1 h2 => ?_, fun x h1 h2 => ?_⟩ hb9.1 (fun s s0 s1 => by rw [(n1.sg b s ⟨hb1, s0, by omega, s1⟩).1]; decide) (by rw [(n1.hs b hb1).1]; decide) hRf⟩
        · rw [i76 x y (Or.inl (fun w => by
            rw [w] at hx
            rcases hx with ⟨q', g⟩ | ⟨l, g⟩ <;> simp at g))]
          exact u2 x y hx hz he
        · rw [jfk 15 _ (by decide), eJ', sdJ_15, if_neg z]
          exact q1 15 _ (by decide) (by decide) (by decide) (by decide) (by decide) (by decide) (by decide) (by decide)
        · rw [j16, if_neg (by omega), jfk 16 _ (by decide)]
        · rw [j17, jfk 17 _ (by decide)]; exact q3 _ (by omega)
        · rw [j18, j19, jfk 18 _ (by decide), jfk 19 _ (by decide)]; exact q4 _ (by omega)
        · exact (w23 x (by omega)).1.symm
    have f9' : FR9 ty6 c6 := fun b q' hq' => by
      have hq2 : q' ≤ (c2 : Int) - 4 := by rcases p10 with ⟨_, u⟩ | u <;> omega
      by_cases y : ([12, b, q'] : Nm) = nn
      · rcases p10 with ⟨u, _⟩ | u
        · rw [y]; exact u
        · rw [enn] at y; simp at y; omega
      · rw [(p5 _ y).1, (k10' _ (by rw [ehf]; simp; omega) (by rw [emc]; simp; omega) (by rw [est]; simp; omega)).1, upN_ne _ _ (by rw [ens]; simp; omega)]
        exact n6 b q' (by omega)
    have tAll : ∀ x, ty x ≠ 0 → ty6 x = ty x ∧ ln6 x = ln x := fun x hx => by
      have u := hFM.1 x hx
      have v := t16 x (by rw [u.1]; exact hx)
      exact ⟨v.1.trans u.1, v.2.trans u.2⟩
    have l16' : ln6 (la R6 a 7) = ln1 (la R1 a 7) ∧ ln6 (la R6 a 8) = ln2 (la R2 a 8) ∧ ln5 (la R2 a 9) = ln (la R a 9) := by
      refine ⟨?_, ?_, ?_⟩
      · rw [la6 7 (Or.inl rfl), la2.1, (t16 _ (rw12_ty (a := a) h71.1)).2]
      · rw [la6 8 (Or.inr rfl), (o6 _ tl8).2]
      · rw [(o5 _ tl9).2.1, la2.2, (t12 _ (rw12_ty (a := a) z1)).2, la1 9 (Or.inr rfl), ln1' 9 (Or.inr rfl)]
    have l18 : ln1 (la R1 a 8) = ln (la R a 8) := by rw [la1 8 (Or.inl rfl), ln1' 8 (Or.inl rfl)]
    refine k0' ty6 ln6 I7 R6 c6 w6 hRC7 hRL f9' tAll (fun x hx h12 hs8 => ?_) (fun x y hx => ?_) (fun x y hx hz => ?_) ⟨?_, ?_⟩
    · have u : ∀ b, n12 a b → x ≠ b := fun b hb v => h12 (by rw [v]; exact hb)
      have ty1z := hFM.2.1 x hx h12
      have ty2z : ty2 x = 0 := by
        by_cases z : ∃ s t, x = 4 :: a :: 8 :: s :: t
        · obtain ⟨s, t, ex⟩ := z
          have : ¬ s < J1 20 a := fun w => hs8 s t (by show s < J' 20 a; rw [j20]; exact w) ex
          rw [ex]; exact f2 s t (by omega)
        · exact f2b x ty1z h12 (fun s t w => z ⟨s, t, w⟩)
      rw [(p5 x (u _ n12n)).1, (k10' x (u _ n12h) (u _ n12m) (u _ n12t)).1, upN_ne _ _ (u _ n12s)]; exact ty2z
    · have h12 : ¬ n12 a x := fun w => by have := n12_hd w; unfold fxh at hx; omega
      have h4 : ∀ l, x ≠ 4 :: l := fun l w => by rw [w] at hx; simp [fxh, hd] at hx
      rw [i76 x y (Or.inl (fun w => by rw [w] at hx; simp [fxh, hd] at hx)), i63 x y h12 (h4 _) (Or.inl (h4 _)), io3 x y (fun s t => h4 _), i12 x y (Or.inr ⟨h12, fun s t => h4 _⟩) (h4 _)]
      exact hFM.2.2.1 x y hx
    · have h1z : ty1 x ≠ 0 := by rw [(hFM.1 x hz).1]; exact hz
      have hq := fxR.q (a := a) (n := x) (Or.inl hx)
      have h8' : x ≠ [4, a, 8] ∧ x ≠ [4, a, 9] := by
        rcases hx with h | ⟨b, l, hb, rfl⟩
        · exact ⟨fun w => by rw [w] at h; simp [fxh, hd] at h, fun w => by rw [w] at h; simp [fxh, hd] at h⟩
        · exact ⟨fun w => by simp at w; exact hb w.1, fun w => by simp at w; exact hb w.1⟩
      rw [r6o x y (t1n h1z) (fun w => hq.2.2 (by rw [w]; exact n12_hd m612)) (Or.inl h8'.2)]
      have r21 : R2 x y = R1 x y := r12 x y h1z h8'.1 (Or.inr (fun w => hq.2.2 (n12_hd w)))
      rw [r21]; exact hFM.2.2.2 x y (Or.inl hx) hz
    · show c ≤ c6 + (3 * rmA J a 10 + 41 * (J' 20 a - J 20 a) + 5).toNat
      rw [j20]; omega
    · show _ ≤ _ + _ + 64 * rmA J a 10 + 706 * (J' 20 a - J 20 a) + 604
      rw [j20, la69, l16'.1, l16'.2.1]
      omega
