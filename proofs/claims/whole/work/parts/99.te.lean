/-! ===== the class restores ===== -/
theorem elA_c {A A' : Int → Int → Int} {k : Int} (h : ∀ r c : Int, 0 ≤ r → r < k → A r c = A' r c) : ∀ n : Nat, (n : Int) ≤ k → ∀ r c : Int, 0 ≤ r → r < k → elA A n r c = elA A' n r c
  | 0, _, r, c, r0, r1 => h r c r0 r1
  | n + 1, hn, r, c, r0, r1 => by
    have ih := elA_c h n (by omega)
    show stepA _ _ r c = stepA _ _ r c
    unfold stepA
    rw [ih n n (by omega) (by omega), ih n c (by omega) (by omega), ih r c r0 r1, ih r n r0 r1]
theorem selJ_c {J J' : Int → Int → Int} {s : Int} {K : Nat} (e : ∀ k x, k = 6 ∨ k = 25 ∨ k = 26 → J' k x = J k x) : ∀ n : Nat, selJ J' s K n = selJ J s K n
  | 0 => rfl
  | n + 1 => by
    show (if _ then _ else _) = if _ then _ else _
    have : isR J' (12 * s + n) = isR J (12 * s + n) := by
      unfold isR
      rw [e 25 _ (by decide), e 26 _ (by decide), e 6 _ (by decide)]
    rw [selJ_c e n]
    simp only [this]
theorem cntR_c3 {J J' : Int → Int → Int} {s : Int} (e : ∀ k x, k = 6 ∨ k = 25 ∨ k = 26 → J' k x = J k x) : ∀ n : Nat, cntR J' s n = cntR J s n
  | 0 => rfl
  | n + 1 => by
    show (if _ then _ else _) = if _ then _ else _
    have : isR J' (12 * s + n) = isR J (12 * s + n) := by
      unfold isR
      rw [e 25 _ (by decide), e 26 _ (by decide), e 6 _ (by decide)]
    rw [cntR_c3 e n]
    simp only [this]
theorem solJ_c {J J' : Int → Int → Int} {s : Int} (hk : 2 ≤ J (-1) 2 ∧ J (-1) 2 ≤ 6) (e : ∀ k x, k = 6 ∨ k = 25 ∨ k = 26 ∨ k = 27 → J' k x = J k x) (e2 : J' (-1) 2 = J (-1) 2) (e3 : J' (-1) 3 = J (-1) 3) (hc : J (-1) 2 ≤ cntR J s (J (-1) 3).toNat) {x : Int} (hx : 0 ≤ x ∧ x < 60) : solJ J' s 33 x = solJ J s 33 x := by
  rw [solJ_33 hx, solJ_33 hx, e2]
  obtain ⟨y1, y2, y3, y4⟩ := sol_ix hk rfl hx
  unfold solE
  rw [e2, e3, selJ_c (fun k x hk => e k x (by omega))]
  have sl := selJ_len (J := J) (s := s) (K := (J (-1) 2).toNat) (J (-1) 3).toNat
  refine elA_c (k := J (-1) 2) (fun r c r0 r1 => ?_) _ (by omega) _ _ y1 y2
  rw [sysA_e (by omega), sysA_e (by omega), e 27 _ (by decide)]
theorem rdS_37 {J : Int → Int → Int} {k : Int} (hG : GI J) {Q : Nat} (hok : ∀ i : Nat, i < Q → J (-1) 2 ≤ cntR J (J 18 (k + i) / 60) (J (-1) 3).toNat) (h60 : ∀ i : Nat, i < Q → J 18 (k + i) % 60 + J 19 (k + i) ≤ 60) : ∀ q : Nat, q ≤ Q → ∀ i : Nat, i < q → ∀ x, lnS J k i ≤ x → x < lnS J k i + J 19 (k + i) → rdS J k q 37 x = solJ J (J 18 (k + i) / 60) 33 (J 18 (k + i) % 60 + (x - lnS J k i))
  | 0, _, i, hi, _, _, _ => absurd hi (Nat.not_lt_zero _)
  | q + 1, hq, i, hi, x, x0, x1 => by
    have o18 : ∀ y, rdS J k q 18 y = J 18 y := fun y => rdS_o (by decide) q
    have o19 : ∀ y, rdS J k q 19 y = J 19 y := fun y => rdS_o (by decide) q
    show rdJ (rdS J k q) (k + q) (lnS J k q) 37 x = _
    unfold rdJ
    by_cases z : i = q
    · subst z
      rw [wJ_in ⟨x0, by rw [o19]; exact x1⟩, o18]
      have m0 := Int.emod_nonneg (J 18 (k + i)) (show (60 : Int) ≠ 0 by decide)
      have := h60 i (by omega)
      exact solJ_c hG.2.1.1 (fun k x hk => rdS_o (by omega) i) (rdS_o (by decide) i) (rdS_o (by decide) i) (hok i (by omega)) (by omega)
    · have mm := (lnS_m (k := k) hG.1 q).2 (i + 1) (by omega)
      have e : lnS J k (i + 1) = lnS J k i + J 19 (k + i) := rfl
      rw [wJ_out (by omega), solJ_o (by decide)]
      exact rdS_37 hG hok h60 q (by omega) i (by omega) x x0 x1
/-- what was restored, n bytes of it -/
def resQ (J : Int → Int → Int) (n : Int) (G : Int → Int) : Int → Int → Int := wJ (uJ J (-1) 35 n) 36 0 n G
theorem resQ_o {J : Int → Int → Int} {n k x : Int} {G : Int → Int} (h : k ≠ 36) (h2 : k ≠ -1 ∨ x ≠ 35) : resQ J n G k x = J k x := by
  unfold resQ
  rw [wJ_ne h]
  by_cases z : k = -1
  · rw [z, uJ_self, upI_ne _ _ (h2.elim (fun y => absurd z y) id)]
  · rw [uJ_ne z]
theorem resQ_n {J : Int → Int → Int} {n : Int} {G : Int → Int} : resQ J n G (-1) 35 = n := by
  unfold resQ
  rw [wJ_ne (by decide), uJ_self, upI_self]
theorem GI.res {J : Int → Int → Int} {n : Int} {G : Int → Int} (h : GI J) (hn : 0 ≤ n ∧ n ≤ 200) (hg : ∀ x, 0 ≤ x → x < n → 0 ≤ G x ∧ G x ≤ 255) : GI (resQ J n G) := by
  obtain ⟨h1, h2, h3⟩ := h
  refine ⟨?_, ?_, h3.keep (fun x _ _ => resQ_o (by decide) (Or.inl (by decide))) (fun p => ⟨resQ_o (by decide) (Or.inl (by decide)), resQ_o (by decide) (Or.inl (by decide))⟩)⟩
  · exact (h1.u (Or.inl rfl)).w (fun x x0 x1 => hg x x0 x1)
  · unfold SC at h2 ⊢
    rw [resQ_n, resQ_o (by decide) (Or.inr (by decide)), resQ_o (by decide) (Or.inr (by decide)), resQ_o (by decide) (Or.inr (by decide)), resQ_o (by decide) (Or.inr (by decide))]
    exact ⟨h2.1, h2.2.1, hn, h2.2.2.2⟩
theorem VI.res {J : Int → Int → Int} {n : Int} {G : Int → Int} (h : VI J) : VI (resQ J n G) :=
  h.lost (fun k x hk => resQ_o (by omega) (Or.inl (by omega))) (fun x hx => resQ_o (by decide) (Or.inr (by omega))) (fun p _ _ => Or.inl ⟨resQ_o (by decide) (Or.inl (by decide)), resQ_o (by decide) (Or.inl (by decide))⟩)
theorem RC.rs {J : Int → Int → Int} {E : Nm → Int → Int} {ty : Nm → Nat} {ln : Nm → Int} {I I' : Nm → Int → Int} {R : Nm → Int → Option Nm} {n : Int} {G : Int → Int} (h : RC J E ty ln I R) (hn : 0 ≤ n ∧ n ≤ 200) (i1 : ∀ m x, m ≠ [1, 3] → (m ≠ [1] ∨ x ≠ 6) → I' m x = I m x) (i6 : I' [1] 6 = n) (i3 : ∀ x, 0 ≤ x → x < n → I' [1, 3] x = G x) : RC (resQ J n G) E ty ln I' R := by
  obtain ⟨⟨g1, g2, g3, g4, g5, g6, g7, g8⟩, h2, h3, h4, h5, h6, h7, h8, h9⟩ := h
  have j5 : ∀ x, resQ J n G 5 x = J 5 x := fun x => resQ_o (by decide) (Or.inl (by decide))
  have j20 : ∀ x, resQ J n G 20 x = J 20 x := fun x => resQ_o (by decide) (Or.inl (by decide))
  have jm : ∀ x, x ≠ 35 → resQ J n G (-1) x = J (-1) x := fun x hx => resQ_o (by decide) (Or.inr hx)
  have i4 : ∀ a l x, I' (4 :: a :: l) x = I (4 :: a :: l) x := fun a l x => i1 _ _ (by simp) (Or.inl (by simp))
  refine ⟨⟨g1, g2, g3.o (fun m x _ m2 m3 => i1 m x (fun z => by rw [z] at m3; exact absurd m3 (by decide)) (Or.inl (fun z => by rw [z] at m3; exact absurd m3 (by decide)))), ?_, ?_, ?_, ?_, ?_⟩, ?_, ?_, ?_, ?_, ?_, ?_, ?_, ?_⟩
  · rw [i1 _ _ (by decide) (Or.inl (by decide)), i1 _ _ (by decide) (Or.inl (by decide)), i1 _ _ (by decide) (Or.inl (by decide)), jm 2 (by decide), jm 3 (by decide)]; exact g4
  · rw [i6, resQ_n, i1 _ _ (by decide) (Or.inr (by decide)), i1 _ _ (by decide) (Or.inr (by decide)), jm 4 (by decide), jm 1 (by decide)]; exact ⟨rfl, g5.2⟩
  · rw [resQ_n]
    intro x x0 x1
    rw [i3 x x0 x1]
    unfold resQ
    rw [wJ_in ⟨x0, x1⟩]
  · intro a a0 a1
    rw [j5]; exact g7 a a0 a1
  · rw [jm 2 (by decide), jm 3 (by decide), resQ_n, jm 4 (by decide), jm 1 (by decide)]
    exact ⟨g8.1, g8.2.1, hn, g8.2.2.2⟩
  · intro a ha
    unfold hsJ at ha
    rw [j5] at ha; exact h2 a ha
  · intro a ha
    unfold hsJ at ha
    rw [j5] at ha; rw [i4]; exact h3 a ha
  · intro a ha
    unfold hsJ at ha
    rw [j5] at ha; rw [i4, j20]; exact h4 a ha
  · intro a s hs
    unfold sgJ at hs
    rw [j5, j20] at hs; exact h5 a s hs
  · intro a s hs
    unfold sgJ at hs
    rw [j5, j20] at hs; rw [jm 3 (by decide), jm 2 (by decide)]; exact h6 a s hs
  · intro m x k y hl
    have hl' : LK J m x k y := hl.cg j5 (fun x => resQ_o (by decide) (Or.inl (by decide))) (fun x => resQ_o (by decide) (Or.inl (by decide))) j20 (fun x => by
      by_cases z : x = 35
      · exact Or.inr ⟨by omega, by omega⟩
      · exact Or.inl (jm x z))
    have h4' := hl'.hd4
    rw [i1 m x (fun z => by rw [z] at h4'; exact absurd h4' (by decide)) (Or.inl (fun z => by rw [z] at h4'; exact absurd h4' (by decide))), resQ_o ?_ (Or.inl ?_)]
    · exact h7 m x k y hl'
    all_goals (unfold LK at hl'; rcases hl' with ⟨a, h1, rfl, h3, h4⟩ | ⟨a, b, h1, rfl, h3, h4, h5, h6⟩ | ⟨a, t, h1, rfl, h3, h4, h5, h6⟩ | ⟨a, s, h1, rfl, h3, h4⟩ | ⟨a, s, b, h1, rfl, h3, h4, h5, h6⟩ | ⟨a, s, j, h1, rfl, h3, h4⟩ | ⟨a, s, j, h1, rfl, h3, h4, h5⟩ | ⟨a, s, j, h1, rfl, h3, h4, h5⟩ <;> omega)
  · intro a t ha t0 t1
    unfold hsJ at ha
    rw [j5] at ha
    rw [i4, resQ_o (by decide) (Or.inl (by decide)), resQ_o (by decide) (Or.inl (by decide))]; exact h8 a t ha t0 t1
  · intro m x he
    rw [i1 m x ?_ (Or.inl ?_)]
    · exact h9 m x he
    all_goals (intro z; rw [z] at he; unfold evC at he; rcases he with g | ⟨a', k', l', g, g'⟩ | ⟨a', g⟩ | ⟨a', g, g'⟩ | ⟨a', s', g, g'⟩ <;> simp [hd] at g)
set_option maxHeartbeats 1000000 in
theorem y_canRestore {d : Nat} {K : Kt} {X : Xt} {J : Int → Int → Int} {ty : Nm → Nat} {ln : Nm → Int} {I : Nm → Int → Int} {R : Nm → Int → Option Nm} {c w : Nat} {a n t : Int} {L : List Ck} {m : Nm} {k : Nat} (h : RC J I ty ln I R) (hG : GI J) (hV : VI J) (hL : HLL J I ty ln R a L) (ha : hsJ J a) (hm : SNN J I ty ln R a L n m) (ek : slotJ J a n = 6 * a + (k : Int)) (hk : k < 6) (ht : 0 ≤ t ∧ t ≤ 9) (h17 : 0 ≤ J 17 (10 * (6 * a + (k : Int)) + t)) :
    Mth (d + 5) M_FB_canRestore [vR (some [1]), vR (some [4, a]), vR (some m), vI t] (ty, ln, I, R, c, w) K X = K (some (vI (okR J (500 * (6 * a + (k : Int)) + alJ J (6 * a + k) t.toNat + J 17 (10 * (6 * a + k) + t)) (J 17 (10 * (6 * a + k) + t)).toNat))) (ty, ln, I, R, c, w) := by
  obtain ⟨f1, fr0, fr1, fr2, fr3, fr4, fr5, ⟨ft0, fl0⟩, ⟨ft3, fl3⟩, ⟨ft4, fl4⟩, ⟨ft5, fl5⟩, ft16, fr160, fr161, ⟨ft160, fl160⟩, ⟨ft161, fl161⟩⟩ := id h.g.1
  obtain ⟨t0, ⟨r2, t2, ll2⟩, ⟨r3, t3, ll3⟩, ⟨r4, t4, ll4⟩, ⟨r5, t5, ll5⟩, rw5, ⟨r6, t6, ll6⟩, ⟨r7, t7⟩, ⟨r8, t8⟩, ⟨r9, t9⟩⟩ := h.hs a ha
  obtain ⟨h1, h2, h3, h4, h5, h6, h7, h8, h9, h10, h11, h12, h15⟩ := id hL
  obtain ⟨s1, s2, s3, mc, st, hf, ⟨a1, a2, a3⟩, ⟨b1, b2, b3, b4⟩, ⟨d1, d2, d3, d4⟩, s4⟩ := id hm
  have ss : 0 ≤ slotJ J a n := by have := ha.1; omega
  obtain ⟨g1, g2, g3, g4⟩ := s4 ss
  rw [ek] at g1 g2 g3 g4
  have sc := h.g.2.1.1
  have k3 := h.g.2.2.2.1.1
  have a17 := (hG.1.k17 (10 * (6 * a + k) + t)).2
  have al0 := alJ_0 (J := J) (sl := 6 * a + k) t.toNat
  have al5 := alJ_50 (J := J) (sl := 6 * a + k) (fun x => (hG.1.k17 x).2) t.toNat
  have als : alJ J (6 * a + k) (t.toNat + 1) = alJ J (6 * a + k) t.toNat + J 17 (10 * (6 * a + k) + t) := by
    show alJ J (6 * a + k) t.toNat + _ = _
    rw [Int.toNat_of_nonneg ht.1]
    by_cases z : J 17 (10 * (6 * a + k) + t) ≤ 0
    · rw [if_pos z]; omega
    · rw [if_neg z]
  have alm : ∀ n m : Nat, n ≤ m → alJ J (6 * a + k) n ≤ alJ J (6 * a + k) m := by
    intro n m hnm
    induction m with
    | zero => rw [show n = 0 by omega]; exact Int.le_refl _
    | succ m ih =>
      by_cases z : n = m + 1
      · rw [z]; exact Int.le_refl _
      · have := ih (by omega)
        show _ ≤ alJ J (6 * a + k) m + _
        split <;> omega
  have al10 := alm (t.toNat + 1) 10 (by omega)
  have i1 : I st t = alJ J (6 * a + k) t.toNat := by have := g2 t.toNat (by omega); rw [Int.toNat_of_nonneg ht.1] at this; exact this
  have i2 : I st (t + 1) = alJ J (6 * a + k) t.toNat + J 17 (10 * (6 * a + k) + t) := by
    have := g2 (t.toNat + 1) (by omega)
    rw [als, show ((t.toNat + 1 : Nat) : Int) = t + 1 by omega] at this
    exact this
  have key : ∀ q i : Nat, i + q = (J 17 (10 * (6 * a + k) + t)).toNat → Rn (d + 4) M_FB_canRestore K X 8 [vR (some [1]), vR (some [4, a]), vR (some m), vI t, vI (alJ J (6 * a + k) t.toNat + i)] [] (ty, ln, I, R, c, w) = K (some (vI (okR J (500 * (6 * a + (k : Int)) + alJ J (6 * a + k) t.toNat + J 17 (10 * (6 * a + k) + t)) q))) (ty, ln, I, R, c, w) := by
    intro q
    induction q with
    | zero =>
      intro i hi
      rw [b_FB_canRestore_8, ex_some, and_t s2, b1, ex_some, w32_id (by omega) (by omega), and_t ⟨Or.inl b2, by omega, by omega⟩, i2, if_pos (by omega), and_t (Or.inr rfl)]
      rfl
    | succ q ih =>
      intro i hi
      obtain ⟨e, he, r1, p1, p2⟩ := g4 ((alJ J (6 * a + k) t.toNat).toNat + i) (by omega)
      rw [show (((alJ J (6 * a + k) t.toNat).toNat + i : Nat) : Int) = alJ J (6 * a + k) t.toNat + i by omega] at r1 p1 p2
      obtain ⟨⟨c1, c2, c3, c4, c5, c6, c7, c8, c9⟩, -⟩ := h3 e he
      obtain ⟨l1, v1, v2, v3⟩ := h4.2.1 e he
      have k20 := hG.1.k20 a
      have hs : sgJ J a (e.2.2.1 / 60 - 40 * a) := ⟨ha, by omega, by omega, by omega⟩
      have gs := (h.sg a _ hs).1
      rw [b_FB_canRestore_8, ex_some, and_t s2, b1, ex_some, w32_id (x := t + 1) (by omega) (by omega), and_t ⟨Or.inl b2, by omega, by omega⟩, i2, if_neg (by omega), ex_some, and_t t0, ex_some, and_t s2, a1, ex_some, and_t ⟨⟨by omega, by omega⟩, by omega, by omega⟩, r1, ex_some, and_t c3, r8, ex_some, and_t t8, c7, y_get h hs]
      show Rn (d + 4) M_FB_canRestore K X 39 _ [vR (some [4, a, 8, e.2.2.1 / 60 - 40 * a]), vR (some [1])] _ = _
      rw [b_FB_canRestore_39, ck gs, and_t f1, y_countReachable h hs (hV.pb hG.1)]
      show Rn (d + 4) M_FB_canRestore K X 45 _ [vI _] _ = _
      rw [b_FB_canRestore_45, and_t f1, fr1, ex_some, and_t sc, k3]
      have ei : 500 * (6 * a + (k : Int)) + alJ J (6 * a + k) t.toNat + J 17 (10 * (6 * a + k) + t) - (q + 1) = 500 * (6 * a + k) + (alJ J (6 * a + k) t.toNat + i) := by omega
      have ec : cntR J (40 * a + (e.2.2.1 / 60 - 40 * a)) (J (-1) 3).toNat = cntR J (J 18 (500 * (6 * a + (k : Int)) + alJ J (6 * a + k) t.toNat + J 17 (10 * (6 * a + k) + t) - (q + 1)) / 60) (J (-1) 3).toNat := by
        rw [ei, ← p1, show 40 * a + (e.2.2.1 / 60 - 40 * a) = e.2.2.1 / 60 by omega]
      rw [ec]
      by_cases z : J (-1) 2 ≤ cntR J (J 18 (500 * (6 * a + (k : Int)) + alJ J (6 * a + k) t.toNat + J 17 (10 * (6 * a + k) + t) - (q + 1)) / 60) (J (-1) 3).toNat
      · rw [if_pos z, w32_id (by omega) (by omega)]
        have ih' := ih (i + 1) (by omega)
        rw [show alJ J (6 * a + k) t.toNat + ((i + 1 : Nat) : Int) = alJ J (6 * a + k) t.toNat + i + 1 by omega] at ih'
        rw [ih', show okR J (500 * (6 * a + (k : Int)) + alJ J (6 * a + k) t.toNat + J 17 (10 * (6 * a + k) + t)) (q + 1) = okR J (500 * (6 * a + (k : Int)) + alJ J (6 * a + k) t.toNat + J 17 (10 * (6 * a + k) + t)) q from if_pos z]
      · rw [if_neg z, and_t (Or.inl rfl), show okR J (500 * (6 * a + (k : Int)) + alJ J (6 * a + k) t.toNat + J 17 (10 * (6 * a + k) + t)) (q + 1) = 0 from if_neg z]
  rw [in_FB_canRestore, b_FB_canRestore_0, ex_some, and_t s2, b1, ex_some, and_t ⟨Or.inl b2, by omega, by omega⟩, i1]
  have k0 := key (J 17 (10 * (6 * a + k) + t)).toNat 0 (Nat.zero_add _)
  rw [show alJ J (6 * a + k) t.toNat + ((0 : Nat) : Int) = alJ J (6 * a + k) t.toNat by omega] at k0
  exact k0
