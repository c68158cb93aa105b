/-! ===== the class restores: the file, the whole ===== -/
theorem resQ_2 {J : Int → Int → Int} {n n' : Int} {G : Int → Int} (h : 0 ≤ n ∧ n ≤ n') : resQ (resQ J n G) n' G = resQ J n' G := by
  funext k x
  unfold resQ
  by_cases z : k = 36
  · subst z
    by_cases y : 0 ≤ x ∧ x < n'
    · rw [wJ_in y, wJ_in y]
    · rw [wJ_out (by omega), wJ_out (by omega), uJ_ne (by decide), wJ_out (by omega)]
      rw [uJ_ne (by decide), uJ_ne (by decide)]
  · rw [wJ_ne z, wJ_ne z]
    by_cases y : k = -1
    · subst y
      by_cases u : x = 35
      · rw [u, uJ_self, upI_self, uJ_self, upI_self]
      · rw [uJ_self, upI_ne _ _ u, wJ_ne (by decide), uJ_self, upI_ne _ _ u, uJ_self, upI_ne _ _ u]
    · rw [uJ_ne y, wJ_ne z, uJ_ne y, uJ_ne y]
theorem reS_rc {J : Int → Int → Int} {E : Nm → Int → Int} {ty : Nm → Nat} {ln : Nm → Int} {I : Nm → Int → Int} {R : Nm → Int → Option Nm} {k : Int} {q : Nat} (h : RC (resQ J (lnS J k q) (fun x => rdS J k q 37 x)) E ty ln I R) : RC (reS J k q) E ty ln I R := by
  refine h.js (fun m x m1 m2 m3 m4 m5 m6 => ?_) (fun x x1 x2 => ?_)
  · unfold reS resQ wJ
    split
    · rfl
    · rw [uJ_ne m1, uJ_ne m1, rdS_o ⟨m3, m4, m5, m6⟩]
  · unfold reS resQ
    rw [wJ_ne (by decide), wJ_ne (by decide)]
    by_cases u : x = 35
    · rw [u, uJ_self, upI_self, uJ_self, upI_self]
    · rw [uJ_self, upI_ne _ _ u, uJ_self, upI_ne _ _ u, rdS_o (by decide)]
set_option maxHeartbeats 4000000 in
theorem y_restoreFile {d : Nat} {K : Kt} {X : Xt} {J : Int → Int → Int} {ty : Nm → Nat} {ln : Nm → Int} {I : Nm → Int → Int} {R : Nm → Int → Option Nm} {c w : Nat} {a n t : Int} {L : List Ck} {m : Nm} {k : Nat} (h : RC J I ty ln I R) (hG : GI J) (hV : VI J) (hL : HLL J I ty ln R a L) (ha : hsJ J a) (hm : SNN J I ty ln R a L n m) (ek : slotJ J a n = 6 * a + (k : Int)) (hk : k < 6) (ht : 0 ≤ t ∧ t ≤ 9) (h17 : 0 ≤ J 17 (10 * (6 * a + (k : Int)) + t)) (hok : okR J ((500 * (6 * a + (k : Int)) + alJ J (6 * a + k) t.toNat) + J 17 (10 * (6 * a + k) + t)) (J 17 (10 * (6 * a + k) + t)).toNat = 1) (kk : ∀ I', RC (reS J (500 * (6 * a + (k : Int)) + alJ J (6 * a + k) t.toNat) (J 17 (10 * (6 * a + k) + t)).toNat) I ty ln I' R → K none (ty, ln, I', R, c, w)) :
    Mth (d + 5) M_FB_restoreFile [vR (some [1]), vR (some [4, a]), vR (some m), vI t] (ty, ln, I, R, c, w) K X := by
  obtain ⟨f1, fr0, fr1, fr2, fr3, fr4, fr5, ⟨ft0, fl0⟩, ⟨ft3, fl3⟩, ⟨ft4, fl4⟩, ⟨ft5, fl5⟩, ft16, fr160, fr161, ⟨ft160, fl160⟩, ⟨ft161, fl161⟩⟩ := id h.g.1
  obtain ⟨t0, ⟨r2, t2, ll2⟩, ⟨r3, t3, ll3⟩, ⟨r4, t4, ll4⟩, ⟨r5, t5, ll5⟩, rw5, ⟨r6, t6, ll6⟩, ⟨r7, t7⟩, ⟨r8, t8⟩, ⟨r9, t9⟩⟩ := h.hs a ha
  obtain ⟨h1, h2, h3, h4, h5, h6, h7, h8, h9, ⟨n1, n2, n3⟩, h11, h12, h15⟩ := id hL
  obtain ⟨s1, s2, s3, mc, st, hf, ⟨a1, a2, a3⟩, ⟨b1, b2, b3, b4⟩, ⟨d1, d2, d3, d4⟩, s4⟩ := id hm
  have ss : 0 ≤ slotJ J a n := by have := ha.1; omega
  obtain ⟨_, kx, hkx, ekx, e16⟩ := slot_k ha.1.1 ss
  obtain rfl : kx = k := by omega
  obtain ⟨g1, g2, g3, g4⟩ := s4 ss
  rw [ek] at g1 g2 g3 g4
  have a17 := (hG.1.k17 (10 * (6 * a + kx) + t)).2
  have al0 := alJ_0 (J := J) (sl := 6 * a + kx) t.toNat
  have al5 := alJ_50 (J := J) (sl := 6 * a + kx) (fun x => (hG.1.k17 x).2) t.toNat
  have als : alJ J (6 * a + kx) (t.toNat + 1) = alJ J (6 * a + kx) t.toNat + J 17 (10 * (6 * a + kx) + t) := by
    show alJ J (6 * a + kx) t.toNat + _ = _
    rw [Int.toNat_of_nonneg ht.1]
    by_cases z : J 17 (10 * (6 * a + kx) + t) ≤ 0
    · rw [if_pos z]; omega
    · rw [if_neg z]
  have alm : ∀ n m : Nat, n ≤ m → alJ J (6 * a + kx) n ≤ alJ J (6 * a + kx) m := by
    intro n m hnm
    induction m with
    | zero => rw [show n = 0 by omega]; exact Int.le_refl _
    | succ m ih =>
      by_cases z : n = m + 1
      · rw [z]; exact Int.le_refl _
      · have := ih (by omega)
        show _ ≤ alJ J (6 * a + kx) m + _
        split <;> omega
  have al10 := alm (t.toNat + 1) 10 (by omega)
  have i1 : I st t = alJ J (6 * a + kx) t.toNat := by have := g2 t.toNat (by omega); rw [Int.toNat_of_nonneg ht.1] at this; exact this
  have i2 : I st (t + 1) = alJ J (6 * a + kx) t.toNat + J 17 (10 * (6 * a + kx) + t) := by
    have := g2 (t.toNat + 1) (by omega)
    rw [als, show ((t.toNat + 1 : Nat) : Int) = t + 1 by omega] at this
    exact this
  have ll : lnS J (500 * (6 * a + (kx : Int)) + alJ J (6 * a + kx) t.toNat) (J 17 (10 * (6 * a + kx) + t)).toNat ≤ 200 := by
    have := n3 kx t.toNat hk (by omega) (by rw [e16]; have := (slot_k ha.1.1 ss).1; omega)
    rw [Int.toNat_of_nonneg ht.1] at this
    exact this
  have el : ∀ i : Nat, i < (J 17 (10 * (6 * a + kx) + t)).toNat → ∃ e ∈ L, R mc (alJ J (6 * a + kx) t.toNat + i) = some e.1 ∧ e.2.2.1 = J 18 ((500 * (6 * a + (kx : Int)) + alJ J (6 * a + kx) t.toNat) + i) ∧ e.2.2.2 = J 19 ((500 * (6 * a + (kx : Int)) + alJ J (6 * a + kx) t.toNat) + i) := fun i hi => by
    obtain ⟨e, he, r1, p1, p2⟩ := g4 ((alJ J (6 * a + kx) t.toNat).toNat + i) (by omega)
    rw [show (((alJ J (6 * a + kx) t.toNat).toNat + i : Nat) : Int) = alJ J (6 * a + kx) t.toNat + i by omega] at r1 p1 p2
    rw [← Int.add_assoc] at p1 p2
    exact ⟨e, he, r1, p1, p2⟩
  have ok2 : ∀ i : Nat, i < (J 17 (10 * (6 * a + kx) + t)).toNat → J (-1) 2 ≤ cntR J (J 18 ((500 * (6 * a + (kx : Int)) + alJ J (6 * a + kx) t.toNat) + i) / 60) (J (-1) 3).toNat := fun i hi => by
    have := okR_1 _ hok ((J 17 (10 * (6 * a + kx) + t)).toNat - 1 - i) (by omega)
    rw [show (500 * (6 * a + (kx : Int)) + alJ J (6 * a + kx) t.toNat) + J 17 (10 * (6 * a + (kx : Int)) + t) - ((((J 17 (10 * (6 * a + kx) + t)).toNat - 1 - i : Nat) : Int) + 1) = (500 * (6 * a + (kx : Int)) + alJ J (6 * a + kx) t.toNat) + i by omega] at this
    exact this
  have h60 : ∀ i : Nat, i < (J 17 (10 * (6 * a + kx) + t)).toNat → J 18 ((500 * (6 * a + (kx : Int)) + alJ J (6 * a + kx) t.toNat) + i) % 60 + J 19 ((500 * (6 * a + (kx : Int)) + alJ J (6 * a + kx) t.toNat) + i) ≤ 60 := fun i hi => by
    obtain ⟨e, he, _, p1, p2⟩ := el i hi
    rw [← p1, ← p2]
    exact (h4.2.1 e he).2.2.2
  have G37 := rdS_37 hG ok2 h60 (J 17 (10 * (6 * a + kx) + t)).toNat (Nat.le_refl _)
  have lm := fun i hi => (lnS_m (k := (500 * (6 * a + (kx : Int)) + alJ J (6 * a + kx) t.toNat)) hG.1 (J 17 (10 * (6 * a + kx) + t)).toNat).2 i hi
  have l0 := fun i => (lnS_m (k := (500 * (6 * a + (kx : Int)) + alJ J (6 * a + kx) t.toNat)) hG.1 i).1
  have Gb : ∀ x, 0 ≤ (fun x => rdS J (500 * (6 * a + (kx : Int)) + alJ J (6 * a + kx) t.toNat) (J 17 (10 * (6 * a + kx) + t)).toNat 37 x) x ∧ (fun x => rdS J (500 * (6 * a + (kx : Int)) + alJ J (6 * a + kx) t.toNat) (J 17 (10 * (6 * a + kx) + t)).toNat 37 x) x ≤ 255 := fun x => (rdS_g (k := (500 * (6 * a + (kx : Int)) + alJ J (6 * a + kx) t.toNat)) hG (J 17 (10 * (6 * a + kx) + t)).toNat).1.k37 x
  have key : ∀ q i : Nat, i + q = (J 17 (10 * (6 * a + kx) + t)).toNat → ∀ (x4 : Int) (I1 : Nm → Int → Int) (u6 : Vl), isLg u6 = false → RC (resQ J (lnS J (500 * (6 * a + (kx : Int)) + alJ J (6 * a + kx) t.toNat) i) (fun x => rdS J (500 * (6 * a + (kx : Int)) + alJ J (6 * a + kx) t.toNat) (J 17 (10 * (6 * a + kx) + t)).toNat 37 x)) I ty ln I1 R → (x4 = -1 ∨ ∀ x : Int, 0 ≤ x → x < 60 → I1 [1, 4] x = solJ J (40 * a + x4) 33 x) → Rn (d + 4) M_FB_restoreFile K X 16 [vR (some [1]), vR (some [4, a]), vR (some m), vI t, vI x4, vI (alJ J (6 * a + kx) t.toNat + i), u6] [] (ty, ln, I1, R, c, w) := by
    intro q
    induction q with
    | zero =>
      intro i hi x4 I1 u6 v6 hr hx
      have ev := hr.ev
      rw [b_FB_restoreFile_16 v6, ex_some, and_t s2, b1, ex_some, w32_id (by omega) (by omega), and_t ⟨Or.inl b2, by omega, by omega⟩, ev _ _ (ev12 b4), i2, if_pos (by omega)]
      refine kk I1 (reS_rc ?_)
      rw [show i = (J 17 (10 * (6 * a + kx) + t)).toNat by omega] at hr
      exact hr
    | succ q ih =>
      intro i hi x4 I1 u6 v6 hr hx
      have ev := hr.ev
      obtain ⟨e, he, r1, p1, p2⟩ := el i (by omega)
      obtain ⟨⟨c1, c2, c3, c4, c5, c6, c7, c8, c9⟩, -⟩ := h3 e he
      obtain ⟨l1, v1, v2, v3⟩ := h4.2.1 e he
      have k20 := hG.1.k20 a
      have hs : sgJ J a (e.2.2.1 / 60 - 40 * a) := ⟨ha, by omega, by omega, by omega⟩
      have lnn : lnS J (500 * (6 * a + (kx : Int)) + alJ J (6 * a + kx) t.toNat) (i + 1) = lnS J (500 * (6 * a + (kx : Int)) + alJ J (6 * a + kx) t.toNat) i + J 19 ((500 * (6 * a + (kx : Int)) + alJ J (6 * a + kx) t.toNat) + i) := rfl
      have lmi := lm (i + 1) (by omega)
      have l0i := l0 i
      -- the bytes are copied
      have cp : ∀ (I2 : Nm → Int → Int), RC (resQ J (lnS J (500 * (6 * a + (kx : Int)) + alJ J (6 * a + kx) t.toNat) i) (fun x => rdS J (500 * (6 * a + (kx : Int)) + alJ J (6 * a + kx) t.toNat) (J 17 (10 * (6 * a + kx) + t)).toNat 37 x)) I ty ln I2 R → (∀ x : Int, 0 ≤ x → x < 60 → I2 [1, 4] x = solJ J (40 * a + (e.2.2.1 / 60 - 40 * a)) 33 x) → Rn (d + 4) M_FB_restoreFile K X 78 [vR (some [1]), vR (some [4, a]), vR (some m), vI t, vI (e.2.2.1 / 60 - 40 * a), vI (alJ J (6 * a + kx) t.toNat + i), vR (some e.1)] [] (ty, ln, I2, R, c, w) := by
        intro I2 hr2 hx2
        have ev2 := hr2.ev
        have j6 : I2 [1] 6 = lnS J (500 * (6 * a + (kx : Int)) + alJ J (6 * a + kx) t.toNat) i := by rw [hr2.g.2.2.2.2.1.1, resQ_n]
        have j2 : I2 e.1 2 = e.2.2.1 % 60 := by rw [ev2 _ _ (ev12 c1), c8]
        have m0 := Int.emod_nonneg e.2.2.1 (show (60 : Int) ≠ 0 by decide)
        rw [b_FB_restoreFile_78, and_t f1, ex_some, and_t c3, and_t f1, and_t f1, ex_some, and_t c3, c4, ex_some, and_t (Or.inl (by omega)), fr3, ex_some, fr4, ex_some, j6, j2, and_t ⟨by omega, rfl, by omega, by omega, by omega, by omega, by omega⟩, if_pos ft3, and_t f1, ex_some, and_t c3, c4, ex_some, and_t (Or.inl (by omega)), and_t ⟨f1, rfl⟩, upN_ne _ _ (by decide), j6, c6, w32_id (by omega) (by omega), w32_id (by omega) (by omega), Int.add_assoc]
        refine ih (i + 1) (by omega) _ _ _ rfl ?_ (Or.inr (fun x x0 x1 => ?_))
        · rw [← resQ_2 (n := lnS J (500 * (6 * a + (kx : Int)) + alJ J (6 * a + kx) t.toNat) i) (by omega)]
          refine hr2.rs (by omega) (fun n x hn hx => ?_) (by rw [up2_self, upI_self, lnn, p2]) (fun x x0 x1 => ?_)
          · by_cases z : n = [1]
            · rw [z, up2_self, upI_ne _ _ (hx.elim (fun y => absurd z y) id), upN_ne _ _ (by decide)]
            · rw [up2_ne z, upN_ne _ _ hn]
          · rw [up2_ne (by decide), upN_self]
            unfold cpyI
            by_cases z : lnS J (500 * (6 * a + (kx : Int)) + alJ J (6 * a + kx) t.toNat) i ≤ x
            · rw [if_pos (by omega), hx2 _ (by omega) (by omega), G37 i (by omega) x z (by omega), ← p1, show 40 * a + (e.2.2.1 / 60 - 40 * a) = e.2.2.1 / 60 by omega]
            · rw [if_neg (by omega), hr2.g.2.2.2.2.2.1 x x0 (by rw [resQ_n]; omega)]
              unfold resQ
              rw [wJ_in (by omega)]
        · rw [up2_ne (by decide), upN_ne _ _ (by decide)]
          exact hx2 x x0 x1
      rw [b_FB_restoreFile_16 v6, ex_some, and_t s2, b1, ex_some, w32_id (x := t + 1) (by omega) (by omega), and_t ⟨Or.inl b2, by omega, by omega⟩, ev _ _ (ev12 b4), i2, if_neg (by omega), ex_some, and_t s2, a1, ex_some, and_t ⟨⟨by omega, by omega⟩, by omega, by omega⟩, r1, ex_some, and_t c3, ev _ _ (ev12 c1), c7]
      by_cases z : e.2.2.1 / 60 - 40 * a = x4
      · rw [if_pos z, ← z]
        refine cp I1 hr (hx.elim (fun y => by omega) (fun y => ?_))
        rw [z]; exact y
      · have hG' := hG.res (n := lnS J (500 * (6 * a + (kx : Int)) + alJ J (6 * a + kx) t.toNat) i) (G := fun x => rdS J (500 * (6 * a + (kx : Int)) + alJ J (6 * a + kx) t.toNat) (J 17 (10 * (6 * a + kx) + t)).toNat 37 x) (by omega) (fun x _ _ => Gb x)
        have hs' : sgJ (resQ J (lnS J (500 * (6 * a + (kx : Int)) + alJ J (6 * a + kx) t.toNat) i) (fun x => rdS J (500 * (6 * a + (kx : Int)) + alJ J (6 * a + kx) t.toNat) (J 17 (10 * (6 * a + kx) + t)).toNat 37 x)) a (e.2.2.1 / 60 - 40 * a) := sgJ_c hs (resQ_o (by decide) (Or.inl (by decide))) (resQ_o (by decide) (Or.inl (by decide)))
        have gs := (hr.sg a _ hs').1
        have o2 : resQ J (lnS J (500 * (6 * a + (kx : Int)) + alJ J (6 * a + kx) t.toNat) i) (fun x => rdS J (500 * (6 * a + (kx : Int)) + alJ J (6 * a + kx) t.toNat) (J 17 (10 * (6 * a + kx) + t)).toNat 37 x) (-1) 2 = J (-1) 2 := resQ_o (by decide) (Or.inr (by decide))
        have o3 : resQ J (lnS J (500 * (6 * a + (kx : Int)) + alJ J (6 * a + kx) t.toNat) i) (fun x => rdS J (500 * (6 * a + (kx : Int)) + alJ J (6 * a + kx) t.toNat) (J 17 (10 * (6 * a + kx) + t)).toNat 37 x) (-1) 3 = J (-1) 3 := resQ_o (by decide) (Or.inr (by decide))
        have hc : J (-1) 2 ≤ cntR J (40 * a + (e.2.2.1 / 60 - 40 * a)) (J (-1) 3).toNat := by
          rw [show 40 * a + (e.2.2.1 / 60 - 40 * a) = e.2.2.1 / 60 by omega, p1]; exact ok2 i (by omega)
        rw [if_neg z, ex_some, and_t t0, ex_some, and_t c3, r8, ex_some, and_t t8, ev _ _ (ev12 c1), c7, y_get hr hs']
        show Rn (d + 4) M_FB_restoreFile K X 61 _ [vR (some [4, a, 8, e.2.2.1 / 60 - 40 * a]), vR (some [1])] _
        rw [b_FB_restoreFile_61, ck gs, and_t f1, and_t f1, fr4]
        refine y_solve hr hG' hV.res pv_ok hs' (by rw [o2, o3, cntR_c3 (fun k x hk => resQ_o (by omega) (Or.inl (by omega)))]; exact hc) ft4 fl4 rfl (by decide) (fun I2 f1' f2' => ?_)
        show Rn (d + 4) M_FB_restoreFile K X 71 _ [] _
        have hr2 : RC (resQ J (lnS J (500 * (6 * a + (kx : Int)) + alJ J (6 * a + kx) t.toNat) i) (fun x => rdS J (500 * (6 * a + (kx : Int)) + alJ J (6 * a + kx) t.toNat) (J 17 (10 * (6 * a + kx) + t)).toNat 37 x)) I ty ln I2 R := hr.scr (fun n x n1 n2 n3 n4 n5 => f1' n x n4 n5 (Or.inl n1))
        rw [b_FB_restoreFile_71, ex_some, and_t c3, hr2.ev _ _ (ev12 c1), c7]
        refine cp I2 hr2 (fun x x0 x1 => ?_)
        rw [f2' x x0 x1]
        exact solJ_c hG.2.1.1 (fun k x hk => resQ_o (by omega) (Or.inl (by omega))) o2 o3 hc ⟨x0, x1⟩
  rw [in_FB_restoreFile, b_FB_restoreFile_0, and_t ⟨f1, rfl⟩, ex_some, and_t s2, b1, ex_some, and_t ⟨Or.inl b2, by omega, by omega⟩, up2_ne (fun z => by obtain ⟨y, hy⟩ := b4; rw [hy] at z; simp at z), i1]
  have k0 := key (J 17 (10 * (6 * a + kx) + t)).toNat 0 (Nat.zero_add _) (-1) (up2 I [1] 6 0) vJ rfl (h.rs (n := 0) (by decide) (fun n x hn hx => by
    by_cases z : n = [1]
    · rw [z, up2_self, upI_ne _ _ (hx.elim (fun y => absurd z y) id)]
    · rw [up2_ne z]) (by rw [up2_self, upI_self]) (fun x x0 x1 => by omega)) (Or.inl rfl)
  rw [show alJ J (6 * a + kx) t.toNat + ((0 : Nat) : Int) = alJ J (6 * a + kx) t.toNat by omega] at k0
  exact k0
set_option maxHeartbeats 2000000 in
theorem z_restore {d : Nat} {K : Kt} {X : Xt} {J : Int → Int → Int} {ty : Nm → Nat} {ln : Nm → Int} {I : Nm → Int → Int} {R : Nm → Int → Option Nm} {c w : Nat} {a n t : Int} {L : List Ck} (h : RC J I ty ln I R) (hG : GI J) (hV : VI J) (hL : HLL J I ty ln R a L) (ha : hsJ J a) (k0 : (0 ≤ slotJ J a n ∧ (0 ≤ t ∧ t ≤ 9) ∧ 0 ≤ J 17 (10 * slotJ J a n + t)) → J 7 a = 0 → okR J ((500 * slotJ J a n + alJ J (slotJ J a n) t.toNat) + J 17 (10 * slotJ J a n + t)) (J 17 (10 * slotJ J a n + t)).toNat = 1 → ∀ I', RC (reS J (500 * slotJ J a n + alJ J (slotJ J a n) t.toNat) (J 17 (10 * slotJ J a n + t)).toNat) I ty ln I' R → K (some (vI (lnS J (500 * slotJ J a n + alJ J (slotJ J a n) t.toNat) (J 17 (10 * slotJ J a n + t)).toNat))) (ty, ln, I', R, c, w)) (kn : (0 ≤ slotJ J a n ∧ (0 ≤ t ∧ t ≤ 9) ∧ 0 ≤ J 17 (10 * slotJ J a n + t)) → J 7 a = 0 → okR J ((500 * slotJ J a n + alJ J (slotJ J a n) t.toNat) + J 17 (10 * slotJ J a n + t)) (J 17 (10 * slotJ J a n + t)).toNat ≠ 1 → K (some (vI (-1))) (ty, ln, I, R, c, w)) (k1 : ¬ (0 ≤ slotJ J a n ∧ (0 ≤ t ∧ t ≤ 9) ∧ 0 ≤ J 17 (10 * slotJ J a n + t)) → (1 ≤ c ∧ 6 ≤ w) ∧ X 1 (ty, ln, I, R, c - 1, w - 6)) (k2 : (0 ≤ slotJ J a n ∧ (0 ≤ t ∧ t ≤ 9) ∧ 0 ≤ J 17 (10 * slotJ J a n + t)) → J 7 a ≠ 0 → (1 ≤ c ∧ 6 ≤ w) ∧ X 2 (ty, ln, I, R, c - 1, w - 6)) :
    Mth (d + 8) M_FB_restore [vR (some [1]), vI a, vI n, vI t] (ty, ln, I, R, c, w) K X := by
  obtain ⟨f1, fr0, fr1, fr2, fr3, fr4, fr5, ⟨ft0, fl0⟩, ⟨ft3, fl3⟩, ⟨ft4, fl4⟩, ⟨ft5, fl5⟩, ft16, fr160, fr161, ⟨ft160, fl160⟩, ⟨ft161, fl161⟩⟩ := id h.g.1
  obtain ⟨t0, ⟨r2, t2, ll2⟩, ⟨r3, t3, ll3⟩, ⟨r4, t4, ll4⟩, ⟨r5, t5, ll5⟩, rw5, ⟨r6, t6, ll6⟩, ⟨r7, t7⟩, ⟨r8, t8⟩, ⟨r9, t9⟩⟩ := h.hs a ha
  obtain ⟨h1, h2, h3, h4, h5, h6, h7, h8, h9, ⟨n1, n2, n3⟩, h11, h12, h15⟩ := id hL
  have b7 := h.ri _ _ _ _ (l7 ha)
  obtain ⟨m, hm⟩ : ∃ m, 0 ≤ slotJ J a n → R (la R a 9) n = some m := by
    by_cases q : 0 ≤ slotJ J a n
    · obtain ⟨y, k, hk, ek, e16⟩ := slot_k ha.1.1 q
      have := n1 k hk
      obtain ⟨m, e1, _⟩ := h6 n y (by omega)
      exact ⟨m, fun _ => e1⟩
    · exact ⟨[], fun z => absurd z q⟩
  rw [in_FB_restore, b_FB_restore_0, and_t f1, x_houseOf_yes h.g ha]
  show Rn (d + 7) M_FB_restore K X 5 _ [vR (some [4, a])] _
  rw [b_FB_restore_5]
  refine y_snapshotOf h hL ha hm (fun q hs => ?_) (fun q => k1 (fun z => q z.1))
  obtain ⟨y, k, hk, ek, e16⟩ := slot_k ha.1.1 q
  obtain ⟨s1, s2, s3, mc, st, hf, ⟨a1, a2, a3⟩, ⟨b1, b2, b3, b4⟩, ⟨d1, d2, d3, d4⟩, s4⟩ := id hs
  obtain ⟨g1, g2, g3, g4⟩ := s4 q
  show Rn (d + 7) M_FB_restore K X 13 _ [vR (some m)] _
  rw [b_FB_restore_13, s_FB_isTag]
  show Rn (d + 7) M_FB_restore K X 19 _ [vI _] _
  rw [b_FB_restore_19]
  by_cases q2 : 0 ≤ t ∧ t ≤ 9
  · have e3 : I hf t = if 0 ≤ J 17 (10 * slotJ J a n + t) then 1 else 0 := by have := g3 t.toNat (by omega); rw [Int.toNat_of_nonneg q2.1] at this; exact this
    rw [if_pos q2, if_neg (by decide), ex_some, and_t s2, d1, ex_some, and_t ⟨d2, by omega, by omega⟩, e3]
    by_cases q3 : 0 ≤ J 17 (10 * slotJ J a n + t)
    · rw [if_pos q3, if_neg (by decide), b_FB_restore_37, x_rA1 (by decide)]
      show Rn (d + 7) M_FB_restore K X 40 _ [] _
      rw [b_FB_restore_40, ex_some, and_t t0, b7]
      by_cases q4 : J 7 a = 0
      · rw [if_neg (fun z => z q4), b_FB_restore_53, x_rS1 (by decide)]
        show Rn (d + 7) M_FB_restore K X 56 _ [] _
        have h17 : 0 ≤ J 17 (10 * (6 * a + (k : Int)) + t) := by rw [← ek]; exact q3
        rw [b_FB_restore_56, and_t f1, y_canRestore h hG hV hL ha hs ek hk q2 h17, ← ek]
        show Rn (d + 7) M_FB_restore K X 65 _ [vI _] _
        rw [b_FB_restore_65]
        have orr : ∀ (e : Int) (q : Nat), okR J e q = 0 ∨ okR J e q = 1 := by
          intro e q
          induction q with
          | zero => exact Or.inr rfl
          | succ q ih =>
            unfold okR
            split
            · exact ih
            · exact Or.inl rfl
        by_cases q5 : okR J ((500 * slotJ J a n + alJ J (slotJ J a n) t.toNat) + J 17 (10 * slotJ J a n + t)) (J 17 (10 * slotJ J a n + t)).toNat = 1
        · rw [if_pos (by omega), and_t f1]
          refine y_restoreFile h hG hV hL ha hs ek hk q2 h17 (by rw [← ek]; exact q5) ?_
          rw [← ek]
          intro I' h'
          show Rn (d + 7) M_FB_restore K X 79 _ [] _
          have e35 : I' [1] 6 = lnS J (500 * slotJ J a n + alJ J (slotJ J a n) t.toNat) (J 17 (10 * slotJ J a n + t)).toNat := by
            rw [h'.g.2.2.2.2.1.1]
            unfold reS
            rw [wJ_ne (by decide), uJ_self, upI_self]
          rw [b_FB_restore_79, and_t f1, e35]
          exact k0 ⟨q, q2, q3⟩ q4 q5 I' h'
        · have := orr ((500 * slotJ J a n + alJ J (slotJ J a n) t.toNat) + J 17 (10 * slotJ J a n + t)) (J 17 (10 * slotJ J a n + t)).toNat
          rw [if_neg (by omega)]
          exact kn ⟨q, q2, q3⟩ q4 q5
      · rw [if_pos q4, b_FB_restore_53, x_rS rfl]
        exact k2 ⟨q, q2, q3⟩ q4
    · rw [if_neg q3, if_pos rfl, b_FB_restore_36, b_FB_restore_37, x_rA rfl]
      exact k1 (fun z => q3 z.2.2)
  · rw [if_neg q2, if_pos rfl, b_FB_restore_36, b_FB_restore_37, x_rA rfl]
    exact k1 (fun z => q2 z.2.1)
