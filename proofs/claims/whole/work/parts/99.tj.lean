/-! ===== a segment is freed; forget ===== -/
/-- the first pieces of segment S taken back -/
def tbJ (J : Int → Int → Int) (a S : Int) : Nat → Int → Int → Int
  | 0 => J
  | q + 1 => uJ (loseJ (tbJ J a S q) a (12 * S + q)) 25 (12 * S + q) (-1)
theorem lose_c {T : Int → Int → Int} {a p S : Int} : loseJ (uJ (uJ T 21 S 1) 22 S 0) a p = uJ (uJ (loseJ T a p) 21 S 1) 22 S 0 := by
  unfold loseJ
  rw [uJ_ne (by decide), uJ_ne (by decide), uJ_ne (by decide), uJ_ne (by decide), uJ_ne (by decide), uJ_ne (by decide)]
  split
  · rw [uJ_comm (k := 22) (k' := 26) (by decide), uJ_comm (k := 21) (k' := 26) (by decide), uJ_comm (k := 22) (k' := 10) (by decide), uJ_comm (k := 21) (k' := 10) (by decide)]
  · rfl
theorem frP_t {J : Int → Int → Int} {a S : Int} : ∀ q : Nat, frP J a S q = uJ (uJ (tbJ J a S q) 21 S 1) 22 S 0
  | 0 => rfl
  | q + 1 => by
    show uJ (loseJ (frP J a S q) a (12 * S + q)) 25 (12 * S + q) (-1) = uJ (uJ (uJ (loseJ (tbJ J a S q) a (12 * S + q)) 25 (12 * S + q) (-1)) 21 S 1) 22 S 0
    rw [frP_t q, lose_c, uJ_comm (k := 22) (k' := 25) (by decide), uJ_comm (k := 21) (k' := 25) (by decide)]
theorem tbJ_i {J : Int → Int → Int} {a S : Int} (h : GI J) (hV : VI J) (ha : 0 ≤ a ∧ a ≤ 9) (hs : 40 * a ≤ S ∧ S < 40 * a + 40) : ∀ n : Nat, n ≤ 12 → GI (tbJ J a S n) ∧ VI (tbJ J a S n) ∧ (∀ k x, k ≠ 26 → k ≠ 25 → k ≠ 10 → tbJ J a S n k x = J k x) ∧ (∀ p, 12 * S + n ≤ p → tbJ J a S n 25 p = J 25 p)
  | 0, _ => ⟨h, hV, fun _ _ _ _ _ => rfl, fun _ _ => rfl⟩
  | n + 1, hn => by
    obtain ⟨g1, g2, g3, g4⟩ := tbJ_i h hV ha hs n (by omega)
    refine ⟨g1.unb ha (by omega), g2.unb, fun k x k1 k2 k3 => ?_, fun p hp => ?_⟩
    · show uJ (loseJ (tbJ J a S n) a (12 * S + n)) 25 (12 * S + n) (-1) k x = _
      rw [uJ_ne k2, loseJ_o ⟨k1, k3⟩]; exact g3 k x k1 k2 k3
    · show uJ (loseJ (tbJ J a S n) a (12 * S + n)) 25 (12 * S + n) (-1) 25 p = _
      rw [uJ_self, upI_ne _ _ (by omega), loseJ_o (by decide)]; exact g4 p (by omega)
theorem tbJ_12 {J : Int → Int → Int} {a s : Int} (h : GI J) (hV : VI J) (ha : 0 ≤ a ∧ a ≤ 9) (hs : 0 ≤ s ∧ s < 40) : ∀ q : Nat, J (-1) 3 + q ≤ 12 → tbJ J a (40 * a + s) ((J (-1) 3).toNat + q) = tbJ J a (40 * a + s) (J (-1) 3).toNat
  | 0, _ => rfl
  | q + 1, hq => by
    have sc := h.2.1
    unfold SC at sc
    obtain ⟨g1, g2, g3, g4⟩ := tbJ_i (a := a) (S := 40 * a + s) h hV ha (by omega) ((J (-1) 3).toNat + q) (by omega)
    have b := hV.oi a s (((J (-1) 3).toNat + q : Nat) : Int) ha.1 ha.2 hs.1 hs.2 (by omega) (by omega) (Or.inr (by omega))
    have b2 := h.1.k25 (12 * (40 * a + s) + (((J (-1) 3).toNat + q : Nat) : Int))
    have e := g4 (12 * (40 * a + s) + (((J (-1) 3).toNat + q : Nat) : Int)) (Int.le_refl _)
    show uJ (loseJ (tbJ J a (40 * a + s) ((J (-1) 3).toNat + q)) a (12 * (40 * a + s) + (((J (-1) 3).toNat + q : Nat) : Int))) 25 (12 * (40 * a + s) + (((J (-1) 3).toNat + q : Nat) : Int)) (-1) = _
    rw [show loseJ (tbJ J a (40 * a + s) ((J (-1) 3).toNat + q)) a (12 * (40 * a + s) + (((J (-1) 3).toNat + q : Nat) : Int)) = tbJ J a (40 * a + s) ((J (-1) 3).toNat + q) from if_neg (fun z => by omega), uJ_same (by omega)]
    exact tbJ_12 h hV ha hs q (by omega)
theorem VI.fr {J : Int → Int → Int} {a s : Int} (h : VI J) (hG : GI J) (ha : 0 ≤ a ∧ a ≤ 9) (hs : 40 * a ≤ s ∧ s < 40 * a + 40) : VI (frP J a s 12) := by
  rw [frP_t]
  obtain ⟨g1, g2, g3, g4⟩ := tbJ_i hG h ha hs 12 (Nat.le_refl _)
  have o : ∀ k x, k ≠ 21 → k ≠ 22 → uJ (uJ (tbJ J a s 12) 21 s 1) 22 s 0 k x = tbJ J a s 12 k x := fun k x k1 k2 => by rw [uJ_ne k2, uJ_ne k1]
  refine ⟨fun p p0 p1 => ?_, fun a a0 a1 => ?_, fun a b a0 a1 b0 b1 => ?_, fun s j j' s0 s1 j0 j1 j2 j3 => ?_, fun a s j a0 a1 s0 s1 j0 j1 hh => ?_, fun s' hs' => ?_, fun hz a a0 a1 => ?_, fun a a0 a1 hz => ?_⟩
  · rw [o 25 _ (by decide) (by decide), o 26 _ (by decide) (by decide), o 5 _ (by decide) (by decide)]; exact g2.pi p p0 p1
  · rw [o 9 _ (by decide) (by decide)]; exact g2.li a a0 a1
  · rw [o 9 _ (by decide) (by decide), o 9 _ (by decide) (by decide)]; exact g2.sy a b a0 a1 b0 b1
  · rw [o 25 _ (by decide) (by decide), o 25 _ (by decide) (by decide)]; exact g2.uq s j j' s0 s1 j0 j1 j2 j3
  · rw [o 25 _ (by decide) (by decide)]; rw [o 20 _ (by decide) (by decide), o (-1) _ (by decide) (by decide)] at hh; exact g2.oi a s j a0 a1 s0 s1 j0 j1 hh
  · by_cases z : s' = s
    · rw [z, uJ_self, upI_self]
    · rw [uJ_self, upI_ne _ _ z, uJ_ne (by decide)]
      rw [uJ_ne (by decide), uJ_self, upI_ne _ _ z] at hs'
      exact g2.fh s' hs'
  · rw [o (-1) _ (by decide) (by decide)] at hz; rw [o 20 _ (by decide) (by decide)]; exact g2.se hz a a0 a1
  · rw [o 5 _ (by decide) (by decide)] at hz; rw [o 20 _ (by decide) (by decide)]; exact g2.nh a a0 a1 hz
theorem foA_v {J : Int → Int → Int} {a : Int} (h : GI J) (hV : VI J) (ha : 0 ≤ a ∧ a ≤ 9) : ∀ n : Nat, n ≤ 40 → VI (foA J a n).2
  | 0, _ => hV
  | n + 1, hn => by
    have ih := foA_v h hV ha n (by omega)
    have g1 := (foA_i h ha n (by omega)).1
    by_cases c : (foA J a n).2 21 (40 * a + n) ≠ 0 ∨ usJ (foA J a n).2 a (40 * a + n) 6 ≠ 0
    · rw [show foA J a (n + 1) = foA J a n from if_pos c]; exact ih
    · rw [show foA J a (n + 1) = ((foA J a n).1 + 1, frP (foA J a n).2 a (40 * a + n) 12) from if_neg c]
      exact ih.fr g1 ha (by omega)
theorem usI_c {J J' : Int → Int → Int} {sl S u : Int} (e : ∀ x, J' 18 x = J 18 x) : ∀ q : Nat, usI J' sl S u q = usI J sl S u q
  | 0 => rfl
  | q + 1 => by
    show (if _ then _ else _) = if _ then _ else _
    rw [usI_c e q, e]
theorem usJ_c {J J' : Int → Int → Int} {a S : Int} (e : ∀ k x, k = 16 ∨ k = 17 ∨ k = 18 → J' k x = J k x) : ∀ q : Nat, usJ J' a S q = usJ J a S q
  | 0 => rfl
  | q + 1 => by
    show (if _ then _ else _) = if _ then _ else _
    rw [usJ_c e q, e 16 _ (by decide), usI_c (fun x => e 18 x (by decide)), alJ_c (J := J) 10 (fun x _ => e 17 _ (by decide))]
set_option maxHeartbeats 1000000 in
theorem y_free {d : Nat} {K : Kt} {X : Xt} {J : Int → Int → Int} {E : Nm → Int → Int} {ty : Nm → Nat} {ln : Nm → Int} {I : Nm → Int → Int} {R : Nm → Int → Option Nm} {c w : Nat} {a s : Int} (h : RC J E ty ln I R) (hG : GI J) (hV : VI J) (hs : sgJ J a s) (k : ∀ I', RC (frP J a (40 * a + s) 12) E ty ln I' R → K none (ty, ln, I', R, c, w)) :
    Mth (d + 2) M_FB_free [vR (some [1]), vR (some [4, a]), vR (some [4, a, 8, s])] (ty, ln, I, R, c, w) K X := by
  have ha := hs.1
  obtain ⟨g0, ⟨gr0, gt0, gl0⟩, ⟨gr1, gt1, gl1⟩, ⟨gr2, gt2, gl2⟩, gp⟩ := h.sg a s hs
  obtain ⟨f1, fr0, fr1, fr2, fr3, fr4, fr5, ⟨ft0, fl0⟩, ⟨ft3, fl3⟩, ⟨ft4, fl4⟩, ⟨ft5, fl5⟩, ft16, fr160, fr161, ⟨ft160, fl160⟩, ⟨ft161, fl161⟩⟩ := id h.g.1
  have sc := h.g.2.2.2.2.2.2.2
  have key : ∀ q i : Nat, i + q = (J (-1) 3).toNat → ∀ I, RC (tbJ J a (40 * a + s) i) E ty ln I R → Rn (d + 1) M_FB_free K X 2 [vR (some [1]), vR (some [4, a]), vR (some [4, a, 8, s]), vI (i : Int)] [] (ty, ln, I, R, c, w) := by
    intro q
    induction q with
    | zero =>
      intro i hi I h
      obtain ⟨g1, g2, g3, g4⟩ := tbJ_i (a := a) (S := 40 * a + s) hG hV ha.1 (by omega) i (by omega)
      rw [b_FB_free_2, ex_some, and_t g0, gr2, ex_some, and_t (Or.inl (by omega)), if_pos (by omega), ex_some, and_t ⟨Or.inr rfl, g0, rfl⟩, ex_some, and_t ⟨Or.inl rfl, g0, rfl⟩]
      refine k _ ?_
      have e12 := tbJ_12 (a := a) (s := s) hG hV ha.1 (by omega) (12 - (J (-1) 3).toNat) (by omega)
      rw [show (J (-1) 3).toNat + (12 - (J (-1) 3).toNat) = 12 by omega] at e12
      rw [frP_t, e12, ← show i = (J (-1) 3).toNat by omega]
      have hs' : sgJ (tbJ J a (40 * a + s) i) a s := sgJ_c hs (g3 5 _ (by decide) (by decide) (by decide)) (g3 20 _ (by decide) (by decide) (by decide))
      exact (h.up (v := 1) (l21 hs') (by decide)).up (v := 0) (l22 (sgJ_c hs' (by rw [uJ_ne (by decide)]) (by rw [uJ_ne (by decide)]))) (by decide)
    | succ q ih =>
      intro i hi I h
      obtain ⟨g1, g2, g3, g4⟩ := tbJ_i (a := a) (S := 40 * a + s) hG hV ha.1 (by omega) i (by omega)
      obtain ⟨pr, pt, -⟩ := gp i (by omega) (by omega)
      have hp : piJ (tbJ J a (40 * a + s) i) a s i := piJ_c (J := J) ⟨hs, by omega, by omega, by omega⟩ (g3 5 _ (by decide) (by decide) (by decide)) (g3 20 _ (by decide) (by decide) (by decide)) (g3 (-1) _ (by decide) (by decide) (by decide))
      rw [b_FB_free_2, ex_some, and_t g0, gr2, ex_some, and_t (Or.inl (by omega)), if_neg (by omega), ex_some, and_t g0, gr2, ex_some, and_t ⟨⟨by omega, by omega⟩, by omega, by omega⟩, and_t f1, pr]
      refine y_takeBack h g1 g2 hp (fun I' h' => ?_)
      show Rn (d + 1) M_FB_free K X 22 _ [] _
      rw [b_FB_free_22, w32_id (by omega) (by omega)]
      exact ih (i + 1) (by omega) I' h'
  rw [in_FB_free, b_FB_free_0]
  exact key (J (-1) 3).toNat 0 (Nat.zero_add _) I h
set_option maxHeartbeats 4000000 in
theorem z_forget {d : Nat} {K : Kt} {X : Xt} {J : Int → Int → Int} {ty : Nm → Nat} {ln : Nm → Int} {I : Nm → Int → Int} {R : Nm → Int → Option Nm} {c w : Nat} {a n : Int} (h : RC J I ty ln I R) (hG : GI J) (hV : VI J) (hA : RLs J I ty ln R) (ha : hsJ J a) (k0 : 0 ≤ slotJ J a n → J 7 a = 0 → ∀ I' R', RC (foA (uJ J 16 (slotJ J a n) (-1)) a (J 20 a).toNat).2 I' ty ln I' R' → RLs (foA (uJ J 16 (slotJ J a n) (-1)) a (J 20 a).toNat).2 I' ty ln R' → FRM a ty ln I R ty ln I' R' → la R' a 7 = la R a 7 → K (some (vI (foA (uJ J 16 (slotJ J a n) (-1)) a (J 20 a).toNat).1)) (ty, ln, I', R', c, w)) (k1 : ¬ (0 ≤ slotJ J a n) → (1 ≤ c ∧ 6 ≤ w) ∧ X 1 (ty, ln, I, R, c - 1, w - 6)) (k2 : 0 ≤ slotJ J a n → J 7 a ≠ 0 → (1 ≤ c ∧ 6 ≤ w) ∧ X 2 (ty, ln, I, R, c - 1, w - 6)) :
    Mth (d + 8) M_FB_forget [vR (some [1]), vI a, vI n] (ty, ln, I, R, c, w) K X := by
  obtain ⟨f1, fr0, fr1, fr2, fr3, fr4, fr5, ⟨ft0, fl0⟩, ⟨ft3, fl3⟩, ⟨ft4, fl4⟩, ⟨ft5, fl5⟩, ft16, fr160, fr161, ⟨ft160, fl160⟩, ⟨ft161, fl161⟩⟩ := id h.g.1
  obtain ⟨t0, ⟨r2, t2, ll2⟩, ⟨r3, t3, ll3⟩, ⟨r4, t4, ll4⟩, ⟨r5, t5, ll5⟩, rw5, ⟨r6, t6, ll6⟩, ⟨r7, t7⟩, ⟨r8, t8⟩, ⟨r9, t9⟩⟩ := h.hs a ha
  obtain ⟨L, hL⟩ := hA a ha
  obtain ⟨h1, h2, h3, h4, h5, h6, h7, h8, h9, h10, h11, h12, h15⟩ := id hL
  have b7 := h.ri _ _ _ _ (l7 ha)
  obtain ⟨m, hm⟩ : ∃ m, 0 ≤ slotJ J a n → R (la R a 9) n = some m := by
    by_cases q : 0 ≤ slotJ J a n
    · obtain ⟨y, k, hk, ek, e16⟩ := slot_k ha.1.1 q
      have := h10.1 k hk
      obtain ⟨m, e1, _⟩ := h6 n y (by omega)
      exact ⟨m, fun _ => e1⟩
    · exact ⟨[], fun z => absurd z q⟩
  rw [in_FB_forget, b_FB_forget_0, and_t f1, x_houseOf_yes h.g ha]
  show Rn (d + 7) M_FB_forget K X 5 _ [vR (some [4, a])] _
  rw [b_FB_forget_5]
  refine y_snapshotOf h hL ha hm (fun q hs => ?_) (fun q => k1 q)
  obtain ⟨y, k, hk, ek, e16⟩ := slot_k ha.1.1 q
  show Rn (d + 7) M_FB_forget K X 11 _ [vR (some m)] _
  rw [b_FB_forget_11, ex_some, and_t t0, b7]
  by_cases q4 : J 7 a = 0
  · rw [if_neg (fun z => z q4), b_FB_forget_25, x_rS1 (by decide)]
    show Rn (d + 7) M_FB_forget K X 28 _ [] _
    rw [b_FB_forget_28, ex_some, and_t t0]
    refine y_dropSnapshot h hG hA hL ha y (hm q) hs ek hk ?_
    rw [← ek]
    intro I1 R1 hr hH hL1 hFM h7la
    have k20 := hG.1.k20 a
    obtain ⟨J1, ej⟩ : ∃ J1, J1 = (uJ J 16 (slotJ J a n) (-1)) := ⟨_, rfl⟩
    have k0' := k0 q q4
    rw [← ej] at hr hH hL1 k0'
    have ne : ∀ q x, q ≠ 16 → J1 q x = J q x := fun q x hq => by rw [ej, uJ_ne hq]
    have hG1 : GI J1 := by rw [ej]; exact hG.u (Or.inr ⟨by decide, by decide⟩) (Or.inl (by decide)) (by decide)
    have hV1 : VI J1 := hV.lost (fun k x hk => ne k x (by omega)) (fun x _ => ne _ _ (by decide)) (fun p _ _ => Or.inl ⟨ne _ _ (by decide), ne _ _ (by decide)⟩)
    have ha1 : hsJ J1 a := hsJ_c ha (ne _ _ (by decide))
    have e20 : J1 20 a = J 20 a := ne _ _ (by decide)
    obtain ⟨x1, x2, x3, x4, x5, x6, x7, x8, x9, x10, x11, x12, x15⟩ := id hH
    obtain ⟨tt0, -, -, -, -, -, -, -, ⟨rr8, tt8⟩, -⟩ := hr.hs a ha1
    show Rn (d + 7) M_FB_forget K X 34 _ [] _
    rw [b_FB_forget_34]
    have key : ∀ q i : Nat, i + q = (J 20 a).toNat → ∀ I2, RC (foA J1 a i).2 I1 ty ln I2 R1 → ∀ u7 : Vl, isLg u7 = false → Rn (d + 7) M_FB_forget K X 40 [vR (some [1]), vI a, vI n, vR (some [4, a]), vR (some m), vI (foA J1 a i).1, vI (i : Int), u7] [] (ty, ln, I2, R1, c, w) := by
      intro q
      induction q with
      | zero =>
        intro i hi I2 h2' u7 v7
        obtain ⟨gi, jm, jo, b1, b2⟩ := foA_i hG1 ha.1 i (by omega)
        rw [b_FB_forget_40 v7, ex_some, and_t tt0, rr8, ex_some, and_t tt8, y_size h2' (hsJ_c ha1 (jo 5 _ (by decide) (by decide) (by decide) (by decide) (by decide))), jo 20 _ (by decide) (by decide) (by decide) (by decide) (by decide), e20]
        show Rn (d + 7) M_FB_forget K X 49 _ [vI (J 20 a), vI (i : Int)] _
        rw [b_FB_forget_49 v7, if_pos (by omega), show i = (J 20 a).toNat by omega]
        rw [show i = (J 20 a).toNat by omega] at h2'
        rw [show i = (J 20 a).toNat by omega] at jo jm
        obtain ⟨-, jm, jo, -, -⟩ := foA_i hG1 ha.1 (J 20 a).toNat (by omega)
        have hR2 : RC (foA J1 a (J 20 a).toNat).2 I2 ty ln I2 R1 := ⟨h2'.1, h2'.2.1, h2'.2.2.1, h2'.2.2.2.1, h2'.2.2.2.2.1, h2'.2.2.2.2.2.1, h2'.2.2.2.2.2.2.1, h2'.2.2.2.2.2.2.2.1, fun _ _ _ => rfl⟩
        refine k0' I2 R1 hR2 (fun b hb => ?_) (hFM.trans (FRM.of (fun n x hx => h2'.ev n x (Or.inl (by unfold fxh at hx; omega))) (fun _ _ _ _ => rfl))) h7la
        have hb1 : hsJ J1 b := by unfold hsJ at hb ⊢; rw [jo 5 _ (by decide) (by decide) (by decide) (by decide) (by decide)] at hb; exact hb
        obtain ⟨Lb, hLb⟩ := hL1 b hb1
        refine ⟨Lb, hLb.cg ⟨fun _ _ => ⟨rfl, rfl⟩, fun n x _ _ he => h2'.ev n x he, fun _ _ _ _ => rfl⟩ (JB.same (fun k x hk => jo k x (by omega) (by omega) (by omega) (by omega) (by omega))) hb1.1.1 (fun s s0 s1 => ?_) (by rw [(hr.hs b hb1).1]; decide) hG1.1⟩
        have := hG1.1.k20 b
        rw [(hr.sg b s ⟨hb1, s0, by omega, s1⟩).1]; decide
      | succ q ih =>
        intro i hi I2 h2' u7 v7
        have ih' := ih (i + 1) (by omega)
        obtain ⟨gi, jm, jo, b1, b2⟩ := foA_i hG1 ha.1 i (by omega)
        have vi := foA_v hG1 hV1 ha.1 i (by omega)
        have hsi : sgJ (foA J1 a i).2 a i := sgJ_c (J := J1) ⟨ha1, by omega, by omega, by omega⟩ (jo 5 _ (by decide) (by decide) (by decide) (by decide) (by decide)) (jo 20 _ (by decide) (by decide) (by decide) (by decide) (by decide))
        have g0 := (h2'.sg a i hsi).1
        have us : usJ (foA J1 a i).2 a (40 * a + i) 6 = usJ J1 a (40 * a + i) 6 := usJ_c (fun k x hk => jo k x (by omega) (by omega) (by omega) (by omega) (by omega)) 6
        have i5 : I2 [4, a, 8, (i : Int)] 5 = cS (40 * a + i) (fil J1 a L) := by
          rw [h2'.ev _ _ (Or.inr (Or.inr (Or.inr (Or.inr ⟨a, i, rfl, rfl⟩))))]; exact x9 i (by omega) (by omega)
        have cu : cS (40 * a + i) (fil J1 a L) ≠ 0 ↔ usJ J1 a (40 * a + i) 6 ≠ 0 := by
          rw [(cS_p _).2.2, usJ_p]
          constructor
          · rintro ⟨e, he, p⟩
            obtain ⟨k', j', ⟨q1, q2, q3⟩, q5⟩ := x4.2.2.2 e he
            exact ⟨k', j', q1, q2.elim id (fun z => by omega), q3, by rw [q5]; exact p⟩
          · rintro ⟨k', j', q1, q2, q3, q5⟩
            obtain ⟨e, he, p1, p2⟩ := x4.2.2.1 k' j' ⟨q1, Or.inl q2, q3⟩
            exact ⟨e, he, by rw [p1]; exact q5⟩
        rw [b_FB_forget_40 v7, ex_some, and_t tt0, rr8, ex_some, and_t tt8, y_size h2' hsi.1, jo 20 _ (by decide) (by decide) (by decide) (by decide) (by decide), e20]
        show Rn (d + 7) M_FB_forget K X 49 _ [vI (J 20 a), vI (i : Int)] _
        rw [b_FB_forget_49 v7, if_neg (by omega), ex_some, and_t tt0, rr8, ex_some, and_t tt8, y_get h2' hsi]
        show Rn (d + 7) M_FB_forget K X 61 _ [vR (some [4, a, 8, (i : Int)])] _
        rw [b_FB_forget_61 v7, ck g0, ex_some, and_t g0, h2'.ri _ _ _ _ (l21 hsi)]
        have sk : (foA J1 a i).2 21 (40 * a + i) ≠ 0 ∨ usJ (foA J1 a i).2 a (40 * a + i) 6 ≠ 0 → Rn (d + 7) M_FB_forget K X 92 [vR (some [1]), vI a, vI n, vR (some [4, a]), vR (some m), vI (foA J1 a i).1, vI (i : Int), vR (some [4, a, 8, (i : Int)])] [] (ty, ln, I2, R1, c, w) := fun z => by
          rw [show foA J1 a (i + 1) = foA J1 a i from if_pos z] at ih'
          rw [b_FB_forget_92, w32_id (by omega) (by omega)]
          exact ih' I2 h2' _ rfl
        by_cases c1 : (foA J1 a i).2 21 (40 * a + i) = 0
        · rw [if_neg (fun z => z c1), ex_some, and_t g0, i5]
          by_cases c2 : cS (40 * a + i) (fil J1 a L) = 0
          · have cc : ¬ ((foA J1 a i).2 21 (40 * a + i) ≠ 0 ∨ usJ (foA J1 a i).2 a (40 * a + i) 6 ≠ 0) := fun z => z.elim (fun u => u c1) (fun u => by rw [us] at u; exact cu.mpr u c2)
            rw [show foA J1 a (i + 1) = ((foA J1 a i).1 + 1, frP (foA J1 a i).2 a (40 * a + i) 12) from if_neg cc] at ih'
            rw [if_neg (fun z => z c2), and_t f1]
            refine y_free h2' gi vi hsi (fun I3 h3' => ?_)
            show Rn (d + 7) M_FB_forget K X 89 _ [] _
            rw [b_FB_forget_89, b_FB_forget_92, w32_id (x := (foA J1 a i).1 + 1) (by omega) (by omega), w32_id (by omega) (by omega)]
            exact ih' I3 h3' _ rfl
          · rw [if_pos c2]
            exact sk (Or.inr (by rw [us]; exact cu.mp c2))
        · rw [if_pos c1]
          exact sk (Or.inl c1)
    exact key (J 20 a).toNat 0 (Nat.zero_add _) I1 hr vJ rfl
  · rw [if_pos q4, b_FB_forget_25, x_rS rfl]
    exact k2 q q4
