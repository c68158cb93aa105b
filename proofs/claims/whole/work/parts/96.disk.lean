/-! ===== the class on the relation: loseDisk ===== -/
/-- the first n pieces that lie with a lost, and the first m of its counts 0 -/
def dJ (J : Int → Int → Int) (a n m : Int) : Int → Int → Int := fun k x => if k = 26 ∧ x < n ∧ J 25 x = a then 0 else if k = 10 ∧ 10 * a ≤ x ∧ x < 10 * a + m then 0 else J k x
theorem dJ_o {J : Int → Int → Int} {a n m k x : Int} (h : k ≠ 26 ∧ k ≠ 10) : dJ J a n m k x = J k x := by
  unfold dJ
  rw [if_neg (fun z => h.1 z.1), if_neg (fun z => h.2 z.1)]
theorem dJ_26 {J : Int → Int → Int} {a n m x : Int} : dJ J a n m 26 x = if x < n ∧ J 25 x = a then 0 else J 26 x := by
  unfold dJ
  by_cases z : x < n ∧ J 25 x = a
  · rw [if_pos ⟨rfl, z⟩, if_pos z]
  · rw [if_neg (fun y => z y.2), if_neg (fun y => absurd y.1 (by decide)), if_neg z]
theorem dJ_10 {J : Int → Int → Int} {a n m x : Int} : dJ J a n m 10 x = if 10 * a ≤ x ∧ x < 10 * a + m then 0 else J 10 x := by
  unfold dJ
  rw [if_neg (fun y => absurd y.1 (by decide))]
  by_cases z : 10 * a ≤ x ∧ x < 10 * a + m
  · rw [if_pos ⟨rfl, z⟩, if_pos z]
  · rw [if_neg (fun y => z y.2), if_neg z]
theorem RC.eqv {J J' : Int → Int → Int} {E : Nm → Int → Int} {ty : Nm → Nat} {ln : Nm → Int} {I : Nm → Int → Int} {R : Nm → Int → Option Nm} (h : RC J E ty ln I R) (j : ∀ k x, k = 5 ∨ k = 12 ∨ k = 13 ∨ k = 20 ∨ k = 36 → J' k x = J k x) (jm : ∀ x, x ≠ 0 → x ≠ 30 → J' (-1) x = J (-1) x) (e : ∀ n x k y, LK J n x k y → J' k y = J k y) : RC J' E ty ln I R :=
  h.step j jm (fun _ _ _ _ _ _ _ => rfl) (fun _ _ _ => rfl) (fun _ _ => rfl) (fun _ => rfl) (fun n x k y hl => Or.inl ⟨rfl, e n x k y hl⟩)
/-- the piece words among the linked ones -/
theorem LK.p26 {J : Int → Int → Int} {n : Nm} {x y : Int} (h : LK J n x 26 y) : ∃ a s j, piJ J a s j ∧ y = 12 * (40 * a + s) + j := by
  unfold LK at h
  rcases h with ⟨a', h1, rfl, h3, h4⟩ | ⟨a', b', h1, rfl, h3, h4, h5, h6⟩ | ⟨a', t', h1, rfl, h3, h4, h5, h6⟩ | ⟨a', s', h1, rfl, h3, h4⟩ | ⟨a', s', b', h1, rfl, h3, h4, h5, h6⟩ | ⟨a', s', j', h1, rfl, h3, h4⟩ | ⟨a', s', j', h1, rfl, h3, h4, h5⟩ | ⟨a', s', j', h1, rfl, h3, h4, h5⟩
  · omega
  · omega
  · omega
  · omega
  · omega
  · exact ⟨a', s', j', h1, h3⟩
  · omega
  · omega
theorem LK.s22 {J : Int → Int → Int} {n : Nm} {x y : Int} (h : LK J n x 22 y) : ∃ a s, sgJ J a s ∧ y = 40 * a + s := by
  unfold LK at h
  rcases h with ⟨a', h1, rfl, h3, h4⟩ | ⟨a', b', h1, rfl, h3, h4, h5, h6⟩ | ⟨a', t', h1, rfl, h3, h4, h5, h6⟩ | ⟨a', s', h1, rfl, h3, h4⟩ | ⟨a', s', b', h1, rfl, h3, h4, h5, h6⟩ | ⟨a', s', j', h1, rfl, h3, h4⟩ | ⟨a', s', j', h1, rfl, h3, h4, h5⟩ | ⟨a', s', j', h1, rfl, h3, h4, h5⟩
  · omega
  · omega
  · omega
  · exact ⟨a', s', h1, h3⟩
  · omega
  · omega
  · omega
  · omega
theorem sm_0 {f : Nat → Int} : ∀ n : Nat, (∀ i, i < n → f i = 0) → sm f n = 0
  | 0, _ => rfl
  | n + 1, h => by
    show sm f n + f n = 0
    rw [sm_0 n (fun i hi => h i (by omega)), h n (by omega)]
    rfl
theorem ldJ_26 {J : Int → Int → Int} {a : Int} (hG : GI J) (ha : 0 ≤ a) : ∀ n : Nat, n ≤ 4800 → (∀ p : Nat, ldJ J a n 26 p = if p < n ∧ J 25 p = a then 0 else J 26 p) ∧ (∀ x, ¬ (10 * a ≤ x ∧ x < 10 * a + 10) → ldJ J a n 10 x = J 10 x)
  | 0, _ => ⟨fun p => by rw [if_neg (by omega)]; rfl, fun _ _ => rfl⟩
  | n + 1, hn => by
    obtain ⟨i1, i2⟩ := ldJ_26 hG ha n (by omega)
    obtain ⟨-, -, o⟩ := ldJ_i (a := a) hG n (by omega)
    have o25 := fun x => o 25 x (by decide) (by decide)
    by_cases q : J 25 n = a
    · rw [show ldJ J a (n + 1) = loseJ (ldJ J a n) ((n : Int) / 480) n from if_pos (by rw [o25]; exact q)]
      unfold loseJ
      by_cases q2 : ldJ J a n 26 n = 0
      · rw [if_neg (fun z => z.2 q2)]
        refine ⟨fun p => ?_, i2⟩
        by_cases e : p = n
        · subst e
          rw [if_pos ⟨by omega, q⟩]; exact q2
        · rw [i1 p]
          by_cases z : p < n ∧ J 25 p = a
          · rw [if_pos z, if_pos ⟨by omega, z.2⟩]
          · rw [if_neg z, if_neg (fun y => z ⟨by omega, y.2⟩)]
      · rw [if_pos ⟨by rw [o25, q]; exact ha, q2⟩]
        refine ⟨fun p => ?_, fun x hx => ?_⟩
        · rw [uJ_ne (by decide), uJ_self]
          by_cases e : p = n
          · subst e
            rw [upI_self, if_pos ⟨by omega, q⟩]
          · rw [upI_ne _ _ (by omega), i1 p]
            by_cases z : p < n ∧ J 25 p = a
            · rw [if_pos z, if_pos ⟨by omega, z.2⟩]
            · rw [if_neg z, if_neg (fun y => z ⟨by omega, y.2⟩)]
        · rw [uJ_self, upI_ne, uJ_ne (by decide)]
          · exact i2 x hx
          · rw [o25, q]; omega
    · rw [show ldJ J a (n + 1) = ldJ J a n from if_neg (by rw [o25]; exact q)]
      refine ⟨fun p => ?_, i2⟩
      rw [i1 p]
      by_cases z : p < n ∧ J 25 p = a
      · rw [if_pos z, if_pos ⟨by omega, z.2⟩]
      · rw [if_neg z, if_neg]
        intro y
        by_cases e : p = n
        · rw [e] at y; exact q y.2
        · exact z ⟨by omega, y.2⟩
theorem ldJ_10 {J : Int → Int → Int} {a : Int} (hG : GI J) (ha : 0 ≤ a ∧ a ≤ 9) (o : Int) (ho : 0 ≤ o ∧ o ≤ 9) : ldJ J a 4800 10 (10 * a + o) = 0 := by
  obtain ⟨g, -, oo⟩ := ldJ_i (a := a) hG 4800 (by decide)
  rw [g.2.2 a o ha.1 ha.2 ho.1 ho.2]
  unfold cnt
  refine sm_0 480 (fun i hi => ?_)
  refine if_neg (fun z => z.2 ?_)
  have e := (ldJ_26 hG ha.1 4800 (by decide)).1 (480 * o + i).toNat
  have z1 := z.1
  rw [oo 25 _ (by decide) (by decide)] at z1
  rw [show (((480 * o + i).toNat : Nat) : Int) = 480 * o + i by omega, if_pos ⟨by omega, z1⟩] at e
  exact e
theorem VI.lost2 {J J' : Int → Int → Int} (h : VI J) (e : ∀ k x, k = 5 ∨ k = 9 ∨ k = 20 ∨ k = 21 → J' k x = J k x) (e22 : ∀ x, J' 22 x = J 22 x ∨ J' 22 x = 0) (em : ∀ x, x = 3 ∨ x = 4 → J' (-1) x = J (-1) x) (hp : ∀ p, (J' 25 p = J 25 p ∧ J' 26 p = J 26 p) ∨ (J' 26 p = 0 ∧ (J' 25 p = J 25 p ∨ J' 25 p < 0))) : VI J' := by
  have h1 : VI (fun k => if k = 22 then J 22 else J' k) := h.lost (fun k x hk => by
    by_cases q : k = 22
    · rw [q]; rfl
    · show (if k = 22 then J 22 else J' k) x = _
      rw [if_neg q]; exact e k x (by omega)) (fun x hx => em x hx) (fun p _ _ => hp p)
  exact ⟨h1.pi, h1.li, h1.sy, h1.uq, h1.oi, fun s q => by
    have z : J 22 s = 0 := h1.fh s q
    rcases e22 s with y | y <;> omega, h1.se, h1.nh⟩
theorem VI.ls {J : Int → Int → Int} {a : Int} (h : VI J) (hG : GI J) (ha : 0 ≤ a ∧ a ≤ 9) : VI (lsJ J a) := by
  obtain ⟨-, lm, oo⟩ := ldJ_i (a := a) hG 4800 (by decide)
  unfold lsJ
  refine h.lost2 (fun k x hk => by rw [uJ_ne (by omega), wJ_ne (by omega), wJ_ne (by omega)]; exact oo k x (by omega) (by omega)) (fun x => ?_) (fun x _ => by rw [uJ_ne (by decide), wJ_ne (by decide), wJ_ne (by decide), lm]) (fun p => ?_)
  · rw [uJ_ne (by decide)]
    by_cases z : 40 * a ≤ x ∧ x < 40 * a + 40
    · rw [wJ_in z]; exact Or.inr rfl
    · rw [wJ_out (by omega), wJ_ne (by decide)]; exact Or.inl (oo 22 x (by decide) (by decide))
  · rw [uJ_ne (by decide), uJ_ne (by decide), wJ_ne (by decide), wJ_ne (by decide), wJ_ne (by decide), wJ_ne (by decide), oo 25 _ (by decide) (by decide)]
    by_cases z : 0 ≤ p
    · have e := (ldJ_26 hG ha.1 4800 (by decide)).1 p.toNat
      rw [show ((p.toNat : Nat) : Int) = p by omega] at e
      by_cases y : p.toNat < 4800 ∧ J 25 p = a
      · rw [if_pos y] at e; exact Or.inr ⟨e, Or.inl rfl⟩
      · rw [if_neg y] at e; exact Or.inl ⟨rfl, e⟩
    · left
      refine ⟨rfl, ?_⟩
      have : ∀ n : Nat, ldJ J a n 26 p = J 26 p := by
        intro n
        induction n with
        | zero => rfl
        | succ n ih =>
          by_cases q : ldJ J a n 25 n = a
          · rw [show ldJ J a (n + 1) = loseJ (ldJ J a n) ((n : Int) / 480) n from if_pos q]
            unfold loseJ
            split
            · rw [uJ_ne (by decide), uJ_self, upI_ne _ _ (by omega), ih]
            · exact ih
          · rw [show ldJ J a (n + 1) = ldJ J a n from if_neg q]; exact ih
      exact this 4800
set_option maxHeartbeats 1000000 in
theorem y_losePiecesWith {d : Nat} {K : Kt} {X : Xt} {J : Int → Int → Int} {E : Nm → Int → Int} {ty : Nm → Nat} {ln : Nm → Int} {I : Nm → Int → Int} {R : Nm → Int → Option Nm} {c w : Nat} {a b m : Int} (h : RC (dJ J b (480 * a) m) E ty ln I R) (hG : GI J) (hV : VI J) (ha : hsJ J a) (hb : 0 ≤ b ∧ b ≤ 9) (k : ∀ I', RC (dJ J b (480 * a + 480) m) E ty ln I' R → K none (ty, ln, I', R, c, w)) :
    Mth (d + 4) M_House_losePiecesWith [vR (some [4, a]), vI b] (ty, ln, I, R, c, w) K X := by
  have ha' : hsJ (dJ J b (480 * a) m) a := hsJ_c ha (dJ_o (by decide))
  obtain ⟨t0, ⟨r2, t2, ll2⟩, ⟨r3, t3, ll3⟩, ⟨r4, t4, ll4⟩, ⟨r5, t5, ll5⟩, rw5, ⟨r6, t6, ll6⟩, ⟨r7, t7⟩, ⟨r8, t8⟩, ⟨r9, t9⟩⟩ := h.hs a ha'
  have b20 := hG.1.k20 a
  have sc := hG.2.1
  unfold SC at sc
  have key : ∀ q i : Nat, i + q = (J 20 a).toNat → ∀ I, RC (dJ J b (480 * a + 12 * i) m) E ty ln I R → ∀ u3 u4 : Vl, isLg u3 = false → isLg u4 = false → Rn (d + 3) M_House_losePiecesWith K X 2 [vR (some [4, a]), vI b, vI (i : Int), u3, u4] [] (ty, ln, I, R, c, w) := by
    intro q
    induction q with
    | zero =>
      intro i hi I h u3 u4 v3 v4
      rw [b_House_losePiecesWith_2 v3 v4, and_t t0, r8, ex_some, and_t t8, y_size h (hsJ_c ha (dJ_o (by decide))), dJ_o (by decide)]
      show Rn (d + 3) M_House_losePiecesWith K X 10 [vR (some [4, a]), vI b, vI (i : Int), u3, u4] [vI (J 20 a), vI (i : Int)] (ty, ln, I, R, c, w)
      rw [b_House_losePiecesWith_10 v3 v4, if_pos (by omega)]
      refine k I (h.eqv (fun k x hk => by rw [dJ_o (by omega), dJ_o (by omega)]) (fun x _ _ => by rw [dJ_o (by decide), dJ_o (by decide)]) (fun n x k y hl => ?_))
      by_cases q1 : k = 26
      · subst q1
        obtain ⟨a', s', j', hp, hy⟩ := hl.p26
        rw [piJ, dJ_o (by decide), dJ_o (by decide), dJ_o (by decide)] at hp
        rw [dJ_26, dJ_26]
        have : (y < 480 * a + 480 ↔ y < 480 * a + 12 * (i : Int)) := by
          constructor
          · intro z
            by_cases e : a' = a
            · subst e; omega
            · omega
          · omega
        simp only [this]
      · by_cases q2 : k = 10
        · subst q2; rw [dJ_10, dJ_10]
        · rw [dJ_o ⟨q1, q2⟩, dJ_o ⟨q1, q2⟩]
    | succ q ih =>
      intro i hi I h u3 u4 v3 v4
      have ih' := ih (i + 1) (by omega)
      have hs : sgJ (dJ J b (480 * a + 12 * i) m) a i := sgJ_c (J := J) ⟨ha, by omega, by omega, by omega⟩ (dJ_o (by decide)) (dJ_o (by decide))
      obtain ⟨g0, ⟨gr0, gt0, gl0⟩, ⟨gr1, gt1, gl1⟩, ⟨gr2, gt2, gl2⟩, gp⟩ := h.sg a i hs
      rw [dJ_o (by decide)] at gl2 gp
      rw [b_House_losePiecesWith_2 v3 v4, and_t t0, r8, ex_some, and_t t8, y_size h hs.1, dJ_o (by decide)]
      show Rn (d + 3) M_House_losePiecesWith K X 10 [vR (some [4, a]), vI b, vI (i : Int), u3, u4] [vI (J 20 a), vI (i : Int)] (ty, ln, I, R, c, w)
      rw [b_House_losePiecesWith_10 v3 v4, if_neg (by omega), and_t t0, r8, ex_some, and_t t8, y_get h hs]
      show Rn (d + 3) M_House_losePiecesWith K X 21 [vR (some [4, a]), vI b, vI (i : Int), u3, u4] [vR (some [4, a, 8, (i : Int)])] (ty, ln, I, R, c, w)
      rw [b_House_losePiecesWith_21 v3 v4, ck g0, ex_some, and_t g0, y_pieceWith h hs, dJ_o (by decide)]
      show Rn (d + 3) M_House_losePiecesWith K X 30 [vR (some [4, a]), vI b, vI (i : Int), vR (some [4, a, 8, (i : Int)]), u4] [vI (pwJ (dJ J b (480 * a + 12 * i) m) b (40 * a + i) (J (-1) 3).toNat)] (ty, ln, I, R, c, w)
      rw [b_House_losePiecesWith_30 v4]
      have e12 : 480 * a + 12 * ((i + 1 : Nat) : Int) = 480 * a + 12 * i + 12 := by omega
      rw [e12] at ih'
      rcases pwJ_r (J := dJ J b (480 * a + 12 * i) m) (k := b) (s := 40 * a + i) (J (-1) 3).toNat with pw | pw
      · have np := hasP_0 _ ((pwJ_has _).mp pw)
        rw [if_pos pw, b_House_losePiecesWith_49, w32_id (by omega) (by omega)]
        refine ih' I (h.eqv (fun k x hk => by rw [dJ_o (by omega), dJ_o (by omega)]) (fun x _ _ => by rw [dJ_o (by decide), dJ_o (by decide)]) (fun n x k y hl => ?_)) _ _ rfl rfl
        by_cases q1 : k = 26
        · subst q1
          obtain ⟨a', s', j', hp, hy⟩ := hl.p26
          rw [piJ, dJ_o (by decide), dJ_o (by decide), dJ_o (by decide)] at hp
          rw [dJ_26, dJ_26]
          by_cases z : y < 480 * a + 12 * (i : Int)
          · by_cases z2 : J 25 y = b
            · rw [if_pos ⟨by omega, z2⟩, if_pos ⟨z, z2⟩]
            · rw [if_neg (fun w => z2 w.2), if_neg (fun w => z2 w.2)]
          · rw [if_neg (c := y < 480 * a + 12 * (i : Int) ∧ _) (fun w => z w.1), if_neg]
            intro w
            have := np j'.toNat (by omega)
            rw [dJ_o (by decide), show ((j'.toNat : Nat) : Int) = j' by omega, show 12 * (40 * a + (i : Int)) + j' = y by omega] at this
            exact this w.2
        · by_cases q2 : k = 10
          · subst q2; rw [dJ_10, dJ_10]
          · rw [dJ_o ⟨q1, q2⟩, dJ_o ⟨q1, q2⟩]
      · obtain ⟨j, hj⟩ : ∃ j, j = pwJ (dJ J b (480 * a + 12 * i) m) b (40 * a + i) (J (-1) 3).toNat := ⟨_, rfl⟩
        rw [← hj] at pw ⊢
        have p3 := pw.2.2
        rw [dJ_o (by decide)] at p3
        have hp : piJ (dJ J b (480 * a + 12 * i) m) a i j := ⟨hs, by omega, by omega, by rw [dJ_o (by decide)]; omega⟩
        obtain ⟨pr, pt, -⟩ := gp j (by omega) (by omega)
        rw [if_neg (by omega), ex_some, and_t g0, gr2, ex_some, and_t ⟨⟨by omega, by omega⟩, by omega, by omega⟩, pr, ex_some, and_t ⟨Or.inl rfl, pt, rfl⟩, b_House_losePiecesWith_49, w32_id (by omega) (by omega)]
        have h1 := h.up (v := 0) (l26 hp) (by decide)
        refine ih' _ (h1.eqv (fun k x hk => by rw [uJ_ne (by omega), dJ_o (by omega), dJ_o (by omega)]) (fun x _ _ => by rw [uJ_ne (by decide), dJ_o (by decide), dJ_o (by decide)]) (fun n x k y hl => ?_)) _ _ rfl rfl
        by_cases q1 : k = 26
        · subst q1
          obtain ⟨a', s', j', hp', hy⟩ := hl.p26
          rw [piJ, uJ_ne (by decide), uJ_ne (by decide), uJ_ne (by decide), dJ_o (by decide), dJ_o (by decide), dJ_o (by decide)] at hp'
          rw [uJ_self, dJ_26]
          by_cases e : y = 12 * (40 * a + i) + j
          · rw [e, upI_self, if_pos ⟨by omega, p3⟩]
          · rw [upI_ne _ _ e, dJ_26]
            by_cases z : y < 480 * a + 12 * (i : Int)
            · by_cases z2 : J 25 y = b
              · rw [if_pos ⟨by omega, z2⟩, if_pos ⟨z, z2⟩]
              · rw [if_neg (fun w => z2 w.2), if_neg (fun w => z2 w.2)]
            · rw [if_neg (c := y < 480 * a + 12 * (i : Int) ∧ _) (fun w => z w.1), if_neg]
              intro w
              have ey : y = 12 * (40 * a + (i : Int)) + j' := by omega
              have := hV.uq (40 * a + i) j' j (by omega) (by omega) (by omega) (by omega) (by omega) (by omega) (by rw [← ey, w.2, p3]) (by rw [← ey, w.2]; exact hb.1)
              omega
        · rw [uJ_ne q1]
          by_cases q2 : k = 10
          · subst q2; rw [dJ_10, dJ_10]
          · rw [dJ_o ⟨q1, q2⟩, dJ_o ⟨q1, q2⟩]
  rw [in_House_losePiecesWith, b_House_losePiecesWith_0]
  exact key (J 20 a).toNat 0 (by omega) I (by rw [show 480 * a + 12 * ((0 : Nat) : Int) = 480 * a by omega]; exact h) vJ vJ rfl rfl
/-- the own things of house a lost -/
def loJ (J : Int → Int → Int) (a : Int) : Int → Int → Int := uJ (wJ (wJ J 12 (10 * a) (10 * a + 10) (fun _ => 0)) 22 (40 * a) (40 * a + 40) (fun _ => 0)) 7 a 1
set_option maxHeartbeats 1000000 in
theorem y_loseOwn {d : Nat} {K : Kt} {X : Xt} {J : Int → Int → Int} {E : Nm → Int → Int} {ty : Nm → Nat} {ln : Nm → Int} {I : Nm → Int → Int} {R : Nm → Int → Option Nm} {c w : Nat} {a : Int} (h : RC J E ty ln I R) (ha : hsJ J a) (k : ∀ I', RC (loJ J a) E ty ln I' R → K none (ty, ln, I', R, c, w)) :
    Mth (d + 4) M_House_loseOwn [vR (some [4, a])] (ty, ln, I, R, c, w) K X := by
  obtain ⟨t0, ⟨r2, t2, ll2⟩, ⟨r3, t3, ll3⟩, ⟨r4, t4, ll4⟩, ⟨r5, t5, ll5⟩, rw5, ⟨r6, t6, ll6⟩, ⟨r7, t7⟩, ⟨r8, t8⟩, ⟨r9, t9⟩⟩ := h.hs a ha
  obtain ⟨e1, e2, e3, -⟩ := h.sn a ha
  have k2 : ∀ q i : Nat, i + q = (J 20 a).toNat → ∀ I, RC (wJ (wJ J 12 (10 * a) (10 * a + 10) (fun _ => 0)) 22 (40 * a) (40 * a + i) (fun _ => 0)) E ty ln I R → Rn (d + 3) M_House_loseOwn K X 23 [vR (some [4, a]), vI (i : Int)] [] (ty, ln, I, R, c, w) := by
    intro q
    induction q with
    | zero =>
      intro i hi I h
      have ha' : hsJ (wJ (wJ J 12 (10 * a) (10 * a + 10) (fun _ => 0)) 22 (40 * a) (40 * a + i) (fun _ => 0)) a := hsJ_c ha (by rw [wJ_ne (by decide), wJ_ne (by decide)])
      rw [b_House_loseOwn_23, and_t t0, r8, ex_some, and_t t8, y_size h ha', wJ_ne (by decide), wJ_ne (by decide)]
      show Rn (d + 3) M_House_loseOwn K X 31 [vR (some [4, a]), vI (i : Int)] [vI (J 20 a), vI (i : Int)] (ty, ln, I, R, c, w)
      rw [b_House_loseOwn_31, if_pos (by omega), and_t ⟨Or.inr rfl, t0, rfl⟩]
      have h2 : RC (wJ (wJ J 12 (10 * a) (10 * a + 10) (fun _ => 0)) 22 (40 * a) (40 * a + 40) (fun _ => 0)) E ty ln I R := h.eqv (fun k x hk => by rw [wJ_ne (by omega), wJ_ne (J := wJ J 12 (10 * a) (10 * a + 10) (fun _ => 0)) (by omega)]) (fun x _ _ => by rw [wJ_ne (by decide), wJ_ne (J := wJ J 12 (10 * a) (10 * a + 10) (fun _ => 0)) (by decide)]) (fun n x k y hl => by
        by_cases q1 : k = 22
        · subst q1
          obtain ⟨a', s', hp, hy⟩ := hl.s22
          rw [sgJ, wJ_ne (by decide), wJ_ne (by decide), wJ_ne (by decide), wJ_ne (by decide)] at hp
          by_cases z : 40 * a ≤ y ∧ y < 40 * a + i
          · rw [wJ_in ⟨z.1, by omega⟩, wJ_in z]
          · by_cases e : a' = a
            · subst e; omega
            · rw [wJ_out (by omega), wJ_out (by omega)]
        · rw [wJ_ne q1, wJ_ne q1])
      exact k _ (h2.up (v := 1) (l7 (hsJ_c ha (by rw [wJ_ne (by decide), wJ_ne (by decide)]))) (by decide))
    | succ q ih =>
      intro i hi I h
      have hs : sgJ (wJ (wJ J 12 (10 * a) (10 * a + 10) (fun _ => 0)) 22 (40 * a) (40 * a + i) (fun _ => 0)) a i := sgJ_c (J := J) ⟨ha, by omega, by omega, by omega⟩ (by rw [wJ_ne (by decide), wJ_ne (by decide)]) (by rw [wJ_ne (by decide), wJ_ne (by decide)])
      have g0 := (h.sg a i hs).1
      rw [b_House_loseOwn_23, and_t t0, r8, ex_some, and_t t8, y_size h hs.1, wJ_ne (by decide), wJ_ne (by decide)]
      show Rn (d + 3) M_House_loseOwn K X 31 [vR (some [4, a]), vI (i : Int)] [vI (J 20 a), vI (i : Int)] (ty, ln, I, R, c, w)
      rw [b_House_loseOwn_31, if_neg (by omega), and_t t0, r8, ex_some, and_t t8, y_get h hs]
      show Rn (d + 3) M_House_loseOwn K X 42 [vR (some [4, a]), vI (i : Int)] [vR (some [4, a, 8, (i : Int)])] (ty, ln, I, R, c, w)
      rw [b_House_loseOwn_42, ck g0, ex_some, and_t ⟨Or.inl rfl, g0, rfl⟩, w32_id (by omega) (by omega)]
      have z := h.up (v := 0) (l22 hs) (by decide)
      rw [wJ_up (by omega) (by rfl), Int.add_assoc] at z
      exact ih (i + 1) (by omega) _ z
  have k1 : ∀ q i : Nat, i + q = 10 → ∀ I, RC (wJ J 12 (10 * a) (10 * a + i) (fun _ => 0)) E ty ln I R → Rn (d + 3) M_House_loseOwn K X 2 [vR (some [4, a]), vI (i : Int)] [] (ty, ln, I, R, c, w) := by
    intro q
    induction q with
    | zero =>
      intro i hi I h
      rw [b_House_loseOwn_2, if_pos (by omega)]
      refine k2 (J 20 a).toNat 0 (by omega) I ?_
      rw [wJ_nil (by omega)]
      rw [show (i : Int) = 10 by omega] at h
      exact h
    | succ q ih =>
      intro i hi I h
      rw [b_House_loseOwn_2, if_neg (by omega), and_t t0, r6, ex_some, and_t ⟨t6, rfl, by omega, by omega⟩, w32_id (by omega) (by omega)]
      refine ih (i + 1) (by omega) _ ?_
      have e9 : 10 * a + ((i + 1 : Nat) : Int) = 10 * a + i + 1 := by omega
      rw [e9]
      refine h.fil (t := i) ha.1 (by omega) (fun k x k1 k2 k3 => by rw [wJ_ne k1, wJ_ne k1]) (fun x hx => ⟨?_, by rw [wJ_ne (by decide), wJ_ne (by decide)]⟩) (fun x _ => by rw [wJ_ne (by decide), wJ_ne (by decide)]) (fun n x n1 n2 => ?_) ?_ (fun x x0 x1 x2 x3 => ?_)
      · by_cases z : 10 * a ≤ x ∧ x < 10 * a + i
        · rw [wJ_in ⟨z.1, by omega⟩, wJ_in z]
        · rw [wJ_out (by omega), wJ_out (by omega)]
      · by_cases z : n = [4, a, 6]
        · subst z; rw [up2_self, upI_ne _ _ (fun e => n2 ⟨rfl, e⟩)]
        · rw [up2_ne z]
      · rw [up2_self, upI_self, wJ_in ⟨by omega, by omega⟩, if_pos rfl]
      · rw [wJ_in ⟨by omega, by omega⟩] at x3; exact absurd rfl x3
  rw [in_House_loseOwn, b_House_loseOwn_0]
  exact k1 10 0 rfl I (by rw [wJ_nil (by omega)]; exact h)
set_option maxHeartbeats 1000000 in
theorem z_loseDisk {d : Nat} {K : Kt} {X : Xt} {J : Int → Int → Int} {E : Nm → Int → Int} {ty : Nm → Nat} {ln : Nm → Int} {I : Nm → Int → Int} {R : Nm → Int → Option Nm} {c w : Nat} {a : Int} (h : RC J E ty ln I R) (hG : GI J) (hV : VI J) (ha : hsJ J a) (k0 : ∀ I', RC (lsJ J a) E ty ln I' R → K none (ty, ln, I', R, c, w)) :
    Mth (d + 6) M_FB_loseDisk [vR (some [1]), vI a] (ty, ln, I, R, c, w) K X := by
  obtain ⟨f1, fr0, fr1, fr2, fr3, fr4, fr5, ⟨ft0, fl0⟩, ⟨ft3, fl3⟩, ⟨ft4, fl4⟩, ⟨ft5, fl5⟩, ft16, fr160, fr161, ⟨ft160, fl160⟩, ⟨ft161, fl161⟩⟩ := id h.g.1
  obtain ⟨t0, ⟨r2, t2, ll2⟩, ⟨r3, t3, ll3⟩, ⟨r4, t4, ll4⟩, ⟨r5, t5, ll5⟩, rw5, ⟨r6, t6, ll6⟩, ⟨r7, t7⟩, ⟨r8, t8⟩, ⟨r9, t9⟩⟩ := h.hs a ha
  have key : ∀ q i : Nat, i + q = 10 → ∀ I, RC (dJ J a (480 * i) i) E ty ln I R → Rn (d + 5) M_FB_loseDisk K X 8 [vR (some [1]), vI a, vR (some [4, a]), vI (i : Int)] [] (ty, ln, I, R, c, w) := by
    intro q
    induction q with
    | zero =>
      intro i hi I h
      have h2 : RC (ldJ J a 4800) E ty ln I R := by
        obtain ⟨-, lm, oo⟩ := ldJ_i (a := a) hG 4800 (by decide)
        refine h.eqv (fun k x hk => by rw [dJ_o (by omega)]; exact oo k x (by omega) (by omega)) (fun x _ _ => by rw [lm, dJ_o (by decide)]) (fun n x k y hl => ?_)
        by_cases q1 : k = 26
        · subst q1
          obtain ⟨a', s', j', hp, hy⟩ := hl.p26
          have e := (ldJ_26 hG ha.1.1 4800 (by decide)).1 y.toNat
          rw [show ((y.toNat : Nat) : Int) = y by omega] at e
          rw [e, dJ_26]
          by_cases z : J 25 y = a
          · rw [if_pos ⟨by omega, z⟩, if_pos ⟨by omega, z⟩]
          · rw [if_neg (fun w => z w.2), if_neg (fun w => z w.2)]
        · by_cases q2 : k = 10
          · subst q2
            rw [dJ_10]
            by_cases z : 10 * a ≤ y ∧ y < 10 * a + i
            · rw [if_pos z]
              have := ldJ_10 hG ha.1 (y - 10 * a) (by omega)
              rw [show 10 * a + (y - 10 * a) = y by omega] at this
              exact this
            · rw [if_neg z]
              exact (ldJ_26 hG ha.1.1 4800 (by decide)).2 y (by omega)
          · rw [dJ_o ⟨q1, q2⟩]; exact oo k y q1 q2
      have ha2 : hsJ (ldJ J a 4800) a := hsJ_c ha ((ldJ_i (a := a) hG 4800 (by decide)).2.2 5 a (by decide) (by decide))
      rw [b_FB_loseDisk_8, if_pos (by omega), ex_some, and_t t0]
      refine y_loseOwn h2 ha2 ?_
      intro I' h'
      show Rn (d + 5) M_FB_loseDisk K X 50 [vR (some [1]), vI a, vR (some [4, a]), vI (i : Int)] [] (ty, ln, I', R, c, w)
      rw [b_FB_loseDisk_50]
      exact k0 I' h'
    | succ q ih =>
      intro i hi I h
      have ih' := ih (i + 1) (by omega)
      have hr := h.g.2.2.2.2.2.2.1 i (by omega) (by omega)
      rw [dJ_o (by decide)] at hr
      have fin : ∀ I, RC (dJ J a (480 * i + 480) i) E ty ln I R → Rn (d + 5) M_FB_loseDisk K X 33 [vR (some [1]), vI a, vR (some [4, a]), vI (i : Int)] [] (ty, ln, I, R, c, w) := by
        intro I h
        have ha2 : hsJ (dJ J a (480 * i + 480) i) a := hsJ_c ha (dJ_o (by decide))
        have h2 := h.up (v := 0) (l10 (x := i) ⟨ha2, by omega, by omega⟩) (by decide)
        rw [b_FB_loseDisk_33, ex_some, and_t t0, r3, ex_some, and_t ⟨t3, rfl, by omega, by omega⟩, w32_id (by omega) (by omega)]
        refine ih' _ ?_
        rw [show uJ (dJ J a (480 * i + 480) i) 10 (10 * a + i) 0 = dJ J a (480 * ((i + 1 : Nat) : Int)) ((i + 1 : Nat) : Int) by
          rw [show 480 * ((i + 1 : Nat) : Int) = 480 * i + 480 by omega]
          funext k x
          by_cases q1 : k = 10
          · subst q1
            rw [uJ_self, dJ_10]
            by_cases e : x = 10 * a + i
            · rw [e, upI_self, if_pos (by omega)]
            · rw [upI_ne _ _ e, dJ_10]
              by_cases z : 10 * a ≤ x ∧ x < 10 * a + i
              · rw [if_pos z, if_pos (by omega)]
              · rw [if_neg z, if_neg (by omega)]
          · rw [uJ_ne q1]
            by_cases q2 : k = 26
            · subst q2; rw [dJ_26, dJ_26]
            · rw [dJ_o ⟨q2, q1⟩, dJ_o ⟨q2, q1⟩]] at h2
        exact h2
      rw [b_FB_loseDisk_8, if_neg (by omega), and_t f1, fr0, ex_some, and_t ⟨⟨by omega, by omega⟩, by omega, by omega⟩]
      by_cases c1 : 0 < J 5 (i : Int)
      · rw [if_pos c1] at hr
        have hi' : hsJ J i := ⟨⟨by omega, by omega⟩, c1⟩
        have ti := (h.hs i (hsJ_c hi' (dJ_o (by decide)))).1
        rw [if_neg (by rw [hr]; simp), and_t f1, ex_some, and_t ⟨⟨by omega, by omega⟩, by omega, by omega⟩, hr, ex_some, and_t ti]
        exact y_losePiecesWith h hG hV hi' ha.1 fin
      · rw [if_neg c1] at hr
        rw [if_pos hr]
        refine fin I (h.eqv (fun k x hk => by rw [dJ_o (by omega), dJ_o (by omega)]) (fun x _ _ => by rw [dJ_o (by decide), dJ_o (by decide)]) (fun n x k y hl => ?_))
        by_cases q1 : k = 26
        · subst q1
          obtain ⟨a', s', j', hp, hy⟩ := hl.p26
          rw [piJ, dJ_o (by decide), dJ_o (by decide), dJ_o (by decide)] at hp
          have ne : a' ≠ i := fun e => c1 (by rw [← e]; exact hp.1.1.2)
          rw [dJ_26, dJ_26]
          have : (y < 480 * (i : Int) + 480 ↔ y < 480 * (i : Int)) := by omega
          simp only [this]
        · by_cases q2 : k = 10
          · subst q2; rw [dJ_10, dJ_10]
          · rw [dJ_o ⟨q1, q2⟩, dJ_o ⟨q1, q2⟩]
  rw [in_FB_loseDisk, b_FB_loseDisk_0, and_t f1, x_houseOf_yes h.g ha]
  refine b_FB_loseDisk_5.mpr ?_
  refine key 10 0 rfl I ?_
  rw [show dJ J a (480 * ((0 : Nat) : Int)) ((0 : Nat) : Int) = dJ J a 0 0 from rfl]
  refine h.eqv (fun k x hk => dJ_o (by omega)) (fun x _ _ => dJ_o (by decide)) (fun n x k y hl => ?_)
  by_cases q1 : k = 26
  · subst q1
    obtain ⟨a', s', j', hp, hy⟩ := hl.p26
    rw [dJ_26, if_neg (by omega)]
  · by_cases q2 : k = 10
    · subst q2; rw [dJ_10, if_neg (by omega)]
    · rw [dJ_o ⟨q1, q2⟩]
