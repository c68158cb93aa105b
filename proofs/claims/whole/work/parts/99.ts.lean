/-! ===== House.addSegments ===== -/
theorem MS.seg {J : Int → Int → Int} {ty ty' : Nm → Nat} {ln ln' : Nm → Int} {I I' : Nm → Int → Int} {R R' : Nm → Int → Option Nm} {a : Int} {L0 : List Ck} {c c' : Nat} {m' : Nm} (h : MS J a L0 ty ln I R c) (hR : MR J) (ha : hsJ J a) (h20 : J 20 a < 40) (hf : ∀ t, ty (4 :: a :: 8 :: J 20 a :: t) = 0) (t : ∀ n, ty n ≠ 0 → ty' n = ty n ∧ ln' n = ln n)
    (i : ∀ n x, (ty n ≠ 0 ∨ (¬ n12 a n ∧ nS a (J 20 a) n)) → n ≠ [4, a, 8] → I' n x = I n x) (r : ∀ n x, ty n ≠ 0 → n ≠ [4, a, 8] → (n ≠ la R a 8 ∨ la R a 8 = nE) → R' n x = R n x)
    (l : LQ ty' ln' I' R' [4, a, 8] m' (J 20 a + 1)) (hm' : m' = nE ∨ n12 a m') (hm9 : m' = la R a 9 → m' = nE) (rs : ∀ j, 0 ≤ j → j < J 20 a → R' m' j = R (la R a 8) j) (rn : R' m' (J 20 a) = some [4, a, 8, J 20 a])
    (sg : SG ty' ln' R' a (J 20 a) (J (-1) 3) (60 / J (-1) 2)) (ce : I' [4, a, 8, J 20 a] 3 = 1 ∧ I' [4, a, 8, J 20 a] 4 = 0 ∧ I' [4, a, 8, J 20 a] 5 = 0 ∧ (∀ x, I' [4, a, 8, J 20 a, 0] x = 0) ∧ (∀ x, I' [4, a, 8, J 20 a, 1] x = 0)) (pc : ∀ j : Int, 0 ≤ j → j < J (-1) 3 → PCn ty' ln' I' R' a (J 20 a) (60 / J (-1) 2) j) (un : UNs J a (J 20 a)) (f9 : FR9 ty' c') : MS (opS J a) a L0 ty' ln' I' R' c' := by
  obtain ⟨m1, m2, m3, m4, m5, m6⟩ := h
  obtain ⟨h5, h6, h7', h8, h9, h10, h11, ⟨h13, h14⟩, h17⟩ := m3
  have b20 := hR.k20 a
  have a0 := ha.1.1
  have l8 : ty (la R a 8) ≠ 0 := rw12_ty (a := a) h11
  have l9 : ty (la R a 9) ≠ 0 := rw12_ty (a := a) h5
  have n8 : la R a 8 ≠ nE → ty (la R a 8) = 8 := fun z => h11.2.2.2.2.1.elim (fun u => absurd u.1 z) (fun u => u.1)
  have n12n : ∀ n, ¬ n12 a n → n ≠ la R a 8 ∨ la R a 8 = nE := fun n hn => by
    rcases h13 with u | u
    · exact Or.inr u
    · exact Or.inl (fun v => hn (by rw [v]; exact u))
  have rty : ∀ x y, ty x ≠ 0 → ty x ≠ 8 → x ≠ [4, a, 8] → R' x y = R x y := fun x y z1 z2 z3 => r x y z1 z3 (by
    by_cases z : la R a 8 = nE
    · exact Or.inr z
    · exact Or.inl (fun e => z2 (by rw [e]; exact n8 z)))
  have lt : ∀ b, hsJ J b → ty (la R b 8) ≠ 0 ∧ rw12 R b 8 := fun b hb => by
    by_cases z : b = a
    · subst z; exact ⟨l8, h13⟩
    · obtain ⟨L, g1, g2, g3, g4, g5, g6, g7, g8, g9, g10, g11, ⟨g12, g13, g14⟩, g15⟩ := m2 b z hb
      exact ⟨rw12_ty (a := b) g11, g13⟩
  have hRC : RC (opS J a) I' ty' ln' I' R' := m1.seg ha h20 lt hf t (fun n x n1 n2 n3 => i n x (Or.inr ⟨n3, n1⟩) n2) (fun n x t1 n2 n3 => r n x t1 n2 (n12n n n3)) l rs rn sg ⟨ce.1, ce.2.1, ce.2.2.2⟩ pc un
  have la8 : la R' a 8 = m' := by unfold la; rw [l.2.1]; rfl
  have t9 : ty [4, a, 9] ≠ 0 := by rw [h5.1.1]; decide
  have la9 : la R' a 9 = la R a 9 := by unfold la; rw [rty _ _ t9 (by rw [h5.1.1]; decide) (by simp)]
  have r9 : ∀ y, R' (la R a 9) y = R (la R a 9) y := fun y => r _ _ l9 (by rcases h14 with u | ⟨q, u⟩ <;> rw [u] <;> simp [nE]) (by
    by_cases z : la R a 8 = nE
    · exact Or.inr z
    · exact Or.inl (fun e => z (h17 e.symm)))
  have f12 : FR12 I I' ty ty' ln ln' R R' a := ⟨t, fun n x hn hz _ => i n x (Or.inl hz) (fun z => n12_4 hn z), fun n x hn hz h8' => rty n x hz h8' (fun z => n12_4 hn z)⟩
  have jo : ∀ k x, k = 15 ∨ k = 16 ∨ k = 17 ∨ k = 18 ∨ k = 19 → opS J a k x = J k x := fun k x hk => opS_o (by omega)
  have js : JSl J (opS J a) a := JSl.same (fun k x hk => jo k x (by omega))
  have h17x : ∀ x, J 17 x ≤ 50 := fun x => (hR.k17 x).2
  have o23 : ∀ e ∈ L0, ∀ x, 0 ≤ x → x < e.2.2.2 → opS J a 23 (e.2.2.1 + x) = J 23 (e.2.2.1 + x) := fun e he x x0 x1 => by
    have := m5.2.1 e he
    rw [opS_23, if_neg (by omega)]
  have o20 : opS J a 20 a = J 20 a + 1 := by rw [opS_20, if_pos rfl]
  refine ⟨hRC, fun b hb hb' => ?_, ⟨?_, ?_, ?_, ?_, ?_, h10.cg (jo 15 _ (by decide)) js h17x, ?_, ?_, ?_⟩, fun e he => ⟨(m4 e he).1.cg f12 (o23 e he), ?_⟩, m5.up20 (fun k x hk => jo k x (by omega)) (by rw [o20]; omega) o23, f9⟩
  · have hb1 : hsJ J b := by unfold hsJ at hb' ⊢; rw [opS_o (by decide)] at hb'; exact hb'
    obtain ⟨Lb, hLb⟩ := m2 b hb hb1
    have fb : FRB I I' ty ty' ln ln' R R' b := by
      refine ⟨t, fun n x hn hz _ => i n x (Or.inl hz) ?_, fun n x hn hz => r n x hz ?_ (n12n n ?_)⟩
      · rintro rfl
        rcases hn with ⟨q, g⟩ | ⟨l, g⟩
        · simp at g
        · simp at g; exact hb g.1.symm
      · rintro rfl
        rcases hn with ⟨q, g⟩ | ⟨l, g⟩ | g
        · simp at g
        · simp at g; exact hb g.1.symm
        · simp [nE] at g
      · rintro ⟨q', rfl⟩
        rcases hn with ⟨q, g⟩ | ⟨l, g⟩ | g
        · simp at g; exact hb g.1.symm
        · simp at g
        · simp [nE] at g
    refine ⟨Lb, hLb.cg fb ⟨jo 15 _ (by decide), by rw [opS_20, if_neg hb], fun x _ _ => jo 16 _ (by decide), fun _ _ _ _ _ => jo 17 _ (by decide), fun _ _ _ _ _ _ => ⟨jo 18 _ (by decide), jo 19 _ (by decide)⟩, fun x x0 x1 => ?_⟩ hb1.1.1 (fun s s0 s1 => ?_) (by rw [(m1.hs b hb1).1]; decide) hR⟩
    · have := hR.k20 b
      have := hb1.1
      rw [opS_23, if_neg (by omega)]
    · have := hR.k20 b
      rw [(m1.sg b s ⟨hb1, s0, by omega, s1⟩).1]; decide
  · rw [la9, jo 15 _ (by decide)]
    exact h5.fr t (rty _ _ t9 (by rw [h5.1.1]; decide) (by simp)) (i _ _ (Or.inl t9) (by simp)) r9
  · rw [la9, jo 15 _ (by decide)]
    intro n n0 n1
    obtain ⟨m, e1, e2⟩ := h6 n n0 n1
    exact ⟨m, by rw [r9]; exact e1, e2.cg f12 js a0 h17x⟩
  · rw [la9, jo 15 _ (by decide)]
    intro n n' n0 n1 n2
    rw [r9, r9]; exact h7' n n' n0 n1 n2
  · rw [i _ _ (Or.inl (by rw [(m1.hs a ha).1]; decide)) (by simp), cn3_c 6 (fun k hk => jo 16 _ (by decide))]; exact h8
  · rw [o20]
    intro s s0 s1
    by_cases z : s = J 20 a
    · subst z
      rw [ce.2.2.1]
      by_cases y : cS (40 * a + J 20 a) L0 = 0
      · exact y.symm
      · exfalso
        obtain ⟨e, he, p⟩ := (cS_p L0).2.2.mp y
        have := m5.2.1 e he
        omega
    · rw [i _ _ (Or.inl (by rw [(m1.sg a s ⟨ha, s0, by omega, by omega⟩).1]; decide)) (by simp)]; exact h9 s s0 (by omega)
  · rw [la8, o20]; exact l
  · unfold rw12; rw [la8, la9]; exact ⟨hm', h14⟩
  · rw [la8, la9]; exact hm9
  · have c1 := (m4 e he).1.1
    rw [i _ _ (Or.inl (by rw [(m4 e he).1.2.2.1]; decide)) (fun z => n12_4 c1 z), uA_c js h17x 6 (Nat.le_refl _)]
    exact (m4 e he).2
/-- n segments more -/
def opN (J : Int → Int → Int) (a : Int) : Nat → Int → Int → Int
  | 0 => J
  | n + 1 => opS (opN J a n) a
theorem opN_20 {J : Int → Int → Int} {a : Int} : ∀ n : Nat, opN J a n 20 a = J 20 a + n
  | 0 => by show J 20 a = J 20 a + ((0 : Nat) : Int); omega
  | n + 1 => by
    show opS (opN J a n) a 20 a = _
    rw [opS_20, if_pos rfl, opN_20 n]; omega
theorem opN_o {J : Int → Int → Int} {a k x : Int} (h : k ≠ 20 ∧ k ≠ 21 ∧ k ≠ 22 ∧ k ≠ 23 ∧ k ≠ 24) : ∀ n : Nat, opN J a n k x = J k x
  | 0 => rfl
  | n + 1 => (opS_o h).trans (opN_o h n)
theorem opS_r {J : Int → Int → Int} {a : Int} (h : MR J) (h4 : J 20 a < 40) : MR (opS J a) := by
  have := h.k20 a
  exact ((((h.u (Or.inr ⟨by show (0 : Int) ≤ _; omega, by show _ ≤ (40 : Int); omega⟩)).u (Or.inr ⟨by decide, by decide⟩)).u (Or.inr ⟨by decide, by decide⟩)).w (fun _ _ _ => ⟨by decide, by decide⟩)).w (fun _ _ _ => ⟨by decide, by decide⟩)
theorem opN_r {J : Int → Int → Int} {a : Int} (h : MR J) : ∀ n : Nat, J 20 a + n ≤ 40 → MR (opN J a n)
  | 0, _ => h
  | n + 1, hn => opS_r (opN_r h n (by omega)) (by rw [opN_20]; omega)
set_option maxHeartbeats 8000000 in
theorem y_addSegments {d : Nat} {K : Kt} {X : Xt} {ty : Nm → Nat} {ln : Nm → Int} {I : Nm → Int → Int} {R : Nm → Int → Option Nm} {c w : Nat} {a : Int} {J0 : Int → Int → Int} {L0 LL : List Ck} {n : Nat} (hS : MS J0 a L0 ty ln I R c) (h7 : HL7 I ty ln R a LL) (hR0 : MR J0) (ha : hsJ J0 a) (hn : J0 20 a + n ≤ 40) (un : ∀ s, J0 20 a ≤ s → s < 40 → UNs J0 a s) (hf : ∀ s t, J0 20 a ≤ s → ty (4 :: a :: 8 :: s :: t) = 0) (hc : 41 * n ≤ c) (hw : 24000 + 706 * n ≤ (w : Int) + 4 * ln (la R a 8))
    (k : ∀ (ty' : Nm → Nat) (ln' : Nm → Int) (I' : Nm → Int → Int) (R' : Nm → Int → Option Nm) (c' w' : Nat), MS (opN J0 a n) a L0 ty' ln' I' R' c' → HL7 I' ty' ln' R' a LL → (∀ x, ty x ≠ 0 → ty' x = ty x ∧ ln' x = ln x) → (∀ x y, (ty x ≠ 0 ∨ (¬ n12 a x ∧ ∀ s t, x ≠ 4 :: a :: 8 :: s :: t)) → x ≠ [4, a, 8] → I' x y = I x y) → (∀ x y, ty x ≠ 0 → x ≠ [4, a, 8] → (ty x ≠ 8 ∨ ¬ n12 a x) → R' x y = R x y) → (∀ s t, J0 20 a + n ≤ s → ty' (4 :: a :: 8 :: s :: t) = 0) → (∀ x, ty x = 0 → ¬ n12 a x → (∀ s t, x ≠ 4 :: a :: 8 :: s :: t) → ty' x = 0) → (c ≤ c' + 41 * n ∧ (w : Int) + 4 * ln (la R a 8) ≤ w' + 4 * ln' (la R' a 8) + 706 * n) → (la R' a 7 = la R a 7 ∧ la R' a 9 = la R a 9) → K none (ty', ln', I', R', c', w')) :
    Mth (d + 7) M_House_addSegments [vR (some [4, a]), vI (J0 20 a + n), vR (some [17])] (ty, ln, I, R, c, w) K X := by
  have key : ∀ (q i : Nat) (ty' : Nm → Nat) (ln' : Nm → Int) (I' : Nm → Int → Int) (R' : Nm → Int → Option Nm) (c' w' : Nat), i + q = n → MS (opN J0 a i) a L0 ty' ln' I' R' c' → HL7 I' ty' ln' R' a LL → (∀ x, ty x ≠ 0 → ty' x = ty x ∧ ln' x = ln x) → (∀ x y, (ty x ≠ 0 ∨ (¬ n12 a x ∧ ∀ s t, x ≠ 4 :: a :: 8 :: s :: t)) → x ≠ [4, a, 8] → I' x y = I x y) → (∀ x y, ty x ≠ 0 → x ≠ [4, a, 8] → (ty x ≠ 8 ∨ ¬ n12 a x) → R' x y = R x y) → (∀ s t, J0 20 a + i ≤ s → ty' (4 :: a :: 8 :: s :: t) = 0) → (∀ x, ty x = 0 → ¬ n12 a x → (∀ s t, x ≠ 4 :: a :: 8 :: s :: t) → ty' x = 0) → (c ≤ c' + 41 * i ∧ (w : Int) + 4 * ln (la R a 8) ≤ w' + 4 * ln' (la R' a 8) + 706 * i) → (la R' a 7 = la R a 7 ∧ la R' a 9 = la R a 9) → Rn (d + 6) M_House_addSegments K X 8 [vR (some [4, a]), vI (J0 20 a + n), vR (some [17]), vI (J0 20 a + i)] [] (ty', ln', I', R', c', w') := by
    intro q
    induction q with
    | zero =>
      intro i ty' ln' I' R' c' w' hi z1 z2 z3 z4 z5 z6 z6b z7 z8
      obtain rfl : i = n := by omega
      rw [b_House_addSegments_8, if_pos (by omega)]
      exact k ty' ln' I' R' c' w' z1 z2 z3 z4 z5 z6 z6b z7 z8
    | succ q ih =>
      intro i ty' ln' I' R' c' w' hi z1 z2 z3 z4 z5 z6 z6b z7 z8
      obtain ⟨J, eJ⟩ : ∃ J, J = opN J0 a i := ⟨_, rfl⟩
      have e20 : J 20 a = J0 20 a + i := by rw [eJ]; exact opN_20 i
      have hR : MR J := by rw [eJ]; exact opN_r hR0 i (by omega)
      rw [← eJ] at z1
      obtain ⟨m1, m2, mY, m4, m5, m6⟩ := id z1
      obtain ⟨y1, y2, y3, y4, y5, y6, y7, ⟨y8, y9⟩, y10⟩ := id mY
      have ha' : hsJ J a := by rw [eJ]; exact hsJ_c ha (opN_o (by decide) i)
      have b200 := hR0.k20 a
      obtain ⟨t0, -, -, -, -, -, -, ⟨r7, t7⟩, ⟨r8, t8⟩, ⟨r9, t9⟩⟩ := m1.hs a ha'
      obtain ⟨s1, -⟩ := id m1.g.2.1
      obtain ⟨k3, k4, k5⟩ := m1.g.2.2.2.1
      have sc := m1.g.2.2.2.2.2.2.2
      have lk := lK sc.1
      have l8b := y7.2.2.2.1
      have hf' : ∀ t, ty' (4 :: a :: 8 :: J 20 a :: t) = 0 := fun t => z6 _ t (by omega)
      rw [b_House_addSegments_8, if_neg (by omega), and_t t0, and_t ⟨by omega, by omega⟩, ← e20]
      refine ⟨[4, a, 8, J 20 a], hf' [], ?_⟩
      refine s_Segment_init (N := J (-1) 3) (l := 60 / J (-1) 2) (by rw [upN_ne _ _ (by simp)]; exact s1) (by rw [upN_ne _ _ (by simp)]; exact k4) (by rw [upN_ne _ _ (by simp)]; exact k5) (by omega) lk (upN_self _ _ _) (fun x => by rw [upN_self]) (fun t ht => by rw [upN_ne _ _ (by simp [ht])]; exact hf' t) (by omega) (by omega) (fun ty2 ln2 I2 R2 c2 w2 g1 g2 g3 g4 g5 g6 g7 => ?_)
      show Rn (d + 6) M_House_addSegments K X 25 _ [vR (some [4, a, 8, J 20 a]), vR (R' [4, a] 8)] _
      -- before, behind the segment's making
      have o2 : ∀ x, nS a (J 20 a) x → ty2 x = ty' x ∧ ln2 x = ln' x ∧ (∀ y, I2 x y = I' x y) ∧ (∀ y, R2 x y = R' x y) := fun x hx => by
        obtain ⟨u1, u2, u3, u4⟩ := g2 x hx
        have ne : x ≠ [4, a, 8, J 20 a] := hx []
        rw [upN_ne _ _ ne] at u1 u2
        exact ⟨u1, u2, fun y => by rw [u3 y, upN_ne _ _ ne], fun y => by rw [u4 y, upN_ne _ _ ne]⟩
      have nz : ∀ {x}, ty' x ≠ 0 → nS a (J 20 a) x := fun hx => nS_of hf' hx
      have t8' : ty' [4, a, 8] ≠ 0 := by rw [t8]; decide
      have tl8 : ty' (la R' a 8) ≠ 0 := rw12_ty (a := a) y7
      have lq2 : LQ ty2 ln2 I2 R2 [4, a, 8] (la R' a 8) (J 20 a) := y7.fr (fun x hx => ⟨(o2 x (nz hx)).1, (o2 x (nz hx)).2.1⟩) ((o2 _ (nz t8')).2.2.2 0) ((o2 _ (nz t8')).2.2.1 1) (fun j => (o2 _ (nz tl8)).2.2.2 j)
      have n12z : ∀ q' : Int, nS a (J 20 a) [12, a, q'] := fun q' t z => by simp at z
      rw [b_House_addSegments_25, r8, ex_some, and_t (by rw [(o2 _ (nz t8')).1]; exact t8)]
      refine s_AL_add (nn := [12, a, (c2 : Int)]) (e := [4, a, 8, J 20 a]) lq2 (by omega) (by unfold oke; rw [g1.1]; exact ⟨by decide, by decide⟩) (by rw [(o2 _ (n12z _)).1]; exact m6 a _ (by omega)) rfl (by omega) (by omega) (fun ty3 ln3 I3 R3 c3 w3 m3 p1 p2 p3 p4 p5 p6 p7 p8 p9 => ?_)
      show Rn (d + 6) M_House_addSegments K X 28 _ [vI 1] _
      rw [b_House_addSegments_28, w32_id (by omega) (by omega)]
      have nn0 : ty' [12, a, (c2 : Int)] = 0 := m6 a _ (by omega)
      have xn : ∀ {x}, ty' x ≠ 0 → x ≠ [12, a, (c2 : Int)] := fun hx z => hx (by rw [z]; exact nn0)
      have sn : ∀ t, (4 :: a :: 8 :: J 20 a :: t : Nm) ≠ [12, a, (c2 : Int)] ∧ (4 :: a :: 8 :: J 20 a :: t : Nm) ≠ [4, a, 8] := fun t => ⟨by simp, by simp⟩
      have sm : ∀ t, (4 :: a :: 8 :: J 20 a :: t : Nm) ≠ m3 := fun t z => by
        rcases p2 with u | u
        · rw [u] at z
          rcases y8 with v | v
          · rw [v] at z; simp [nE] at z
          · exact n12_4 v z.symm
        · rw [u] at z; simp at z
      have ty3o : ∀ x, ty' x ≠ 0 → ty3 x = ty' x ∧ ln3 x = ln' x := fun x hx => by
        have u := p5 x (xn hx)
        have v := o2 x (nz hx)
        exact ⟨u.1.trans v.1, u.2.trans v.2.1⟩
      have i3o : ∀ x y, (ty' x ≠ 0 ∨ (¬ n12 a x ∧ nS a (J 20 a) x)) → x ≠ [4, a, 8] → I3 x y = I' x y := fun x y hx h8 => by
        have hx1 : x ≠ [12, a, (c2 : Int)] := hx.elim (fun u => xn u) (fun u v => u.1 ⟨_, v⟩)
        have hx2 : nS a (J 20 a) x := hx.elim (fun u => nz u) (fun u => u.2)
        rw [p6 x y hx1 (Or.inl h8)]; exact (o2 x hx2).2.2.1 y
      have r3o : ∀ x y, ty' x ≠ 0 → x ≠ [4, a, 8] → (x ≠ la R' a 8 ∨ la R' a 8 = nE) → R3 x y = R' x y := fun x y hx h8 hl => by
        have hm : x ≠ m3 := fun z => by
          rcases p2 with u | u
          · rw [u] at z
            rcases hl with v | v
            · exact v z
            · have pp := p1.2.2.2.1
              rcases p1.2.2.2.2.1 with w9 | w9
              · omega
              · rw [u, v] at w9; exact absurd w9.2.2 (by decide)
          · exact xn hx (z.trans u)
        rw [p7 x y (xn hx) hm (Or.inl h8)]; exact (o2 x (nz hx)).2.2.2 y
      have s3 : ∀ t, ty3 (4 :: a :: 8 :: J 20 a :: t) = ty2 (4 :: a :: 8 :: J 20 a :: t) ∧ ln3 (4 :: a :: 8 :: J 20 a :: t) = ln2 (4 :: a :: 8 :: J 20 a :: t) ∧ (∀ y, I3 (4 :: a :: 8 :: J 20 a :: t) y = I2 (4 :: a :: 8 :: J 20 a :: t) y) ∧ (∀ y, R3 (4 :: a :: 8 :: J 20 a :: t) y = R2 (4 :: a :: 8 :: J 20 a :: t) y) := fun t => ⟨(p5 _ (sn t).1).1, (p5 _ (sn t).1).2, fun y => p6 _ y (sn t).1 (Or.inl (sn t).2), fun y => p7 _ y (sn t).1 (sm t) (Or.inl (sn t).2)⟩
      have sg3 : SG ty3 ln3 R3 a (J 20 a) (J (-1) 3) (60 / J (-1) 2) := by
        obtain ⟨v0, v1, v2, v3, v4⟩ := g1
        refine ⟨by rw [(s3 []).1]; exact v0, ⟨by rw [(s3 []).2.2.2]; exact v1.1, by rw [(s3 [0]).1]; exact v1.2.1, by rw [(s3 [0]).2.1]; exact v1.2.2⟩, ⟨by rw [(s3 []).2.2.2]; exact v2.1, by rw [(s3 [1]).1]; exact v2.2.1, by rw [(s3 [1]).2.1]; exact v2.2.2⟩, ⟨by rw [(s3 []).2.2.2]; exact v3.1, by rw [(s3 [2]).1]; exact v3.2.1, by rw [(s3 [2]).2.1]; exact v3.2.2⟩, fun j j0 j1 => ?_⟩
        obtain ⟨w1, w2', w3', w4⟩ := v4 j j0 j1
        exact ⟨by rw [(s3 [2]).2.2.2]; exact w1, by rw [(s3 [3, j]).1]; exact w2', ⟨by rw [(s3 [3, j]).2.2.2]; exact w3'.1, by rw [(s3 [3, j, 0]).1]; exact w3'.2.1, by rw [(s3 [3, j, 0]).2.1]; exact w3'.2.2⟩, ⟨by rw [(s3 [3, j]).2.2.2]; exact w4.1, by rw [(s3 [3, j, 1]).1]; exact w4.2.1, by rw [(s3 [3, j, 1]).2.1]; exact w4.2.2⟩⟩
      have pc3 : ∀ j : Int, 0 ≤ j → j < J (-1) 3 → PCn ty3 ln3 I3 R3 a (J 20 a) (60 / J (-1) 2) j := fun j j0 j1 => by
        obtain ⟨w1, w2', w3', w4, w5, w6⟩ := g4 j j0 j1
        exact ⟨sg3.2.2.2.2 j j0 j1, by rw [(s3 [3, j]).2.2.1]; exact w2', by rw [(s3 [3, j]).2.2.1]; exact w3', by rw [(s3 [3, j]).2.2.1]; exact w4, fun x => by rw [(s3 [3, j, 0]).2.2.1]; exact w5 x, fun x => by rw [(s3 [3, j, 1]).2.2.1]; exact w6 x⟩
      have fr9 : FR9 ty3 c3 := fun b q' hq' => by
        have hq2 : q' ≤ (c' : Int) := by rcases p8 with ⟨_, u⟩ | u <;> omega
        by_cases y : ([12, b, q'] : Nm) = [12, a, (c2 : Int)]
        · rcases p8 with ⟨u, _⟩ | u
          · rw [y]; exact u
          · simp at y; omega
        · rw [(p5 _ y).1, (o2 _ (fun t z => by simp at z)).1]
          exact m6 b q' hq2
      have um : m3 = nE ∨ n12 a m3 := by
        rcases p2 with u | u
        · rw [u]; exact y8
        · exact Or.inr ⟨_, u⟩
      have um9 : m3 = la R' a 9 → m3 = nE := fun z => by
        rcases p2 with u | u
        · rw [u] at z ⊢; exact y10 z
        · have := rw12_ty (a := a) y1
          exact absurd (z.symm.trans u) (xn this)
      have hS3 : MS (opS J a) a L0 ty3 ln3 I3 R3 c3 := z1.seg hR ha' (by omega) hf' ty3o i3o r3o p1 um um9 (fun j j0 j1 => by rw [p4 j j0 j1]; exact (o2 _ (nz tl8)).2.2.2 j) p3 sg3 ⟨by rw [(s3 []).2.2.1]; exact g3.1, by rw [(s3 []).2.2.1]; exact g3.2.1, by rw [(s3 []).2.2.1]; exact g3.2.2.1, fun x => by rw [(s3 [0]).2.2.1]; exact g3.2.2.2.1 x, fun x => by rw [(s3 [1]).2.2.1]; exact g3.2.2.2.2 x⟩ pc3 (by rw [e20]; intro j j0 j1; have := un (J0 20 a + i) (by omega) (by omega) j j0 j1; rw [eJ, opN_o (by decide), opN_o (by decide), opN_o (by decide)]; exact ⟨this.1, this.2.1, this.2.2.1, fun x x0 x1 => by rw [opN_o (by decide)]; exact this.2.2.2.1 x x0 x1, fun x x0 x1 => by rw [opN_o (by decide)]; exact this.2.2.2.2 x x0 x1⟩) fr9
      obtain ⟨l1, l2, l3, l4', l5'⟩ := id z2
      have tl7 : ty' (la R' a 7) ≠ 0 := rw12_ty (a := a) l1
      have t7' : ty' [4, a, 7] ≠ 0 := by rw [t7]; decide
      have t9' : ty' [4, a, 9] ≠ 0 := by rw [t9]; decide
      have n8 : la R' a 8 ≠ nE → ty' (la R' a 8) = 8 := fun z => y7.2.2.2.2.1.elim (fun u => absurd u.1 z) (fun u => u.1)
      have rty : ∀ x y, ty' x ≠ 0 → ty' x ≠ 8 → x ≠ [4, a, 8] → R3 x y = R' x y := fun x y z1 z2 z3 => r3o x y z1 z3 (by
        by_cases z : la R' a 8 = nE
        · exact Or.inr z
        · exact Or.inl (fun e => z2 (by rw [e]; exact n8 z)))
      have la7 : la R3 a 7 = la R' a 7 := by unfold la; rw [rty _ _ t7' (by rw [t7]; decide) (by simp)]
      have la9 : la R3 a 9 = la R' a 9 := by unfold la; rw [rty _ _ t9' (by rw [t9]; decide) (by simp)]
      have la8 : la R3 a 8 = m3 := by unfold la; rw [p1.2.1]; rfl
      have r7r : ∀ y, R3 (la R' a 7) y = R' (la R' a 7) y := fun y => r3o _ _ tl7 (by rcases l3 with u | ⟨q', u⟩ <;> rw [u] <;> simp [nE]) (by
        by_cases z : la R' a 8 = nE
        · exact Or.inr z
        · exact Or.inl (fun e => z (by rw [← e]; exact l4' e)))
      have h73 : HL7 I3 ty3 ln3 R3 a LL := by
        refine ⟨?_, ?_, ?_, ?_, ?_⟩
        · rw [la7]; exact l1.fr ty3o (rty _ _ t7' (by rw [t7]; decide) (by simp)) (i3o _ _ (Or.inl t7') (by simp)) r7r
        · rw [la7]; intro j e he; rw [r7r]; exact l2 j e he
        · unfold rw12; rw [la7]; exact l3
        · rw [la7, la8]
          intro z
          rcases p2 with u | u
          · rw [u] at z; exact l4' z
          · exact absurd (z.trans u) (xn tl7)
        · rw [la7, la9]; exact l5'
      have := ih (i + 1) ty3 ln3 I3 R3 c3 w3 (by omega) (by rw [eJ] at hS3; exact hS3) h73 (fun x hx => by
        have u := z3 x hx
        have v := ty3o x (by rw [u.1]; exact hx)
        exact ⟨v.1.trans u.1, v.2.trans u.2⟩) (fun x y hx h8 => by rw [i3o x y (hx.imp (fun u => by rw [(z3 x u).1]; exact u) (fun u => ⟨u.1, u.2 _⟩)) h8]; exact z4 x y hx h8) (fun x y hx h8 h8t => by
        have hx' : ty' x ≠ 0 := by rw [(z3 x hx).1]; exact hx
        rw [r3o x y hx' h8 (by
          rcases h8t with u | u
          · by_cases z : la R' a 8 = nE
            · exact Or.inr z
            · exact Or.inl (fun e => u (by rw [← (z3 x hx).1, e]; exact n8 z))
          · rcases y8 with v | v
            · exact Or.inr v
            · exact Or.inl (fun e => u (by rw [e]; exact v)))]
        exact z5 x y hx h8 h8t) (fun s t hs => by
        have ns : nS a (J 20 a) (4 :: a :: 8 :: s :: t) := fun t' z => by simp at z; omega
        rw [(p5 _ (by simp)).1, (o2 _ ns).1]; exact z6 s t (by omega)) (fun x hx h12 hs => by
        rw [(p5 x (fun v => h12 ⟨_, v⟩)).1, (o2 x (hs _)).1]; exact z6b x hx h12 hs) ⟨by omega, by
        rw [la8]
        rw [(o2 _ (nz tl8)).2.1] at p9
        omega⟩ ⟨la7.trans z8.1, la9.trans z8.2⟩
      rw [show J 20 a + 1 = J0 20 a + ((i + 1 : Nat) : Int) by omega]
      exact this
  obtain ⟨t0, -, -, -, -, -, -, -, ⟨r8, t8⟩, -⟩ := hS.1.hs a ha
  have mY := hS.2.2.1
  rw [in_House_addSegments, b_House_addSegments_0, and_t t0, r8, ex_some, and_t t8, s_AL_size2 mY.2.2.2.2.2.2.1]
  show Rn (d + 6) M_House_addSegments K X 7 _ [vI _] _
  rw [b_House_addSegments_7]
  have := key n 0 ty ln I R c w (Nat.zero_add _) hS h7 (fun _ _ => ⟨rfl, rfl⟩) (fun _ _ _ _ => rfl) (fun _ _ _ _ _ => rfl) (fun s t hs => hf s t (by omega)) (fun _ hx _ _ => hx) (by omega) ⟨rfl, rfl⟩
  rw [show J0 20 a + ((0 : Nat) : Int) = J0 20 a by omega] at this
  exact this
