/-! ===== Draft.add ===== -/
theorem alJ_49 {J : Int → Int → Int} {sl : Int} {t : Nat} (ht : t < 10) (h17 : ∀ x, J 17 x ≤ 50) (h49 : J 17 (10 * sl + t) < 50) : alJ J sl 10 < 500 := by
  have s : ∀ n : Nat, n ≤ 10 → alJ J sl n ≤ 50 * n - (if t < n then 1 else 0) := by
    intro n
    induction n with
    | zero => intro _; rw [if_neg (by omega)]; exact Int.le_refl _
    | succ n ih =>
      intro hn
      have ih' := ih (by omega)
      have q5 := h17 (10 * sl + n)
      show alJ J sl n + _ ≤ _
      by_cases w : n = t
      · subst w
        rw [if_neg (by omega)] at ih'
        rw [if_pos (show n < n + 1 by omega)]
        split <;> omega
      · by_cases w2 : t < n
        · rw [if_pos w2] at ih'
          rw [if_pos (show t < n + 1 by omega)]
          split <;> omega
        · rw [if_neg w2] at ih'
          rw [if_neg (show ¬ t < n + 1 by omega)]
          split <;> omega
  have := s 10 (Nat.le_refl _)
  rw [if_pos ht] at this
  omega
theorem HL7.fr {ty ty' : Nm → Nat} {ln ln' : Nm → Int} {I I' : Nm → Int → Int} {R R' : Nm → Int → Option Nm} {a : Int} {L : List Ck} (h : HL7 I ty ln R a L) (tt : ∀ n, ty n ≠ 0 → ty' n = ty n ∧ ln' n = ln n) (r : ∀ k, R' [4, a, k] 0 = R [4, a, k] 0) (i : I' [4, a, 7] 1 = I [4, a, 7] 1) (rm : ∀ j, R' (la R a 7) j = R (la R a 7) j) : HL7 I' ty' ln' R' a L := by
  obtain ⟨h1, h2, h3, h4, h5⟩ := h
  have l : ∀ k, la R' a k = la R a k := fun k => by unfold la; rw [r k]
  refine ⟨?_, ?_, ?_, ?_, ?_⟩
  · rw [l]; exact h1.fr tt (r 7) i rm
  · rw [l]; intro j e he; rw [rm]; exact h2 j e he
  · unfold rw12; rw [l]; exact h3
  · rw [l, l]; exact h4
  · rw [l, l]; exact h5
theorem fr_wr {a q : Int} : wr [12, a, q] = true := rfl
set_option maxHeartbeats 8000000 in
theorem y_add {d : Nat} {K : Kt} {X : Xt} {ty : Nm → Nat} {ln : Nm → Int} {I : Nm → Int → Int} {R : Nm → Int → Option Nm} {c w : Nat} {a fr z sl : Int} {J0 J1 : Int → Int → Int} {L0 Nw : List Ck} {t ks : Nat} (hM : MID J0 J1 a sl L0 Nw ty ln I R c) (hR0 : MR J0) (ha : hsJ J0 a) (hks : sl = 6 * a + ks ∧ ks < 6) (ht : t < 10) (hF : FI J1 a sl t (500 * sl + alJ J1 sl 10) fr) (h12 : J0 12 (10 * a + t) ≠ 0) (hfr : fr < J0 13 (10 * a + t)) (hz : z = ceJ J1 (10 * a + t) fr - fr) (hc : 3 ≤ c) (hw : 9200 ≤ w)
    (k0 : (chJ J1 a sl (10 * a + t) fr).1 < 0 → (chJ J1 a sl (10 * a + t) fr).2 = J1 → ∀ I', FRM a ty ln I R ty ln I' R → MS J0 a L0 ty ln I' R c → HL7 I' ty ln R a (L0 ++ Nw) → K (some (vI 0)) (ty, ln, I', R, c, w))
    (k1 : 0 ≤ (chJ J1 a sl (10 * a + t) fr).1 → ∀ (ty' : Nm → Nat) (ln' : Nm → Int) (I' : Nm → Int → Int) (R' : Nm → Int → Option Nm) (c' w' : Nat) (Nw' : List Ck), FRM a ty ln I R ty' ln' I' R' → MID J0 (nxJ J1 a sl t (10 * a + t) fr (500 * sl + alJ J1 sl 10)) a sl L0 Nw' ty' ln' I' R' c' → (c ≤ c' + 3 ∧ (w : Int) + 4 * ln (la R a 7) ≤ w' + 4 * ln' (la R' a 7) + 64) → (∀ k : Int, k ≠ 2 → k ≠ 3 → k ≠ 4 → I' [16] k = I [16] k) → (∀ x, I' [16, 1] x = I [16, 1] x) → K (some (vI 1)) (ty', ln', I', R', c', w')) :
    Mth (d + 7) M_Draft_add [vR (some [16]), vR (some [4, a]), vR (some [4, a, 5, (t : Int)]), vI fr, vI z] (ty, ln, I, R, c, w) K X := by
  obtain ⟨hS, h7, hN, hV, hQ, hD⟩ := id hM
  obtain ⟨m1, m2, mY, m4, m5, m6⟩ := id hS
  obtain ⟨l1, l2, l3, l4', l5'⟩ := id h7
  obtain ⟨⟨q1, q2⟩, q3, q4, q5, q6, q7, q8, q9, q10, q11⟩ := id hQ
  obtain ⟨d1, d2, d3, d4⟩ := id hD
  obtain ⟨f1, fr0, fr1, fr2, fr3, fr4, fr5, ⟨ft0, fl0⟩, ⟨ft3, fl3⟩, ⟨ft4, fl4⟩, ⟨ft5, fl5⟩, ft16, fr160, fr161, ⟨ft160, fl160⟩, ⟨ft161, fl161⟩⟩ := id m1.g.1
  obtain ⟨t0, ⟨r2, t2, ll2⟩, ⟨r3, t3, ll3⟩, ⟨r4, t4, ll4⟩, ⟨r5, t5, ll5⟩, rw5, ⟨r6, t6, ll6⟩, ⟨r7, t7⟩, ⟨r8, t8⟩, ⟨r9, t9⟩⟩ := m1.hs a ha
  obtain ⟨hSI, fI1, fI2, fI3, fI4, fI5⟩ := id hF
  obtain ⟨hR1, hP1, hm30, hm31⟩ := id hSI
  obtain ⟨rt, tt, lt⟩ := rw5 t (by omega) (by omega)
  have e13 : J1 13 (10 * a + t) = J0 13 (10 * a + t) := q1 13 _ (by decide) (by decide) (by decide) (by decide) (by decide) (by decide) (by decide) (by decide)
  have e14 : ∀ x, J1 14 x = J0 14 x := fun x => q1 14 _ (by decide) (by decide) (by decide) (by decide) (by decide) (by decide) (by decide) (by decide)
  have b13 := hR0.k13 (10 * a + t)
  have ce := ceJ_r (J := J1) (f := 10 * a + t) (fr := fr) ⟨fI1.1, by omega⟩
  have hz1 : 1 ≤ z ∧ z ≤ 16 := by omega
  have hfz : fr + z ≤ J0 13 (10 * a + t) := by omega
  have h17 : ∀ x, J1 17 x ≤ 50 := fun x => (hR1.k17 x).2
  have h49 : J1 17 (10 * sl + t) < 50 := by have := fI2 (by omega); omega
  have al9 := alJ_49 (J := J1) (sl := sl) ht h17 h49
  have al0 := alJ_0 (J := J1) (sl := sl) 10
  have b20 := hR1.k20 a
  have b200 := hR0.k20 a
  have fb : ∀ x, 0 ≤ x → x < z → I [4, a, 5, (t : Int)] (fr + x) = J1 14 (200 * (10 * a + t) + fr + x) := fun x x0 x1 => by
    rw [e14, Int.add_assoc]
    exact m1.ri _ _ _ _ (Or.inr (Or.inr (Or.inl ⟨a, t, ha, rfl, ⟨by omega, by omega⟩, ⟨by omega, by omega, by omega, h12⟩, rfl, rfl⟩)))
  -- the bytes of the chunks
  have eb : ∀ e ∈ L0 ++ Nw, ∀ x, 0 ≤ x → x < e.2.2.2 → I e.2.1 x = J1 23 (e.2.2.1 + x) := fun e he x x0 x1 => by
    rcases List.mem_append.mp he with g | g
    · obtain ⟨⟨c1, c2, c3, c4, c5, c6, c7, c8, c9⟩, -⟩ := m4 e g
      have rg := m5.2.1 e g
      rw [c9 x x0 x1, q7 _ (Or.inl (by omega))]
    · obtain ⟨⟨c1, c2, c3, c4, c5, c6, c7, c8, c9⟩, -⟩ := hN e g
      exact c9 x x0 x1
  have ec : ∀ e ∈ L0 ++ Nw, ty e.1 = 101 ∧ R e.1 0 = some e.2.1 ∧ ty e.2.1 = 1 ∧ ln e.2.1 = e.2.2.2 ∧ n12 a e.1 ∧ n12 a e.2.1 := fun e he => by
    rcases List.mem_append.mp he with g | g
    · obtain ⟨⟨c1, c2, c3, c4, c5, c6, c7, c8, c9⟩, -⟩ := m4 e g
      exact ⟨c3, c4, c5, c6, c1, c2⟩
    · obtain ⟨⟨c1, c2, c3, c4, c5, c6, c7, c8, c9⟩, -⟩ := hN e g
      exact ⟨c3, c4, c5, c6, c1, c2⟩
  have mt : ∀ e ∈ L0 ++ Nw, ((e.2.2.2 = z ∧ ∀ x : Int, 0 ≤ x → x < z → I e.2.1 x = I [4, a, 5, (t : Int)] (fr + x)) ↔ (e.2.2.2 = z ∧ ∀ x : Int, 0 ≤ x → x < z → J1 23 (e.2.2.1 + x) = J1 14 (200 * (10 * a + t) + fr + x))) := fun e he => by
    constructor
    · rintro ⟨u, v⟩
      exact ⟨u, fun x x0 x1 => by rw [← eb e he x x0 (by omega), v x x0 x1, fb x x0 x1]⟩
    · rintro ⟨u, v⟩
      exact ⟨u, fun x x0 x1 => by rw [eb e he x x0 (by omega), v x x0 x1, fb x x0 x1]⟩
  have fc := fc_L (f := 10 * a + t) (fr := fr) (z := z) (fun x => (hR1.k18 x).1) hV (by omega)
  have d7n : la R a 7 ≠ nE → ty (la R a 7) = 8 := fun z => l1.2.2.2.2.1.elim (fun u => absurd u.1 z) (fun u => u.1)
  have r4n : ∀ l : List Int, (4 :: l : Nm) ≠ [16, 0] ∧ (4 :: l : Nm) ≠ [16] := fun l => ⟨by simp, by simp⟩
  have n16 : la R a 7 ≠ [16, 0] ∧ la R a 7 ≠ [16] := by rcases l3 with u | ⟨q, u⟩ <;> rw [u] <;> simp [nE]
  -- the chunk is put into the draft
  rw [in_Draft_add, b_Draft_add_0, ex_some, and_t t0]
  refine s_findChunk t0 r7 l1 l2 (fun e he => ⟨(ec e he).1, (ec e he).2.1, (ec e he).2.2.1, (ec e he).2.2.2.1⟩) tt (by omega) ⟨fI1.1, by omega⟩ (by omega) (fun hno => ?_) (fun e he hm => ?_)
  · -- a new one
    have fn : fcJ J1 a sl (10 * a + t) fr z 6 = -1 := by
      rcases fc with ⟨u, _⟩ | ⟨e, he, u, _⟩
      · exact u
      · exact absurd ((mt e he).mpr u) (hno e he)
    have nos : ∀ e ∈ L0 ++ Nw, ¬ (e.2.2.2 = z ∧ ∀ x : Int, 0 ≤ x → x < z → J1 23 (e.2.2.1 + x) = J1 14 (200 * (10 * a + t) + fr + x)) := fun e he u => hno e he ((mt e he).mpr u)
    have ch : chJ J1 a sl (10 * a + t) fr = ptJ J1 a (10 * a + t) fr z := by
      unfold chJ
      rw [← hz, fn, if_neg (by decide)]
    -- from 42 on, with the words Jb
    have go : ∀ (Jb : Int → Int → Int) (Ia : Nm → Int → Int), SI Jb a → QRs J0 Jb a sl Nw → CVR Jb a sl (L0 ++ Nw) → (∀ k x, k = 17 ∨ k = 18 ∨ k = 19 ∨ k = 14 ∨ k = 13 ∨ k = 16 → Jb k x = J1 k x) → (∀ e ∈ L0 ++ Nw, ∀ x, 0 ≤ x → x < e.2.2.2 → Jb 23 (e.2.2.1 + x) = J1 23 (e.2.2.1 + x)) → (0 ≤ Jb (-1) 30 ∧ Jb (-1) 30 + z ≤ 60) → J0 20 a < Jb 20 a → (∀ e ∈ L0 ++ Nw, e.2.2.1 + e.2.2.2 ≤ pcJ Jb a) → Ia [16] 3 = Jb 20 a - 1 → Ia [16] 4 = Jb (-1) 30 → (∀ n x, (n ≠ [16] ∨ (x ≠ 3 ∧ x ≠ 4)) → Ia n x = I n x) → chJ J1 a sl (10 * a + t) fr = (pcJ Jb a, flJ1 Jb a (10 * a + t) fr z) → Rn (d + 6) M_Draft_add K X 42 [vR (some [16]), vR (some [4, a]), vR (some [4, a, 5, (t : Int)]), vI fr, vI z, vR none] [] (ty, ln, Ia, R, c, w) := by
      intro Jb Ia sI qB vB jB b23 bm b0 bp i3 i4 ia chb
      have bb20 := sI.1.k20 a
      obtain ⟨nc, enc⟩ : ∃ nc : Nm, nc = [12, a, (c : Int)] := ⟨_, rfl⟩
      obtain ⟨nb, enb⟩ : ∃ nb : Nm, nb = [12, a, (c : Int) - 1] := ⟨_, rfl⟩
      obtain ⟨nn, enn⟩ : ∃ nn : Nm, nn = [12, a, (c : Int) - 2] := ⟨_, rfl⟩
      have fc0 : ty nc = 0 := by rw [enc]; exact m6 a c (Int.le_refl _)
      have fb0 : ty nb = 0 := by rw [enb]; exact m6 a _ (by omega)
      have fn0 : ty nn = 0 := by rw [enn]; exact m6 a _ (by omega)
      have wc : wr nc = true := by rw [enc]; rfl
      have wb : wr nb = true := by rw [enb]; rfl
      have wn : wr nn = true := by rw [enn]; rfl
      have ncb : nc ≠ nb := by rw [enc, enb]; simp; omega
      have ncn : nc ≠ nn := by rw [enc, enn]; simp; omega
      have nbn : nb ≠ nn := by rw [enb, enn]; simp <;> omega
      have n12c : n12 a nc := ⟨_, enc⟩
      have n12b : n12 a nb := ⟨_, enb⟩
      have n12n : n12 a nn := ⟨_, enn⟩
      have x0 : ∀ {x : Nm}, ty x ≠ 0 → x ≠ nc ∧ x ≠ nb ∧ x ≠ nn := fun {x} hx => ⟨fun z => hx (by rw [z]; exact fc0), fun z => hx (by rw [z]; exact fb0), fun z => hx (by rw [z]; exact fn0)⟩
      have x16 : ([16] : Nm) ≠ nc ∧ ([16] : Nm) ≠ nb ∧ ([16] : Nm) ≠ nn := x0 (by rw [ft16]; decide)
      have xt := x0 (x := [4, a, 5, (t : Int)]) (by rw [tt]; decide)
      have x4 := x0 (x := [4, a]) (by rw [t0]; decide)
      have x47 := x0 (x := [4, a, 7]) (by rw [t7]; decide)
      have tl7 : ty (la R a 7) ≠ 0 := rw12_ty (a := a) l1
      have xl7 := x0 tl7
      rw [b_Draft_add_42, and_t ft16, i3, if_pos (by omega), and_t ⟨by omega, by omega⟩]
      refine ⟨nc, fc0, ?_⟩
      rw [upN_ne ty _ x16.1, and_t ft16, and_t ft16, upN_ne Ia _ x16.1, i3, i4]
      refine s_Chunk_init (upN_self _ _ _) (by rw [upN_ne _ _ xt.1]; exact tt) (by rw [upN_ne _ _ (Ne.symm ncb)]; exact fb0) wc wb (by omega) ⟨fI1.1, by rw [upN_ne _ _ xt.1]; omega⟩ (by omega) (by omega) (fun I2 R2 g1 g2 g3 g4 g5 g6 => ?_)
      show Rn (d + 6) M_Draft_add K X 72 _ [vR (some nc)] _
      -- the state behind the chunk
      have ty2 : ∀ x, ty x ≠ 0 → upN (upN ty nc 101) nb 1 x = ty x ∧ upN (upN ln nc 0) nb z x = ln x := fun x hx => by
        rw [upN_ne _ _ (x0 hx).2.1, upN_ne _ _ (x0 hx).1, upN_ne _ _ (x0 hx).2.1, upN_ne _ _ (x0 hx).1]; exact ⟨rfl, rfl⟩
      have r2o : ∀ x y, x ≠ nc → x ≠ nb → R2 x y = R x y := fun x y u v => by rw [g6 x y v (Or.inl u), upN_ne _ _ u]
      have i2o : ∀ x y, x ≠ nc → x ≠ nb → I2 x y = Ia x y := fun x y u v => by rw [g1 x y v (Or.inl u), upN_ne _ _ u]
      have hLQ : LQ (upN (upN ty nc 101) nb 1) (upN (upN ln nc 0) nb z) I2 R2 [4, a, 7] (la R a 7) (L0 ++ Nw).length := l1.fr ty2 (r2o _ _ x47.1 x47.2.1) (by rw [i2o _ _ x47.1 x47.2.1, ia _ _ (Or.inl (by simp))]) (fun j => r2o _ _ xl7.1 xl7.2.1)
      have ll := CVR_len hV b20.2
      rw [b_Draft_add_72, ex_some, and_t (by rw [(ty2 _ (by rw [t0]; decide)).1]; exact t0), r2o _ _ x4.1 x4.2.1, r7, ex_some, and_t (by rw [(ty2 _ (by rw [t7]; decide)).1]; exact t7)]
      refine s_AL_add (nn := nn) (e := nc) hLQ (by omega) (by unfold oke; rw [upN_ne _ _ ncb, upN_self]; exact ⟨by decide, by decide⟩) (by rw [upN_ne _ _ (Ne.symm nbn), upN_ne _ _ (Ne.symm ncn)]; exact fn0) wn (by omega) (by omega) (fun ty3 ln3 I3 R3 c3 w3 m3 p1 p2 p3 p4 p5 p6 p7 p8 p9 => ?_)
      show Rn (d + 6) M_Draft_add K X 83 _ [vI 1] _
      have ty3o : ∀ x, ty x ≠ 0 → ty3 x = ty x ∧ ln3 x = ln x := fun x hx => by
        have := p5 x (x0 hx).2.2
        exact ⟨this.1.trans (ty2 x hx).1, this.2.trans (ty2 x hx).2⟩
      have t316 : ty3 [16] = 103 := by rw [(ty3o _ (by rw [ft16]; decide)).1]; exact ft16
      have t3160 : ty3 [16, 0] = 6 ∧ ln3 [16, 0] = 500 := by rw [(ty3o _ (by rw [ft160]; decide)).1, (ty3o _ (by rw [ft160]; decide)).2]; exact ⟨ft160, fl160⟩
      have x160 := x0 (x := [16, 0]) (by rw [ft160]; decide)
      have i3o : ∀ x y, x ≠ nc → x ≠ nb → x ≠ nn → x ≠ [4, a, 7] → I3 x y = Ia x y := fun x y u1 u2 u3 u4 => by rw [p6 x y u3 (Or.inl u4), i2o x y u1 u2]
      have r3o : ∀ x y, x ≠ nc → x ≠ nb → x ≠ nn → x ≠ [4, a, 7] → x ≠ m3 → R3 x y = R x y := fun x y u1 u2 u3 u4 u5 => by rw [p7 x y u3 u5 (Or.inl u4), r2o x y u1 u2]
      have n163 : ([16] : Nm) ≠ m3 := fun y => p2.elim (fun u => n16.2 (u ▸ y.symm)) (fun u => x16.2.2 (y.trans u))
      have t3c : ty3 nc = 101 := by rw [(p5 nc ncn).1, upN_ne _ _ ncb, upN_self]
      rw [b_Draft_add_83, and_t t316, and_t ⟨t316, rfl⟩, i3o _ _ x16.1 x16.2.1 x16.2.2 (by simp), i4, w32_id (by omega) (by omega), b_Draft_add_95, and_t t316, and_t t316, r3o _ _ x16.1 x16.2.1 x16.2.2 (by simp) n163, fr160, ex_some]
      have i2q : up2 I3 [16] 4 (Jb (-1) 30 + z) [16] 2 = alJ J1 sl 10 := by rw [up2_self, upI_ne _ _ (by decide), i3o _ _ x16.1 x16.2.1 x16.2.2 (by simp), ia _ _ (Or.inr (by decide))]; exact d1
      rw [i2q, and_t ⟨⟨by omega, by omega⟩, rfl, by omega, by omega, by show 100 ≤ ty3 nc ∧ avB (ty3 [16, 0]) (ty3 nc - 100) = true; rw [t3c, t3160.1]; exact ⟨by decide, avB6⟩⟩, and_t t316, and_t ⟨t316, rfl⟩, and_t (Or.inr rfl), w32_id (by omega) (by omega)]
      obtain ⟨I4, eI4⟩ : ∃ I4, I4 = up2 (up2 I3 [16] 4 (Jb (-1) 30 + z)) [16] 2 (alJ J1 sl 10 + 1) := ⟨_, rfl⟩
      obtain ⟨R4, eR4⟩ : ∃ R4, R4 = up2 R3 [16, 0] (alJ J1 sl 10) (some nc) := ⟨_, rfl⟩
      rw [← eI4, ← eR4]
      have i4o : ∀ x y, x ≠ [16] → I4 x y = I3 x y := fun x y u => by rw [eI4, up2_ne u, up2_ne u]
      have r4o : ∀ x y, x ≠ [16, 0] → R4 x y = R3 x y := fun x y u => by rw [eR4, up2_ne u]
      -- the words behind it
      have pcr : pcJ Jb a = 60 * (40 * a + Jb 20 a - 1) + Jb (-1) 30 := rfl
      have e14b : ∀ x, Jb 14 x = J1 14 x := fun x => jB 14 x (by decide)
      obtain ⟨J2, eJ2⟩ : ∃ J2, J2 = flJ1 Jb a (10 * a + t) fr z := ⟨_, rfl⟩
      have nx : nxJ J1 a sl t (10 * a + t) fr (500 * sl + alJ J1 sl 10) = entJ J2 sl t (pcJ Jb a) z := by
        have e17 : ∀ x, J2 17 x = J1 17 x := fun x => by rw [eJ2, flJ1_o (by decide)]; exact jB 17 x (by decide)
        unfold nxJ entJ
        rw [chb, ← hz, alJ_c (J := J1) (J' := J2) 10 (fun x _ => e17 _), eJ2]
      rw [← eJ2] at chb
      have j2o : ∀ k x, k = 16 ∨ k = 17 ∨ k = 18 ∨ k = 19 → J2 k x = Jb k x := fun k x hk => by rw [eJ2, flJ1_o (by omega)]
      have j23 : ∀ e ∈ L0 ++ Nw, ∀ x, 0 ≤ x → x < e.2.2.2 → J2 23 (e.2.2.1 + x) = Jb 23 (e.2.2.1 + x) := fun e he x x0 x1 => by rw [eJ2, flJ1_23, if_neg (by have := bp e he; omega)]
      have c2v : CVR J2 a sl (L0 ++ Nw) := vB.up20 (fun k x hk => j2o k x hk) (by rw [eJ2, flJ1_o (by decide)]; exact Int.le_refl _) j23
      have n23 : ∀ x, 0 ≤ x → x < z → J2 23 (pcJ Jb a + x) = J1 14 (200 * (10 * a + t) + fr + x) := fun x x0 x1 => by
        rw [eJ2, flJ1_23, if_pos (by omega), show pcJ Jb a + x - pcJ Jb a = x by omega]; exact e14b _
      have j2al : alJ J2 sl 10 = alJ J1 sl 10 := alJ_c 10 (fun x _ => by rw [j2o 17 _ (by decide)]; exact jB 17 _ (by decide))
      have j217 : J2 17 (10 * sl + t) = J1 17 (10 * sl + t) := by rw [j2o 17 _ (by decide)]; exact jB 17 _ (by decide)
      have hQ2 : QRs J0 J2 a sl (Nw ++ [(nc, nb, pcJ Jb a, z)]) := by rw [eJ2]; exact qB.fl bm hz1.1 b0 bb20.2
      have hQ3 : QRs J0 (entJ J2 sl t (pcJ Jb a) z) a sl (Nw ++ [(nc, nb, pcJ Jb a, z)]) := hQ2.ent (by omega) (by rw [j2al]; omega)
      have ne1 : ∀ e ∈ L0 ++ Nw, e.1 ≠ nc := fun e he z => by have := (ec e he).1; rw [z, fc0] at this; omega
      have hC3 : CVR (entJ J2 sl t (pcJ Jb a) z) a sl (L0 ++ (Nw ++ [(nc, nb, pcJ Jb a, z)])) := by
        rw [← List.append_assoc, hks.1]
        rw [hks.1] at c2v j217 fI3 h49
        have c2a : J2 20 a = Jb 20 a := by rw [eJ2, flJ1_o (by decide)]
        refine CVR.ent (e := (nc, nb, pcJ Jb a, z)) hks.2 ht (by rw [j217]; exact fI3) (fun x => by rw [j2o 17 _ (by decide), jB 17 _ (by decide)]; exact h17 x) (by rw [j217]; exact h49) ?_ ?_ ?_ ?_ (List.mem_append.mpr (Or.inr (List.mem_singleton.mpr rfl))) rfl rfl
        · rw [List.pairwise_append]
          refine ⟨c2v.1, List.pairwise_singleton _ _, fun e he f hf => ?_⟩
          obtain rfl := List.mem_singleton.mp hf
          have be := bp e he
          have le := (hV.2.1 e he).1
          refine ⟨ne1 e he, ?_, fun u => ?_⟩
          · show e.2.2.1 ≠ pcJ Jb a
            omega
          · refine nos e he ⟨u.1, fun x x0 x1 => ?_⟩
            have := u.2 x x0 (by have := u.1; show x < e.2.2.2; have u1 : e.2.2.2 = z := u.1; omega)
            have u1 : e.2.2.2 = z := u.1
            rw [j23 e he x x0 (by omega), b23 e he x x0 (by omega)] at this
            rw [this]
            exact n23 x x0 x1
        · intro e he
          rcases List.mem_append.mp he with g | g
          · exact c2v.2.1 e g
          · obtain rfl := List.mem_singleton.mp g
            show (1 ≤ z ∧ z ≤ 16) ∧ 2400 * a ≤ pcJ Jb a ∧ pcJ Jb a + z ≤ 2400 * a + 60 * J2 20 a ∧ pcJ Jb a % 60 + z ≤ 60
            rw [c2a]
            omega
        · intro k i hk
          obtain ⟨e, he, u⟩ := c2v.2.2.1 k i hk
          exact ⟨e, List.mem_append.mpr (Or.inl he), u⟩
        · intro f hf
          rcases List.mem_append.mp hf with g | g
          · exact Or.inr (c2v.2.2.2 f g)
          · obtain rfl := List.mem_singleton.mp g
            exact Or.inl rfl
      -- the class's part
      have fr9 : FR9 ty3 c3 := fun b q hq => by
        have hq2 : q ≤ (c : Int) - 2 := by rcases p8 with ⟨_, u⟩ | u <;> omega
        by_cases y : ([12, b, q] : Nm) = nn
        · rcases p8 with ⟨u, _⟩ | u
          · rw [y]; exact u
          · rw [enn] at y; simp at y; omega
        · rw [(p5 _ y).1, upN_ne _ _ (by rw [enb]; simp; omega), upN_ne _ _ (by rw [enc]; simp; omega)]
          exact m6 b q (by omega)
      have hS3 : MS J0 a L0 ty3 ln3 I4 R4 c3 := by
        refine hS.step hR0 ha l3 l4' l5' d7n ty3o (fun n x hn h7 h16 => ?_) (fun n x hn h7 h16 hl => ?_) fr9
        · have u : n ≠ nc ∧ n ≠ nb ∧ n ≠ nn := hn.elim (fun u => x0 u) (fun u => ⟨fun v => u (by rw [v]; exact n12c), fun v => u (by rw [v]; exact n12b), fun v => u (by rw [v]; exact n12n)⟩)
          have v16 : n ≠ [16] := fun v => h16 (by rw [v]; rfl)
          rw [i4o _ _ v16, i3o _ _ u.1 u.2.1 u.2.2 h7, ia _ _ (Or.inl v16)]
        · have u := x0 hn
          rw [r4o _ _ h16]
          refine r3o _ _ u.1 u.2.1 u.2.2 h7 (fun w9 => ?_)
          rw [w9] at hl
          rcases hl with v | v
          · rcases p2 with y | y
            · exact v y
            · exact u.2.2 (w9.trans y)
          · -- the empty row is never written
            have pp := p1.2.2.2.1
            have u9 := p1.2.2.2.2.1
            rcases u9 with y1 | y1
            · omega
            · rw [← w9] at y1
              rcases p2 with y | y
              · rw [w9, y, v] at y1; exact absurd y1.2.2 (by decide)
              · exact u.2.2 (w9.trans y)
      have la7 : la R4 a 7 = m3 := by
        have := p1.2.1
        unfold la
        rw [r4o _ _ (by simp), this]; rfl
      have la8 : la R4 a 8 = la R a 8 := by
        unfold la
        have t8' := x0 (x := [4, a, 8]) (by rw [t8]; decide)
        rw [r4o _ _ (by simp), r3o _ _ t8'.1 t8'.2.1 t8'.2.2 (by simp) (fun y => by
          rcases p2 with u | u
          · rw [u] at y; rcases l3 with v | v
            · rw [v] at y; simp [nE] at y
            · exact n12_4 v y.symm
          · exact t8'.2.2 (y.trans u))]
      have la9 : la R4 a 9 = la R a 9 := by
        unfold la
        have t8' := x0 (x := [4, a, 9]) (by rw [t9]; decide)
        rw [r4o _ _ (by simp), r3o _ _ t8'.1 t8'.2.1 t8'.2.2 (by simp) (fun y => by
          rcases p2 with u | u
          · rw [u] at y; rcases l3 with v | v
            · rw [v] at y; simp [nE] at y
            · exact n12_4 v y.symm
          · exact t8'.2.2 (y.trans u))]
      have m316 : m3 ≠ [16, 0] := fun y => p2.elim (fun u => n16.1 (u ▸ y)) (fun u => x160.2.2 (y.symm.trans u))
      have ml : ∀ k n', LQ ty ln I R [4, a, k] (la R a k) n' → (la R a 7 = la R a k → la R a 7 = nE) → m3 = la R a k → m3 = nE := fun k n' hk hh y => by
        rcases p2 with u | u
        · rw [u] at y ⊢; exact hh y
        · have := rw12_ty (a := a) hk
          exact absurd (y.symm.trans u) (x0 this).2.2
      have h74 : HL7 I4 ty3 ln3 R4 a (L0 ++ (Nw ++ [(nc, nb, pcJ Jb a, z)])) := by
        have len : ((L0 ++ (Nw ++ [(nc, nb, pcJ Jb a, z)])).length : Int) = ((L0 ++ Nw).length : Int) + 1 := by simp; omega
        refine ⟨?_, ?_, ?_, ?_, ?_⟩
        · rw [la7, len]
          obtain ⟨y1, y2, y3, y4, y5, y6⟩ := p1
          exact ⟨y1, by rw [r4o _ _ (by simp)]; exact y2, by rw [i4o _ _ (by simp)]; exact y3, y4, y5, fun j y hy => y6 j y (by rw [← r4o _ _ m316]; exact hy)⟩
        · rw [la7]
          intro i e he
          rw [r4o _ _ m316]
          by_cases y : i < (L0 ++ Nw).length
          · rw [← List.append_assoc, List.getElem?_append_left y] at he
            rw [p4 i (by omega) (by omega), r2o _ _ xl7.1 xl7.2.1]
            exact l2 i e he
          · rw [← List.append_assoc, List.getElem?_append_right (by omega)] at he
            have hlt := (List.getElem?_eq_some_iff.mp he).1
            simp at hlt
            have ei : i = (L0 ++ Nw).length := by rw [List.length_append] at *; omega
            rw [ei, Nat.sub_self] at he
            simp at he
            rw [ei, p3, ← he]
        · unfold rw12
          rw [la7]
          rcases p2 with u | u
          · rw [u]; exact l3
          · rw [u]; exact Or.inr n12n
        · rw [la7, la8]; exact ml 8 _ mY.2.2.2.2.2.2.1 l4'
        · rw [la7, la9]; exact ml 9 _ mY.1 l5'
      have n12ne : ∀ x, n12 a x → x ≠ [16] ∧ x ≠ [4, a, 7] := fun x hx => ⟨fun y => by have := n12_hd hx; rw [y] at this; simp [hd] at this, fun y => n12_4 hx y⟩
      have hN4 : ∀ e ∈ Nw ++ [(nc, nb, pcJ Jb a, z)], CKN (entJ J2 sl t (pcJ Jb a) z) I4 ty3 ln3 R4 a e ∧ I4 e.1 3 = 0 := fun e he => by
        rcases List.mem_append.mp he with g | g
        · obtain ⟨⟨c1, c2, c3', c4, c5, c6, c7, c8, c9⟩, cu⟩ := hN e g
          have he' : e ∈ L0 ++ Nw := List.mem_append.mpr (Or.inr g)
          have v1 := x0 (x := e.1) (by rw [c3']; decide)
          have v2 := x0 (x := e.2.1) (by rw [c5]; decide)
          have k1' := n12ne _ c1
          have k2' := n12ne _ c2
          have ie : ∀ y, I4 e.1 y = I e.1 y := fun y => by rw [i4o _ _ k1'.1, i3o _ _ v1.1 v1.2.1 v1.2.2 k1'.2, ia _ _ (Or.inl k1'.1)]
          have ie2 : ∀ y, I4 e.2.1 y = I e.2.1 y := fun y => by rw [i4o _ _ k2'.1, i3o _ _ v2.1 v2.2.1 v2.2.2 k2'.2, ia _ _ (Or.inl k2'.1)]
          have em : e.1 ≠ m3 := fun y => by
            rcases p2 with u | u
            · rw [u] at y
              rcases l1.2.2.2.2.1 with w9 | w9
              · rw [← y] at w9; omega
              · rw [← y] at w9; omega
            · exact v1.2.2 (y.trans u)
          refine ⟨⟨c1, c2, by rw [(ty3o _ (by rw [c3']; decide)).1]; exact c3', ?_, by rw [(ty3o _ (by rw [c5]; decide)).1]; exact c5, by rw [(ty3o _ (by rw [c5]; decide)).2]; exact c6, by rw [ie]; exact c7, by rw [ie]; exact c8, fun x x0 x1 => ?_⟩, by rw [ie]; exact cu⟩
          · rw [r4o _ _ (fun y => by have := n12_hd c1; rw [y] at this; simp [hd] at this), r3o _ _ v1.1 v1.2.1 v1.2.2 k1'.2 em]; exact c4
          · rw [ie2, entJ_o (by decide), j23 e he' x x0 x1, b23 e he' x x0 x1]; exact c9 x x0 x1
        · obtain rfl := List.mem_singleton.mp g
          have k1' := n12ne _ n12c
          have k2' := n12ne _ n12b
          have mc : nc ≠ m3 := fun y => by
            rcases p2 with u | u
            · exact xl7.1 (u ▸ y.symm)
            · exact ncn (y.trans u)
          have i4c : ∀ y, I4 nc y = I2 nc y := fun y => by rw [i4o _ _ k1'.1, p6 _ _ ncn (Or.inl k1'.2)]
          have i4b : ∀ y, I4 nb y = I2 nb y := fun y => by rw [i4o _ _ k2'.1, p6 _ _ nbn (Or.inl k2'.2)]
          refine ⟨⟨n12c, n12b, t3c, ?_, ?_, ?_, ?_, ?_, fun x x0 x1 => ?_⟩, ?_⟩
          · show R4 nc 0 = some nb
            rw [r4o _ _ (fun y => by have := n12_hd n12c; rw [y] at this; simp [hd] at this), p7 _ _ ncn mc (Or.inl k1'.2)]; exact g5
          · show ty3 nb = 1
            rw [(p5 nb nbn).1, upN_self]
          · show ln3 nb = z
            rw [(p5 nb nbn).2, upN_self]
          · show I4 nc 1 = pcJ Jb a / 60 - 40 * a
            rw [i4c, g3]; omega
          · show I4 nc 2 = pcJ Jb a % 60
            rw [i4c, g4]; omega
          · show I4 nb x = entJ J2 sl t (pcJ Jb a) z 23 (pcJ Jb a + x)
            have x1' : x < z := x1
            rw [i4b, g2 x x0 x1', upN_ne _ _ xt.1, ia _ _ (Or.inl (by simp)), entJ_o (by decide), n23 x x0 x1', fb x x0 x1']
          · show I4 nc 3 = 0
            rw [i4c, g1 _ _ ncb (Or.inr (by decide)), upN_self]
      have e20 : entJ J2 sl t (pcJ Jb a) z 20 a = Jb 20 a := by rw [entJ_o (by decide), eJ2, flJ1_o (by decide)]
      have e30 : entJ J2 sl t (pcJ Jb a) z (-1) 30 = Jb (-1) 30 + z := by rw [entJ_o (by decide), eJ2, flJ1_m, if_pos rfl]
      have eal : alJ (entJ J2 sl t (pcJ Jb a) z) sl 10 = alJ J1 sl 10 + 1 := by rw [entJ_al (by rw [j217]; exact fI3), if_pos ht, j2al]
      have hD4 : DRF (entJ J2 sl t (pcJ Jb a) z) a sl (L0 ++ (Nw ++ [(nc, nb, pcJ Jb a, z)])) I4 R4 := by
        refine ⟨?_, ?_, ?_, fun i hi => ?_⟩
        · rw [eal, eI4, up2_self, upI_self]
        · rw [e20, eI4, up2_self, upI_ne _ _ (by decide), up2_self, upI_ne _ _ (by decide), i3o _ _ x16.1 x16.2.1 x16.2.2 (by simp)]; exact i3
        · rw [e30, eI4, up2_self, upI_ne _ _ (by decide), up2_self, upI_self]
        · rw [eal] at hi
          by_cases y : (i : Int) = alJ J1 sl 10
          · refine ⟨(nc, nb, pcJ Jb a, z), List.mem_append.mpr (Or.inr (List.mem_append.mpr (Or.inr (List.mem_singleton.mpr rfl)))), ?_, ?_, ?_⟩
            · rw [eR4, y, up2_self, upI_self]
            · rw [entJ_18, if_pos (by rw [j2al, y])]
            · rw [entJ_19, if_pos (by rw [j2al, y])]
          · obtain ⟨e, he, u1, u2, u3⟩ := d4 i (by omega)
            refine ⟨e, ?_, ?_, ?_, ?_⟩
            · rw [← List.append_assoc]; exact List.mem_append.mpr (Or.inl he)
            · rw [eR4, up2_self, upI_ne _ _ y, r3o _ _ x160.1 x160.2.1 x160.2.2 (by simp) (Ne.symm m316)]; exact u1
            · rw [entJ_18, if_neg (by rw [j2al]; omega), j2o 18 _ (by decide), jB 18 _ (by decide)]; exact u2
            · rw [entJ_19, if_neg (by rw [j2al]; omega), j2o 19 _ (by decide), jB 19 _ (by decide)]; exact u3
      have k1' := k1 (by rw [chb]; show 0 ≤ pcJ Jb a; omega)
      rw [nx] at k1'
      refine k1' ty3 ln3 I4 R4 c3 w3 _ ⟨ty3o, fun n hn h12 => ?_, fun n x hx => ?_, fun n x hx hn => ?_⟩ ⟨hS3, h74, hN4, hC3, hQ3, hD4⟩ ⟨by omega, ?_⟩ (fun k u1 u2 u3 => ?_) (fun x => ?_)
      · rw [(p5 n (fun v => h12 (by rw [v]; exact n12n))).1, upN_ne _ _ (fun v => h12 (by rw [v]; exact n12b)), upN_ne _ _ (fun v => h12 (by rw [v]; exact n12c))]; exact hn
      · have u : ∀ b : Nm, n12 a b → n ≠ b := fun b hb v => by rw [v] at hx; have := n12_hd hb; unfold fxh at hx; omega
        have v16 : n ≠ [16] := fun v => by rw [v] at hx; simp [fxh, hd] at hx
        have v47 : n ≠ [4, a, 7] := fun v => by rw [v] at hx; simp [fxh, hd] at hx
        rw [i4o _ _ v16, i3o _ _ (u _ n12c) (u _ n12b) (u _ n12n) v47, ia _ _ (Or.inl v16)]
      · have v160 : n ≠ [16, 0] := fun v => hx.q.2.1 (by rw [v]; rfl)
        have v47 : n ≠ [4, a, 7] := hx.q.1
        have u := x0 hn
        rw [r4o _ _ v160]
        refine r3o _ _ u.1 u.2.1 u.2.2 v47 (fun v => ?_)
        rcases p2 with y | y
        · have pp := p1.2.2.2.1
          rcases p1.2.2.2.2.1 with y1 | y1
          · omega
          · rcases l3 with z9 | z9
            · rw [y, z9] at y1; exact absurd y1.2.2 (by decide)
            · have := n12_hd z9
              rw [← y, ← v] at this
              exact hx.q.2.2 this
        · exact u.2.2 (v.trans y)
      · rw [la7]
        rw [upN_ne _ _ xl7.2.1, upN_ne _ _ xl7.1] at p9
        omega
      · rw [eI4, up2_self, upI_ne _ _ u1, up2_self, upI_ne _ _ u3, i3o _ _ x16.1 x16.2.1 x16.2.2 (by simp), ia _ _ (Or.inr ⟨u2, u3⟩)]
      · have x161 := x0 (x := [16, 1]) (by rw [ft161]; decide)
        rw [i4o _ _ (by simp), i3o _ _ x161.1 x161.2.1 x161.2.2 (by simp), ia _ _ (Or.inl (by simp))]
    show Rn (d + 6) M_Draft_add K X 8 _ [vR none] _
    rw [b_Draft_add_8, if_pos rfl, and_t ft16, d3, w32_id (by omega) (by omega)]
    by_cases c1 : J1 (-1) 30 + z ≤ 60
    · rw [if_pos c1]
      have b0 : J0 20 a < J1 20 a := q9.2.elim (fun u => by omega) id
      refine go J1 I hSI hQ hV (fun _ _ _ => rfl) (fun _ _ _ _ _ => rfl) ⟨hm30.1, c1⟩ b0 (fun e he => ?_) d2 d3 (fun _ _ _ => rfl) ?_
      · rcases List.mem_append.mp he with g | g
        · have := m5.2.1 e g
          show _ ≤ 60 * (40 * a + J1 20 a - 1) + J1 (-1) 30
          omega
        · exact (q10 e g).2
      · rw [ch]; unfold ptJ; rw [if_pos c1]
    · rw [if_neg c1, and_t ft16, and_t ⟨ft16, rfl⟩, and_t ⟨ft16, rfl⟩, d2, w32_id (by omega) (by omega)]
      obtain ⟨Ia, eIa⟩ : ∃ Ia, Ia = up2 (up2 I [16] 3 (J1 20 a - 1 + 1)) [16] 4 0 := ⟨_, rfl⟩
      rw [← eIa]
      have ia : ∀ n x, (n ≠ [16] ∨ (x ≠ 3 ∧ x ≠ 4)) → Ia n x = I n x := fun n x u => by
        rw [eIa]
        by_cases y : n = [16]
        · have := u.elim (fun v => absurd y v) id
          rw [y, up2_self, upI_ne _ _ this.2, up2_self, upI_ne _ _ this.1]
        · rw [up2_ne y, up2_ne y]
      have ia3 : Ia [16] 3 = J1 20 a := by rw [eIa, up2_self, upI_ne _ _ (by decide), up2_self, upI_self]; omega
      by_cases c2 : J1 20 a = 40
      · rw [b_Draft_add_42, and_t ft16, ia3, if_neg (by omega), and_t (Or.inl rfl)]
        refine k0 (by rw [ch]; unfold ptJ; rw [if_neg c1, if_pos c2]; show (-1 : Int) < 0; decide) (by rw [ch]; unfold ptJ; rw [if_neg c1, if_pos c2]) Ia (FRM.of (fun n x hx => ia n x (Or.inl (fun y => by rw [y] at hx; simp [fxh, hd] at hx))) (fun _ _ _ _ => rfl)) ?_ ?_
        · exact hS.step hR0 ha l3 l4' l5' d7n (fun _ _ => ⟨rfl, rfl⟩) (fun n x _ _ u => ia n x (Or.inl (fun y => u (by rw [y]; rfl)))) (fun _ _ _ _ _ _ => rfl) m6
        · exact h7.fr (fun _ _ => ⟨rfl, rfl⟩) (fun _ => rfl) (ia _ _ (Or.inl (by simp))) (fun _ => rfl)
      · have oo := opJ_20 (J := J1) (a := a)
        have pco : pcJ (opJ J1 a) a = 60 * (40 * a + J1 20 a) := by unfold pcJ; rw [oo.1, oo.2]; omega
        have bp : ∀ e ∈ L0 ++ Nw, e.2.2.1 + e.2.2.2 ≤ 60 * (40 * a + J1 20 a) := fun e he => by
          have := hV.2.1 e he
          omega
        have o23 : ∀ e ∈ L0 ++ Nw, ∀ x, 0 ≤ x → x < e.2.2.2 → opJ J1 a 23 (e.2.2.1 + x) = J1 23 (e.2.2.1 + x) := fun e he x x0 x1 => by
          have := bp e he
          rw [opJ_23, if_neg (by omega)]
        refine go (opJ J1 a) Ia ⟨opJ_r hR1 c2, fun x => by rw [opJ_o (by decide), opJ_o (by decide)]; exact hP1 x, by rw [oo.2]; omega, by rw [oo.1]; omega⟩ (hQ.op hm30 (by omega)) (hV.up20 (fun k x hk => opJ_o (by omega)) (by rw [oo.1]; omega) o23) (fun k x hk => opJ_o (by omega)) o23 (by rw [oo.2]; omega) (by rw [oo.1]; omega) (fun e he => by rw [pco]; exact bp e he) (by rw [ia3, oo.1]; omega) (by rw [oo.2, eIa, up2_self, upI_self]) ia ?_
        rw [ch]; unfold ptJ; rw [if_neg c1, if_neg c2]
  · -- one that there is
    have he2 := (mt e he).mp hm
    have fn : fcJ J1 a sl (10 * a + t) fr z 6 = e.2.2.1 := by
      rcases fc with ⟨_, u⟩ | ⟨e', he', u, v⟩
      · exact absurd he2 (u e he)
      · rw [v, found_uq hV he he' he2 u]
    have r0 := (hV.2.1 e he)
    have ch : chJ J1 a sl (10 * a + t) fr = (e.2.2.1, J1) := by
      unfold chJ
      rw [← hz, fn, if_pos (by omega)]
    have nx : nxJ J1 a sl t (10 * a + t) fr (500 * sl + alJ J1 sl 10) = entJ J1 sl t e.2.2.1 z := by
      unfold nxJ entJ
      rw [ch, ← hz]
    have ce' := ec e he
    show Rn (d + 6) M_Draft_add K X 8 _ [vR (some e.1)] _
    rw [b_Draft_add_8, if_neg (by simp), b_Draft_add_95, and_t ft16, and_t ft16, fr160, ex_some, d1, and_t ⟨⟨by omega, by omega⟩, rfl, by omega, by omega, by show 100 ≤ ty e.1 ∧ avB (ty [16, 0]) (ty e.1 - 100) = true; rw [ce'.1, ft160]; exact ⟨by decide, avB6⟩⟩, and_t ft16, and_t ⟨ft16, rfl⟩, and_t (Or.inr rfl), w32_id (by omega) (by omega)]
    have k1' := k1 (by rw [ch]; show 0 ≤ e.2.2.1; omega)
    rw [nx] at k1'
    have eal : alJ (entJ J1 sl t e.2.2.1 z) sl 10 = alJ J1 sl 10 + 1 := by rw [entJ_al fI3, if_pos ht]
    have ia : ∀ n x, n ≠ [16] → up2 I [16] 2 (alJ J1 sl 10 + 1) n x = I n x := fun n x u => by rw [up2_ne u]
    have ra : ∀ n x, n ≠ [16, 0] → up2 R [16, 0] (alJ J1 sl 10) (some e.1) n x = R n x := fun n x u => by rw [up2_ne u]
    have hS' : MS J0 a L0 ty ln (up2 I [16] 2 (alJ J1 sl 10 + 1)) (up2 R [16, 0] (alJ J1 sl 10) (some e.1)) c := hS.step hR0 ha l3 l4' l5' d7n (fun _ _ => ⟨rfl, rfl⟩) (fun n x _ _ u => ia n x (fun y => u (by rw [y]; rfl))) (fun n x _ _ u _ => ra n x u) m6
    have h7' : HL7 (up2 I [16] 2 (alJ J1 sl 10 + 1)) ty ln (up2 R [16, 0] (alJ J1 sl 10) (some e.1)) a (L0 ++ Nw) := h7.fr (fun _ _ => ⟨rfl, rfl⟩) (fun k => ra _ _ (by simp)) (ia _ _ (by simp)) (fun j => ra _ _ n16.1)
    have la7 : la (up2 R [16, 0] (alJ J1 sl 10) (some e.1)) a 7 = la R a 7 := by unfold la; rw [ra _ _ (by simp)]
    have hV' : CVR (entJ J1 sl t e.2.2.1 z) a sl (L0 ++ Nw) := by
      rw [hks.1] at hV fI3 h49 ⊢
      exact CVR.ent (e := e) hks.2 ht fI3 h17 h49 hV.1 hV.2.1 hV.2.2.1 (fun f hf => Or.inr (hV.2.2.2 f hf)) he rfl hm.1
    refine k1' ty ln _ _ c w Nw (FRM.of (fun n x hx => ia n x (fun y => by rw [y] at hx; simp [fxh, hd] at hx)) (fun n x hx _ => ra n x (fun y => hx.q.2.1 (by rw [y]; rfl)))) ⟨hS', h7', fun f hf => ?_, hV', hQ.ent (by omega) ⟨al0, al9⟩, ⟨?_, ?_, ?_, fun i hi => ?_⟩⟩ ⟨by omega, by rw [la7]; omega⟩ (fun k u1 u2 u3 => by rw [up2_self, upI_ne _ _ u1]) (fun x => ia _ _ (by simp))
    · obtain ⟨⟨c1, c2, c3', c4, c5, c6, c7, c8, c9⟩, cu⟩ := hN f hf
      have k1'' : f.1 ≠ [16] ∧ f.1 ≠ [16, 0] := ⟨fun y => by have := n12_hd c1; rw [y] at this; simp [hd] at this, fun y => by have := n12_hd c1; rw [y] at this; simp [hd] at this⟩
      have k2'' : f.2.1 ≠ [16] := fun y => by have := n12_hd c2; rw [y] at this; simp [hd] at this
      exact ⟨⟨c1, c2, c3', by rw [ra _ _ k1''.2]; exact c4, c5, c6, by rw [ia _ _ k1''.1]; exact c7, by rw [ia _ _ k1''.1]; exact c8, fun x x0 x1 => by rw [ia _ _ k2'', entJ_o (by decide)]; exact c9 x x0 x1⟩, by rw [ia _ _ k1''.1]; exact cu⟩
    · rw [eal, up2_self, upI_self]
    · rw [up2_self, upI_ne _ _ (by decide), entJ_o (by decide)]; exact d2
    · rw [up2_self, upI_ne _ _ (by decide), entJ_o (by decide)]; exact d3
    · rw [eal] at hi
      by_cases y : (i : Int) = alJ J1 sl 10
      · exact ⟨e, he, by rw [y, up2_self, upI_self], by rw [entJ_18, if_pos (by rw [y])], by rw [entJ_19, if_pos (by rw [y])]; exact hm.1⟩
      · obtain ⟨f, hf, u1, u2, u3⟩ := d4 i (by omega)
        exact ⟨f, hf, by rw [up2_self, upI_ne _ _ y]; exact u1, by rw [entJ_18, if_neg (by omega)]; exact u2, by rw [entJ_19, if_neg (by omega)]; exact u3⟩
