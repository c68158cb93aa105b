/-! ===== House.dropSnapshot ===== -/
theorem fil_cons {J : Int → Int → Int} {b : Int} {e : Ck} {B : List Ck} : fil J b (e :: B) = if uA J b e.2.2.1 6 ≠ 0 then e :: fil J b B else fil J b B := by
  unfold fil
  rw [List.filter_cons]
  by_cases q : uA J b e.2.2.1 6 ≠ 0
  · rw [if_pos q, if_pos (decide_eq_true q)]
  · rw [if_neg q, if_neg (fun z => q (of_decide_eq_true z))]
theorem get_rm {A B : List Ck} {e : Ck} {i : Nat} : (A ++ B)[i]? = if i < A.length then (A ++ e :: B)[i]? else (A ++ e :: B)[i + 1]? := by
  by_cases q : i < A.length
  · rw [if_pos q, List.getElem?_append_left q, List.getElem?_append_left q]
  · rw [if_neg q, List.getElem?_append_right (by omega), List.getElem?_append_right (by omega), show i + 1 - A.length = (i - A.length) + 1 by omega, List.getElem?_cons_succ]
theorem n12_4 {a : Int} {l : List Int} {n : Nm} (h : n12 a n) : n ≠ 4 :: l := by
  obtain ⟨q, rfl⟩ := h
  simp
theorem n12_hd {a : Int} {n : Nm} (h : n12 a n) : hd n = 12 := by
  obtain ⟨q, rfl⟩ := h
  rfl
/-- cells that are neither the class's nor a house's -/
abbrev fxh (n : Nm) : Prop := hd n = 2 ∨ hd n = 3 ∨ hd n = -3 ∨ hd n = 18
abbrev fxS (a : Int) (n : Nm) : Prop := (fxh n ∨ hd n = -1) ∨ ∃ b l, b ≠ a ∧ n = 4 :: b :: l
abbrev fxR (a : Int) (n : Nm) : Prop := fxS a n ∨ n = [4, a, 8] ∨ n = [4, a, 9]
theorem fxR.q {a : Int} {n : Nm} (h : fxR a n) : n ≠ [4, a, 7] ∧ hd n ≠ 16 ∧ hd n ≠ 12 := by
  rcases h with (h | ⟨b, l, hb, rfl⟩) | rfl | rfl
  · exact ⟨fun z => by rw [z] at h; simp [fxh, hd] at h, by unfold fxh at h; omega, by unfold fxh at h; omega⟩
  · exact ⟨fun z => by simp at z; exact hb z.1, by simp [hd], by simp [hd]⟩
  · exact ⟨by simp, by simp [hd], by simp [hd]⟩
  · exact ⟨by simp, by simp [hd], by simp [hd]⟩
/-- what a call of house a's making leaves as it was -/
def FRM (a : Int) (ty : Nm → Nat) (ln : Nm → Int) (I : Nm → Int → Int) (R : Nm → Int → Option Nm) (ty' : Nm → Nat) (ln' : Nm → Int) (I' : Nm → Int → Int) (R' : Nm → Int → Option Nm) : Prop := (∀ n, ty n ≠ 0 → ty' n = ty n ∧ ln' n = ln n) ∧ (∀ n, ty n = 0 → ¬ n12 a n → ty' n = 0) ∧ (∀ n x, fxh n → I' n x = I n x) ∧ (∀ n x, fxR a n → ty n ≠ 0 → R' n x = R n x)
theorem FRM.refl {a : Int} {ty : Nm → Nat} {ln : Nm → Int} {I : Nm → Int → Int} {R : Nm → Int → Option Nm} : FRM a ty ln I R ty ln I R := ⟨fun _ _ => ⟨rfl, rfl⟩, fun _ h _ => h, fun _ _ _ => rfl, fun _ _ _ _ => rfl⟩
theorem FRM.trans {a : Int} {ty ty' ty2 : Nm → Nat} {ln ln' ln2 : Nm → Int} {I I' I2 : Nm → Int → Int} {R R' R2 : Nm → Int → Option Nm} (h : FRM a ty ln I R ty' ln' I' R') (g : FRM a ty' ln' I' R' ty2 ln2 I2 R2) : FRM a ty ln I R ty2 ln2 I2 R2 := by
  obtain ⟨h1, h2, h3, h4⟩ := h
  obtain ⟨g1, g2, g3, g4⟩ := g
  refine ⟨fun n hn => ?_, fun n hn h12 => g2 n (h2 n hn h12) h12, fun n x hx => (g3 n x hx).trans (h3 n x hx), fun n x hx hn => ?_⟩
  · have u := h1 n hn
    have v := g1 n (by rw [u.1]; exact hn)
    exact ⟨v.1.trans u.1, v.2.trans u.2⟩
  · rw [g4 n x hx (by rw [(h1 n hn).1]; exact hn)]; exact h4 n x hx hn
theorem FRM.of {a : Int} {ty : Nm → Nat} {ln : Nm → Int} {I I' : Nm → Int → Int} {R R' : Nm → Int → Option Nm} (i : ∀ n x, fxh n → I' n x = I n x) (r : ∀ n x, fxR a n → ty n ≠ 0 → R' n x = R n x) : FRM a ty ln I R ty ln I' R' := ⟨fun _ _ => ⟨rfl, rfl⟩, fun _ h _ => h, i, r⟩
theorem rw12_ty {a : Int} {E : Nm → Int → Int} {ty : Nm → Nat} {ln : Nm → Int} {R : Nm → Int → Option Nm} {t m : Nm} {n : Int} (h : LQ ty ln E R t m n) : ty m ≠ 0 := by
  rcases h.2.2.2.2.1 with y | y <;> omega
def RLs (J : Int → Int → Int) (E : Nm → Int → Int) (ty : Nm → Nat) (ln : Nm → Int) (R : Nm → Int → Option Nm) : Prop := ∀ b, hsJ J b → ∃ L, HLL J E ty ln R b L
/-- what changes is house a's own: its lists, chunks, snapshots -/
theorem RC.own {J : Int → Int → Int} {ty ty' : Nm → Nat} {ln ln' : Nm → Int} {I I' : Nm → Int → Int} {R R' : Nm → Int → Option Nm} {a : Int} (h : RC J I ty ln I R) (lt : ∀ b, hsJ J b → ty (la R b 8) ≠ 0 ∧ rw12 R b 8) (t : ∀ n, ty n ≠ 0 → ty' n = ty n ∧ ln' n = ln n) (i : ∀ n x, ¬ n12 a n → hd n ≠ 16 → ¬ ((∃ l, n = 4 :: a :: l) ∧ evC n x ∧ n ≠ [4, a, 8]) → I' n x = I n x) (r : ∀ n x, ty n ≠ 0 → ¬ n12 a n → n ≠ [4, a, 7] → n ≠ [4, a, 9] → n ≠ [16, 0] → R' n x = R n x) (r9 : ∀ s, sgJ J a s → R' (la R a 8) s = R (la R a 8) s) : RC J I' ty' ln' I' R' ∧ ∀ b, b ≠ a → FRB I I' ty ty' ln ln' R R' b := by
  constructor
  · refine h.new t (fun n x hx => i n x ?_ ?_ ?_) (fun n x hx hz => r n x hz ?_ ?_ ?_ ?_) (fun b hb => r _ _ ?_ ?_ ?_ ?_ ?_) (fun b s hs => ?_) (fun b hb => (lt b hb).1)
    · intro z
      have := n12_hd z
      rcases hx with g | g | g | ⟨b, g, _⟩
      · omega
      · omega
      · omega
      · rw [g] at this; simp [hd] at this
    · rcases hx with g | g | g | ⟨b, g, _⟩
      · omega
      · omega
      · omega
      · rw [g]; simp [hd]
    · rintro ⟨⟨l, z1⟩, z2, z3⟩
      rcases hx with g | g | g | ⟨b, g, _⟩
      · rw [z1] at g; simp [hd] at g
      · rw [z1] at g; simp [hd] at g
      · exact g.2 z2
      · rw [g] at z1; simp at z1; exact z3 (by rw [g, z1.1])
    · intro z
      have := n12_hd z
      rcases hx with g | g | g | g
      · omega
      · omega
      · rw [g] at this; simp [hd] at this
      · omega
    · rintro rfl
      rcases hx with g | g | g | g
      · simp [hd] at g
      · simp [hd] at g
      · simp at g
      · exact (g.2 a).1 rfl
    · rintro rfl
      rcases hx with g | g | g | g
      · simp [hd] at g
      · simp [hd] at g
      · simp at g
      · exact (g.2 a).2.2 rfl
    · rintro rfl
      rcases hx with g | g | g | g
      · simp [hd] at g
      · simp [hd] at g
      · simp at g
      · simp [hd] at g
    · have := (h.hs b hb).2.2.2.2.2.2.2.2.1.2
      rw [this]; decide
    · exact fun z => n12_4 z rfl
    · simp
    · simp
    · simp
    · by_cases z : b = a
      · subst z; exact r9 s hs
      · obtain ⟨l1, l2⟩ := lt b hs.1
        rcases l2 with u | ⟨q, u⟩
        · refine r _ _ l1 ?_ ?_ ?_ ?_ <;> rw [u] <;> simp [nE, n12]
        · refine r _ _ l1 ?_ ?_ ?_ ?_ <;> rw [u] <;> simp [n12, z]
  · intro b hb
    refine ⟨t, fun n x hn _ _ => i n x ?_ ?_ ?_, fun n x hn hz => r n x hz ?_ ?_ ?_ ?_⟩
    · rintro ⟨q, rfl⟩
      rcases hn with ⟨q', g⟩ | ⟨l, g⟩
      · simp at g; exact hb g.1.symm
      · simp at g
    · rcases hn with ⟨q', rfl⟩ | ⟨l, rfl⟩ <;> simp [hd]
    · rintro ⟨⟨l, z1⟩, z2, z3⟩
      rcases hn with ⟨q', g⟩ | ⟨l', g⟩
      · rw [g] at z1; simp at z1
      · rw [g] at z1; simp at z1; exact hb z1.1
    · rintro ⟨q, rfl⟩
      rcases hn with ⟨q', g⟩ | ⟨l, g⟩ | g
      · simp at g; exact hb g.1.symm
      · simp at g
      · simp [nE] at g
    · rintro rfl
      rcases hn with ⟨q', g⟩ | ⟨l, g⟩ | g
      · simp at g
      · simp at g; exact hb g.1.symm
      · simp [nE] at g
    · rintro rfl
      rcases hn with ⟨q', g⟩ | ⟨l, g⟩ | g
      · simp at g
      · simp at g; exact hb g.1.symm
      · simp [nE] at g
    · rintro rfl
      rcases hn with ⟨q', g⟩ | ⟨l, g⟩ | g
      · simp at g
      · simp at g
      · simp [nE] at g
theorem RLs.lt {J : Int → Int → Int} {ty : Nm → Nat} {ln : Nm → Int} {E : Nm → Int → Int} {R : Nm → Int → Option Nm} (hA : RLs J E ty ln R) : ∀ b, hsJ J b → ty (la R b 8) ≠ 0 ∧ rw12 R b 8 := fun b hb => by
  obtain ⟨L, h1, h2, h3, h4, h5, h6, h7, h8, h9, h10, h11, ⟨h12, h13, h14⟩, h15⟩ := hA b hb
  exact ⟨rw12_ty (a := b) h11, h13⟩
theorem RLs.own {J J' : Int → Int → Int} {ty ty' : Nm → Nat} {ln ln' : Nm → Int} {E I I' : Nm → Int → Int} {R R' : Nm → Int → Option Nm} {a : Int} {L : List Ck} (h : RC J E ty ln I R) (hA : RLs J I ty ln R) (hR : MR J) (f : ∀ b, b ≠ a → FRB I I' ty ty' ln ln' R R' b) (j : ∀ b, b ≠ a → hsJ J' b → hsJ J b ∧ JB J J' b) (hL : HLL J' I' ty' ln' R' a L) : RLs J' I' ty' ln' R' := by
  intro b hb
  by_cases z : b = a
  · subst z; exact ⟨L, hL⟩
  · obtain ⟨hb', jb⟩ := j b z hb
    obtain ⟨Lb, hLb⟩ := hA b hb'
    refine ⟨Lb, hLb.cg (f b z) jb hb'.1.1 (fun s s0 s1 => ?_) (by rw [(h.hs b hb').1]; decide) hR⟩
    have k20 := hR.k20 b
    rw [(h.sg b s ⟨hb', s0, by omega, s1⟩).1]; decide
set_option maxHeartbeats 4000000 in
theorem y_dropSnapshot {d : Nat} {K : Kt} {X : Xt} {J : Int → Int → Int} {ty : Nm → Nat} {ln : Nm → Int} {I : Nm → Int → Int} {R : Nm → Int → Option Nm} {c w : Nat} {a n : Int} {L : List Ck} {m : Nm} {k : Nat} (h : RC J I ty ln I R) (hG : GI J) (hA : RLs J I ty ln R) (hL : HLL J I ty ln R a L) (ha : hsJ J a) (hn : 0 ≤ n) (hm : R (la R a 9) n = some m) (hs : SNN J I ty ln R a L n m) (ek : slotJ J a n = 6 * a + (k : Int)) (hk : k < 6) (kk : ∀ I' R', RC (uJ J 16 (6 * a + (k : Int)) (-1)) I' ty ln I' R' → HLL (uJ J 16 (6 * a + (k : Int)) (-1)) I' ty ln R' a (fil (uJ J 16 (6 * a + (k : Int)) (-1)) a L) → RLs (uJ J 16 (6 * a + (k : Int)) (-1)) I' ty ln R' → FRM a ty ln I R ty ln I' R' → la R' a 7 = la R a 7 → K none (ty, ln, I', R', c, w)) :
    Mth (d + 4) M_House_dropSnapshot [vR (some [4, a]), vR (some m)] (ty, ln, I, R, c, w) K X := by
  obtain ⟨t0, ⟨r2, t2, ll2⟩, ⟨r3, t3, ll3⟩, ⟨r4, t4, ll4⟩, ⟨r5, t5, ll5⟩, rw5, ⟨r6, t6, ll6⟩, ⟨r7, t7⟩, ⟨r8, t8⟩, ⟨r9, t9⟩⟩ := h.hs a ha
  obtain ⟨h1, h2, h3, h4, h5, h6, h7, h8, h9, h10, h11, ⟨h12, h13, h14⟩, h15⟩ := id hL
  obtain ⟨s1, s2, s3, mc, st, hf, ⟨a1, a2, a3⟩, ⟨b1, b2, b3, b4⟩, ⟨d1, d2, d3, d4⟩, s4⟩ := id hs
  have a0 := ha.1.1
  have ss : 0 ≤ slotJ J a n := by omega
  obtain ⟨_, kx, hkx, ekx, e16⟩ := slot_k a0 ss
  obtain rfl : kx = k := by omega
  have l0 : 0 ≤ J 16 (6 * a + kx) := by omega
  obtain ⟨g1, g2, g3, g4⟩ := s4 ss
  rw [ek] at g1 g2 g3 g4
  have h17 : ∀ x, J 17 x ≤ 50 := fun x => (hG.1.k17 x).2
  have k20 := hG.1.k20 a
  have al0 := alJ_0 (J := J) (sl := 6 * a + kx) 10
  have al5 := alJ_50 (J := J) (sl := 6 * a + kx) h17 10
  have D := pw_or (fun _ _ => DCk.symm) h4.1
  have c1 : ∀ e ∈ L, n12 a e.1 := fun e he => (h3 e he).1.1
  have c3 : ∀ e ∈ L, ty e.1 = 101 := fun e he => (h3 e he).1.2.2.1
  have wr12 : ∀ x, n12 a x → wr x = true := fun x ⟨q, hq⟩ => by rw [hq]; rfl
  have ut : ∀ P, uA (uJ J 16 (6 * a + (kx : Int)) (-1)) a P 6 = uA J a P 6 - uI J (6 * a + kx) P (alJ J (6 * a + kx) 10).toNat := fun P => by rw [uA_rm l0 6, if_pos hk]
  have ne : ∀ q x, q ≠ 16 → (uJ J 16 (6 * a + (kx : Int)) (-1)) q x = J q x := fun q x hq => by rw [uJ_ne hq]
  have cn := cn3_b (J := J) (b := a) 6
  have nm4 : m ≠ [4, a] := fun z => n12_4 s1 z
  have mne : ∀ e ∈ L, m ≠ e.1 := fun e he z => by have := c3 e he; rw [← z, s2] at this; omega
  -- the end
  have fin : ∀ (I1 : Nm → Int → Int), (∀ x y, (y ≠ 3 ∨ ∀ e ∈ L, x ≠ e.1) → I1 x y = I x y) → (∀ e ∈ L, I1 e.1 3 = uA (uJ J 16 (6 * a + (kx : Int)) (-1)) a e.2.2.1 6) → ∀ (I2 : Nm → Int → Int) (R2 : Nm → Int → Option Nm), LQ ty ln I2 R2 [4, a, 7] (la R a 7) (fil (uJ J 16 (6 * a + (kx : Int)) (-1)) a L).length → (∀ (i : Nat) (e : Ck), (fil (uJ J 16 (6 * a + (kx : Int)) (-1)) a L)[i]? = some e → R2 (la R a 7) i = some e.1) → (∀ x y, (x ≠ [4, a, 7] ∨ (y ≠ 1 ∧ y ≠ 2)) → ((∀ s, x ≠ [4, a, 8, s]) ∨ y ≠ 5) → I2 x y = I1 x y) → (∀ x y, x ≠ la R a 7 ∨ la R a 7 = nE → R2 x y = R x y) → (∀ s, 0 ≤ s → s < J 20 a → I2 [4, a, 8, s] 5 = cS (40 * a + s) (fil (uJ J 16 (6 * a + (kx : Int)) (-1)) a L)) → K none (ty, ln, up2 (up2 I2 m 3 1) [4, a] 10 (w32 ((up2 I2 m 3 1) [4, a] 10 - 1)), R2, c, w) := by
    intro I1 p1 p2 I2 R2 q1 q2 q3 q4 q5
    have i10 : (up2 I2 m 3 1) [4, a] 10 = cn3 J a 6 := by
      rw [up2_ne (Ne.symm nm4), q3 _ _ (Or.inl (by simp)) (Or.inr (by decide)), p1 _ _ (Or.inl (by decide)), h8]
    rw [i10, w32_id (by omega) (by omega)]
    obtain ⟨I3, e3⟩ : ∃ I3, I3 = up2 (up2 I2 m 3 1) [4, a] 10 (cn3 J a 6 - 1) := ⟨_, rfl⟩
    rw [← e3]
    -- what I3 is
    have z1 : ∀ x y, (x ≠ m ∨ y ≠ 3) → (x ≠ [4, a] ∨ y ≠ 10) → I3 x y = I2 x y := fun x y u v => by
      rw [e3]
      by_cases z : x = [4, a]
      · rw [z, up2_self, upI_ne _ _ (v.elim (fun y => absurd z y) id), up2_ne (Ne.symm nm4)]
      · rw [up2_ne z]
        by_cases z2 : x = m
        · rw [z2, up2_self, upI_ne _ _ (u.elim (fun y => absurd z2 y) id)]
        · rw [up2_ne z2]
    have z2 : ∀ x y, (x ≠ m ∨ y ≠ 3) → (x ≠ [4, a] ∨ y ≠ 10) → (x ≠ [4, a, 7] ∨ (y ≠ 1 ∧ y ≠ 2)) → ((∀ s, x ≠ [4, a, 8, s]) ∨ y ≠ 5) → (y ≠ 3 ∨ ∀ e ∈ L, x ≠ e.1) → I3 x y = I x y := fun x y u v w1 w2 w3 => by rw [z1 x y u v, q3 x y w1 w2, p1 x y w3]
    have r4 : ∀ l y, R2 (4 :: l) y = R (4 :: l) y := fun l y => q4 _ _ (Or.inl (fun z => by
      rcases h12 with x | ⟨x, hx⟩
      · rw [x] at z; simp [nE] at z
      · rw [hx] at z; simp at z))
    have r7' : la R2 a 7 = la R a 7 := by unfold la; rw [r4]
    have r8' : la R2 a 8 = la R a 8 := by unfold la; rw [r4]
    have r9' : la R2 a 9 = la R a 9 := by unfold la; rw [r4]
    have r8r : ∀ y, R2 (la R a 8) y = R (la R a 8) y := fun y => q4 _ _ (by
      by_cases z : la R a 7 = nE
      · exact Or.inr z
      · exact Or.inl (fun e => z (h15.1 e.symm)))
    have r9r : ∀ y, R2 (la R a 9) y = R (la R a 9) y := fun y => q4 _ _ (by
      by_cases z : la R a 7 = nE
      · exact Or.inr z
      · exact Or.inl (fun e => z (h15.2.1 e.symm)))
    have rty : ∀ x y, ty x ≠ 8 → R2 x y = R x y := fun x y hx => q4 _ _ (by
      rcases h1.2.2.2.2.1 with z | z
      · exact Or.inr z.1
      · exact Or.inl (fun e => hx (by rw [e]; exact z.1)))
    obtain ⟨hRC, hFR⟩ := h.own (a := a) (ty' := ty) (ln' := ln) (I' := I3) (R' := R2) hA.lt (fun _ _ => ⟨rfl, rfl⟩) (fun x y n1 n2 n3 => by
      refine z2 x y (Or.inl (fun z => n1 (by rw [z]; exact s1))) ?_ ?_ ?_ (Or.inr (fun e he z => n1 (by rw [z]; exact c1 e he)))
      · by_cases u : x = [4, a]
        · right
          rintro rfl
          exact n3 ⟨⟨[], u⟩, Or.inr (Or.inr (Or.inr (Or.inl ⟨a, u, rfl⟩))), by rw [u]; simp⟩
        · exact Or.inl u
      · left
        rintro rfl
        exact n3 ⟨⟨[7], rfl⟩, Or.inr (Or.inl ⟨a, 7, [], rfl, Or.inl rfl⟩), by simp⟩
      · by_cases u : y = 5
        · left
          rintro s rfl
          exact n3 ⟨⟨[8, s], rfl⟩, Or.inr (Or.inr (Or.inr (Or.inr ⟨a, s, rfl, u⟩))), by simp⟩
        · exact Or.inr u) (fun x y t1 n1 n2 n3 n4 => q4 x y (by
      rcases h12 with u | u
      · exact Or.inr u
      · exact Or.inl (fun z => n1 (by rw [z]; exact u)))) (fun s _ => r8r s)
    have hRC' : RC (uJ J 16 (6 * a + (kx : Int)) (-1)) I3 ty ln I3 R2 := hRC.eqv (fun q x hq => ne q x (by omega)) (fun x _ _ => ne _ _ (by decide)) (fun x y q z hl => ne _ _ (by
      unfold LK at hl
      rcases hl with ⟨a, h1, rfl, h3, h4⟩ | ⟨a, b, h1, rfl, h3, h4, h5, h6⟩ | ⟨a, t, h1, rfl, h3, h4, h5, h6⟩ | ⟨a, s, h1, rfl, h3, h4⟩ | ⟨a, s, b, h1, rfl, h3, h4, h5, h6⟩ | ⟨a, s, j, h1, rfl, h3, h4⟩ | ⟨a, s, j, h1, rfl, h3, h4, h5⟩ | ⟨a, s, j, h1, rfl, h3, h4, h5⟩ <;> omega))
    -- chunks and snapshots
    have ck3 : ∀ e ∈ fil (uJ J 16 (6 * a + (kx : Int)) (-1)) a L, CKN (uJ J 16 (6 * a + (kx : Int)) (-1)) I3 ty ln R2 a e ∧ I3 e.1 3 = uA (uJ J 16 (6 * a + (kx : Int)) (-1)) a e.2.2.1 6 := fun e he => by
      obtain ⟨he1, he2⟩ := fil_mem.mp he
      obtain ⟨⟨k1, k2, k3, k4, k5, k6, k7, k8, k9⟩, ku⟩ := h3 e he1
      have e4 : ∀ l, e.1 ≠ 4 :: l := fun l => n12_4 k1
      have e4' : ∀ l, e.2.1 ≠ 4 :: l := fun l => n12_4 k2
      have b1 : e.2.1 ≠ m := fun z => by rw [z] at k5; omega
      have b2 : ∀ f ∈ L, e.2.1 ≠ f.1 := fun f hf z => by have := c3 f hf; rw [← z] at this; omega
      refine ⟨⟨k1, k2, k3, by rw [rty _ _ (by omega)]; exact k4, k5, k6, ?_, ?_, fun x x0 x1 => ?_⟩, ?_⟩
      · rw [z2 _ _ (Or.inr (by decide)) (Or.inl (e4 _)) (Or.inl (e4 _)) (Or.inl (fun s => e4 _)) (Or.inl (by decide))]; exact k7
      · rw [z2 _ _ (Or.inr (by decide)) (Or.inl (e4 _)) (Or.inl (e4 _)) (Or.inl (fun s => e4 _)) (Or.inl (by decide))]; exact k8
      · rw [z2 _ _ (Or.inl b1) (Or.inl (e4' _)) (Or.inl (e4' _)) (Or.inl (fun s => e4' _)) (Or.inr b2), ne 23 _ (by decide)]; exact k9 x x0 x1
      · rw [z1 _ _ (Or.inl (Ne.symm (mne e he1))) (Or.inl (e4 _)), q3 _ _ (Or.inl (e4 _)) (Or.inl (fun s => e4 _))]
        exact p2 e he1
    have i12 : ∀ x y, n12 a x → x ≠ m → (∀ e ∈ L, x ≠ e.1) → I3 x y = I x y := fun x y u v v2 => z2 x y (Or.inl v) (Or.inl (n12_4 u)) (Or.inl (n12_4 u)) (Or.inl (fun s => n12_4 u)) (Or.inr v2)
    have sn3 : ∀ n', 0 ≤ n' → n' < J 15 a → ∃ m', R2 (la R a 9) n' = some m' ∧ SNN (uJ J 16 (6 * a + (kx : Int)) (-1)) I3 ty ln R2 a (fil (uJ J 16 (6 * a + (kx : Int)) (-1)) a L) n' m' := fun n' x0 x1 => by
      obtain ⟨m', em, s1', s2', s3', mc', st', hf', ⟨a1', a2', a3'⟩, ⟨b1', b2', b3', b4'⟩, ⟨d1', d2', d3', d4'⟩, s4'⟩ := h6 n' x0 x1
      have sr := slot_rm (m := n') a0 h10 hk l0 x0
      rw [e16] at sr
      have ndc : ∀ x, ty x ≠ 101 → ∀ e ∈ L, x ≠ e.1 := fun x hx e he z => hx (by rw [z]; exact c3 e he)
      refine ⟨m', by rw [r9r]; exact em, s1', s2', ?_, mc', st', hf', ⟨by rw [rty _ _ (by omega)]; exact a1', a2', a3'⟩, ⟨by rw [rty _ _ (by omega)]; exact b1', b2', b3', b4'⟩, ⟨by rw [rty _ _ (by omega)]; exact d1', d2', d3', d4'⟩, ?_⟩
      · rw [sr]
        by_cases z : n' = n
        · rw [if_pos z, if_neg (by decide)]
          have : m' = m := by rw [z] at em; have := em.symm.trans hm; cases this; rfl
          rw [this, e3, up2_ne nm4, up2_self, upI_self]
        · rw [if_neg z]
          have mm : m' ≠ m := fun y => by
            rw [y] at em
            rcases Int.lt_or_gt_of_ne z with q | q
            · exact h7 n' n x0 q (by have := (h10.1 kx hk); omega) (em.trans hm.symm)
            · exact h7 n n' hn q x1 (hm.trans em.symm)
          rw [i12 m' 3 s1' mm (ndc m' (by omega))]; exact s3'
      · rw [sr]
        by_cases z : n' = n
        · rw [if_pos z]; intro y; omega
        · rw [if_neg z]
          intro y
          obtain ⟨g1', g2', g3', g4'⟩ := s4' y
          obtain ⟨_, k', hk', ek', e16'⟩ := slot_k a0 y
          have kk' : k' ≠ kx := fun u => z (by rw [← e16', u]; exact e16)
          have alc : ∀ t, alJ (uJ J 16 (6 * a + (kx : Int)) (-1)) (slotJ J a n') t = alJ J (slotJ J a n') t := fun t => alJ_c t (fun x _ => ne 17 _ (by decide))
          refine ⟨by rw [alc]; exact g1', fun t ht => ?_, fun t ht => ?_, fun i hi => ?_⟩
          · rw [alc, i12 st' t b4' (fun u => by rw [u] at b2'; omega) (ndc st' (by omega))]; exact g2' t ht
          · rw [ne 17 _ (by decide), i12 hf' t d4' (fun u => by rw [u] at d2'; omega) (ndc hf' (by omega))]; exact g3' t ht
          · rw [alc] at hi
            obtain ⟨e, he, u1, u2, u3⟩ := g4' i hi
            refine ⟨e, fil_mem.mpr ⟨he, ?_⟩, by rw [rty _ _ (by omega)]; exact u1, by rw [ne 18 _ (by decide)]; exact u2, by rw [ne 19 _ (by decide)]; exact u3⟩
            rw [ek'] at hi u2
            have : 0 < uA (uJ J 16 (6 * a + (kx : Int)) (-1)) a e.2.2.1 6 := (uA_p 6).2.mpr ⟨k', i, hk', by rw [u16, if_neg kk']; omega, by rw [alJ_c (J := J) 10 (fun x _ => ne 17 _ (by decide))]; exact hi, by rw [ne 18 _ (by decide)]; exact u2.symm⟩
            omega
    have lq : ∀ k' m' n', k' = 8 ∨ k' = 9 → LQ ty ln I R [4, a, k'] m' n' → (∀ j, R2 m' j = R m' j) → LQ ty ln I3 R2 [4, a, k'] m' n' := fun k' m' n' hk' x y => by
      obtain ⟨x1, x2, x3, x4, x5, x6⟩ := x
      refine ⟨x1, by rw [r4]; exact x2, ?_, x4, x5, fun j z hz => x6 j z (by rw [← y]; exact hz)⟩
      rw [z2 _ _ (Or.inr (by decide)) (Or.inl (by simp)) (Or.inl (by simp; omega)) (Or.inl (fun s => by simp)) (Or.inl (by decide))]; exact x3
    have hH : HLL (uJ J 16 (6 * a + (kx : Int)) (-1)) I3 ty ln R2 a (fil (uJ J 16 (6 * a + (kx : Int)) (-1)) a L) := by
      refine ⟨?_, by rw [r7']; exact q2, ck3, h4.rm a0, ?_, ?_, ?_, ?_, ?_, h10.rm, ?_, ?_, ?_⟩
      · rw [r7']
        obtain ⟨x1, x2, x3, x4, x5, x6⟩ := q1
        exact ⟨x1, x2, by rw [z1 _ _ (Or.inr (by decide)) (Or.inl (by simp))]; exact x3, x4, x5, x6⟩
      · rw [r9', ne 15 _ (by decide)]; exact lq 9 _ _ (Or.inr rfl) h5 r9r
      · rw [r9', ne 15 _ (by decide)]; exact sn3
      · rw [r9', ne 15 _ (by decide)]
        intro n1 n2 x0 x1 x2
        rw [r9r, r9r]; exact h7 n1 n2 x0 x1 x2
      · rw [e3, up2_self, upI_self, cn3_rm l0 6, if_pos hk]
      · rw [ne 20 _ (by decide)]
        intro s x0 x1
        rw [z1 _ _ (Or.inr (by decide)) (Or.inl (by simp))]; exact q5 s x0 x1
      · rw [r8', ne 20 _ (by decide)]; exact lq 8 _ _ (Or.inl rfl) h11 r8r
      · unfold rw12; rw [r7', r8', r9']; exact ⟨h12, h13, h14⟩
      · rw [r7', r8', r9']; exact h15
    have hFM : FRM a ty ln I R ty ln I3 R2 := FRM.of (fun n x hx => by
      have u : ∀ b : Nm, n12 a b → n ≠ b := fun b hb v => by rw [v] at hx; have := n12_hd hb; unfold fxh at hx; omega
      have v : ∀ l, n ≠ 4 :: l := fun l v => by rw [v] at hx; simp [fxh, hd] at hx
      exact z2 n x (Or.inl (u m s1)) (Or.inl (v _)) (Or.inl (v _)) (Or.inl (fun s => v _)) (Or.inr (fun e he => u _ (c1 e he)))) (fun n x hx hn => q4 n x (by
      rcases h12 with u | u
      · exact Or.inr u
      · refine Or.inl (fun v => ?_)
        have := n12_hd u
        rw [← v] at this
        exact hx.q.2.2 this))
    refine kk I3 R2 hRC' hH (RLs.own h hA hG.1 hFR (fun b hb hb' => ?_) hH) hFM r7'
    refine ⟨by unfold hsJ at hb' ⊢; rw [ne 5 _ (by decide)] at hb'; exact hb', ne _ _ (by decide), ne _ _ (by decide), fun x x0 x1 => ?_, fun _ _ _ _ _ => ne _ _ (by decide), fun _ _ _ _ _ _ => ⟨ne _ _ (by decide), ne _ _ (by decide)⟩, fun x _ _ => ne _ _ (by decide)⟩
    rw [uJ_self, upI_ne _ _ (by omega)]
  -- the chunks that go
  have k2 : ∀ (I1 : Nm → Int → Int), (∀ x y, (y ≠ 3 ∨ ∀ e ∈ L, x ≠ e.1) → I1 x y = I x y) → (∀ e ∈ L, I1 e.1 3 = uA (uJ J 16 (6 * a + (kx : Int)) (-1)) a e.2.2.1 6) → ∀ (q : Nat) (A B : List Ck), A.length = q → L = A ++ B → ∀ (I2 : Nm → Int → Int) (R2 : Nm → Int → Option Nm) (u3 : Vl), isLg u3 = false → LQ ty ln I2 R2 [4, a, 7] (la R a 7) (A ++ fil (uJ J 16 (6 * a + (kx : Int)) (-1)) a B).length → (∀ (i : Nat) (e : Ck), (A ++ fil (uJ J 16 (6 * a + (kx : Int)) (-1)) a B)[i]? = some e → R2 (la R a 7) i = some e.1) → (∀ x y, (x ≠ [4, a, 7] ∨ (y ≠ 1 ∧ y ≠ 2)) → ((∀ s, x ≠ [4, a, 8, s]) ∨ y ≠ 5) → I2 x y = I1 x y) → (∀ x y, x ≠ la R a 7 ∨ la R a 7 = nE → R2 x y = R x y) → (∀ s, 0 ≤ s → s < J 20 a → I2 [4, a, 8, s] 5 = cS (40 * a + s) (A ++ fil (uJ J 16 (6 * a + (kx : Int)) (-1)) a B)) → Rn (d + 3) M_House_dropSnapshot K X 42 [vR (some [4, a]), vR (some m), vI ((q : Int) - 1), u3] [] (ty, ln, I2, R2, c, w) := by
    intro I1 p1 p2 q
    induction q with
    | zero =>
      intro A B hA' hB I2 R2 u3 v3 q1 q2 q3 q4 q5
      obtain rfl : A = [] := List.eq_nil_of_length_eq_zero hA'
      rw [b_House_dropSnapshot_42 v3, if_pos (by omega), ex_some, and_t ⟨Or.inr rfl, s2, wr12 m s1⟩, and_t t0, and_t ⟨t0, rfl⟩]
      rw [List.nil_append] at hB q1 q2 q5
      subst hB
      exact fin I1 p1 p2 I2 R2 q1 q2 q3 q4 q5
    | succ q ih =>
      intro A B hA' hB I2 R2 u3 v3 q1 q2 q3 q4 q5
      rcases List.eq_nil_or_concat A with rfl | ⟨A', e, rfl⟩
      · exact absurd hA' (by simp)
      rw [List.concat_eq_append] at *
      have hl : A'.length = q := by rw [List.length_append] at hA'; simp at hA'; exact hA'
      have he : e ∈ L := by rw [hB]; simp
      have hB' : L = A' ++ (e :: B) := by rw [hB]; simp
      obtain ⟨⟨k1, k2, k3, k4, k5, k6, k7, k8, k9⟩, ku⟩ := h3 e he
      have rg := h4.2.1 e he
      have e4 : ∀ l, e.1 ≠ 4 :: l := fun l => n12_4 k1
      have i3 : I2 e.1 3 = uA (uJ J 16 (6 * a + (kx : Int)) (-1)) a e.2.2.1 6 := by rw [q3 _ _ (Or.inl (e4 _)) (Or.inl (fun s => e4 _))]; exact p2 e he
      have i1 : I2 e.1 1 = e.2.2.1 / 60 - 40 * a := by rw [q3 _ _ (Or.inl (e4 _)) (Or.inl (fun s => e4 _)), p1 _ _ (Or.inl (by decide))]; exact k7
      have gi : R2 (la R a 7) q = some e.1 := q2 q e (by rw [List.append_assoc, List.getElem?_append_right (by omega), hl, Nat.sub_self]; rfl)
      have r4 : ∀ l y, R2 (4 :: l) y = R (4 :: l) y := fun l y => q4 _ _ (Or.inl (fun z => by
        rcases h12 with x | ⟨x, hx⟩
        · rw [x] at z; simp [nE] at z
        · rw [hx] at z; simp at z))
      have ln1 : ((A' ++ [e] ++ fil (uJ J 16 (6 * a + (kx : Int)) (-1)) a B).length : Int) = q + 1 + (fil (uJ J 16 (6 * a + (kx : Int)) (-1)) a B).length := by simp [hl]; omega
      have lq9 := q1.2.2.2.1
      have r8r : ∀ y, R2 (la R a 8) y = R (la R a 8) y := fun y => q4 _ _ (by
        by_cases z : la R a 7 = nE
        · exact Or.inr z
        · exact Or.inl (fun e => z (h15.1 e.symm)))
      rw [b_House_dropSnapshot_42 v3, if_neg (by omega), and_t t0, r4, r7, ex_some, and_t t7, show ((q + 1 : Nat) : Int) - 1 = q by omega, s_AL_get2 q1 (by omega), gi]
      show Rn (d + 3) M_House_dropSnapshot K X 54 _ [vR (some e.1)] _
      rw [b_House_dropSnapshot_54 v3, ck k3, ex_some, and_t k3, i3]
      by_cases c9 : uA (uJ J 16 (6 * a + (kx : Int)) (-1)) a e.2.2.1 6 = 0
      · have fe : fil (uJ J 16 (6 * a + (kx : Int)) (-1)) a (e :: B) = fil (uJ J 16 (6 * a + (kx : Int)) (-1)) a B := by rw [fil_cons, if_neg (fun z => z c9)]
        have hs9 : sgJ J a (e.2.2.1 / 60 - 40 * a) := ⟨ha, by omega, by omega, by omega⟩
        have gs := (h.sg a _ hs9).1
        have gsr := h.sr a _ hs9
        have lq8 : LQ ty ln I2 R2 [4, a, 8] (la R a 8) (J 20 a) := by
          obtain ⟨x1, x2, x3, x4, x5, x6⟩ := h11
          exact ⟨x1, by rw [r4]; exact x2, by rw [q3 _ _ (Or.inl (by simp)) (Or.inl (by simp)), p1 _ _ (Or.inl (by decide))]; exact x3, x4, x5, fun j z hz => x6 j z (by rw [← r8r]; exact hz)⟩
        have cb := cS_p (S := e.2.2.1 / 60) (A' ++ [e] ++ fil (uJ J 16 (6 * a + (kx : Int)) (-1)) a B)
        have le24 : (A' ++ [e] ++ fil (uJ J 16 (6 * a + (kx : Int)) (-1)) a B).length ≤ 3620 := by have := q1.2.2.2.1; omega
        have cv := q5 (e.2.2.1 / 60 - 40 * a) (by omega) (by omega)
        rw [show 40 * a + (e.2.2.1 / 60 - 40 * a) = e.2.2.1 / 60 by omega] at cv
        rw [if_neg (fun z => z c9), and_t t0, ex_some, and_t k3, r4, r8, ex_some, and_t t8, i1, s_AL_get2 lq8 (by omega), r8r, gsr]
        show Rn (d + 3) M_House_dropSnapshot K X 76 _ [vR (some [4, a, 8, e.2.2.1 / 60 - 40 * a])] _
        rw [b_House_dropSnapshot_76, ck gs, ex_some, and_t gs, ex_some, and_t ⟨gs, rfl⟩, and_t t0, r4, r7, ex_some, and_t t7, cv, w32_id (by omega) (by omega)]
        have lq7 : LQ ty ln (up2 I2 [4, a, 8, e.2.2.1 / 60 - 40 * a] 5 (cS (e.2.2.1 / 60) (A' ++ [e] ++ fil (uJ J 16 (6 * a + (kx : Int)) (-1)) a B) - 1)) R2 [4, a, 7] (la R a 7) (A' ++ [e] ++ fil (uJ J 16 (6 * a + (kx : Int)) (-1)) a B).length := by
          obtain ⟨x1, x2, x3, x4, x5, x6⟩ := q1
          exact ⟨x1, x2, by rw [up2_ne (by simp)]; exact x3, x4, x5, x6⟩
        refine s_AL_remove lq7 (by omega) (fun I' R' z f1 f2 f3 f4 => ?_)
        show Rn (d + 3) M_House_dropSnapshot K X 96 _ [vR z] _
        rw [b_House_dropSnapshot_96, b_House_dropSnapshot_97, w32_id (by omega) (by omega)]
        have f7 : la R a 7 ≠ nE := fun u => by
          have := q1.2.2.2.1
          rcases q1.2.2.2.2.1 with y | y
          · omega
          · rw [u] at y; exact absurd y.2.2 (by decide)
        refine ih A' (e :: B) hl hB' I' R' _ rfl ?_ ?_ ?_ ?_ ?_
        · rw [fe]
          rw [show ((A' ++ [e] ++ fil (uJ J 16 (6 * a + (kx : Int)) (-1)) a B).length : Int) - 1 = ((A' ++ fil (uJ J 16 (6 * a + (kx : Int)) (-1)) a B).length : Int) by rw [ln1, List.length_append]; omega] at f1
          exact f1
        · intro i f hf
          rw [fe, get_rm (e := e), hl] at hf
          have hl2 : (i : Int) < ((A' ++ [e] ++ fil (uJ J 16 (6 * a + (kx : Int)) (-1)) a B).length : Int) - 1 := by
            by_cases y : i < q
            · omega
            · rw [if_neg y] at hf
              have := (List.getElem?_eq_some_iff.mp hf).1
              simp [hl] at this
              omega
          rw [f2 i (by omega) hl2]
          have ea : A' ++ [e] ++ fil (uJ J 16 (6 * a + (kx : Int)) (-1)) a B = A' ++ e :: fil (uJ J 16 (6 * a + (kx : Int)) (-1)) a B := by simp
          rw [ea] at q2
          by_cases y : i < q
          · rw [if_pos y] at hf
            rw [if_pos (by omega)]; exact q2 i f hf
          · rw [if_neg y] at hf
            rw [if_neg (by omega)]
            have := q2 (i + 1) f hf
            rw [show ((i + 1 : Nat) : Int) = (i : Int) + 1 by omega] at this
            exact this
        · intro x y hx hy
          rw [f3 x y hx]
          by_cases u : x = [4, a, 8, e.2.2.1 / 60 - 40 * a]
          · have y5 : y ≠ 5 := hy.elim (fun v => absurd u (v _)) id
            rw [u, up2_self, upI_ne _ _ y5, ← u]; exact q3 x y hx hy
          · rw [up2_ne u]; exact q3 x y hx hy
        · intro x y hx
          rw [f4 x y (hx.elim id (fun u => absurd u f7))]; exact q4 x y hx
        · intro s x0 x1
          rw [f3 _ _ (Or.inl (by simp)), fe]
          have ca : cS (40 * a + s) (A' ++ [e] ++ fil (uJ J 16 (6 * a + (kx : Int)) (-1)) a B) = cS (40 * a + s) (A' ++ fil (uJ J 16 (6 * a + (kx : Int)) (-1)) a B) + (if e.2.2.1 / 60 = 40 * a + s then 1 else 0) := by
            rw [cS_app, cS_app, cS_app]
            show _ + (0 + _) + _ = _
            omega
          by_cases y : s = e.2.2.1 / 60 - 40 * a
          · subst y
            rw [show 40 * a + (e.2.2.1 / 60 - 40 * a) = e.2.2.1 / 60 by omega] at ca ⊢
            rw [up2_self, upI_self, ca, if_pos rfl]; omega
          · rw [up2_ne (by simp; omega), q5 s x0 x1, ca, if_neg (by omega)]; omega
      · have fe : A' ++ fil (uJ J 16 (6 * a + (kx : Int)) (-1)) a (e :: B) = A' ++ [e] ++ fil (uJ J 16 (6 * a + (kx : Int)) (-1)) a B := by rw [fil_cons, if_pos c9]; simp
        rw [if_pos c9, b_House_dropSnapshot_97, w32_id (by omega) (by omega)]
        exact ih A' (e :: B) hl hB' I2 R2 _ rfl (by rw [fe]; exact q1) (by rw [fe]; exact q2) q3 q4 (by rw [fe]; exact q5)
  -- the uses
  have k1 : ∀ q i : Nat, i + q = (alJ J (6 * a + kx) 10).toNat → ∀ I1 : Nm → Int → Int, (∀ x y, (y ≠ 3 ∨ ∀ e ∈ L, x ≠ e.1) → I1 x y = I x y) → (∀ e ∈ L, I1 e.1 3 = uA J a e.2.2.1 6 - uI J (6 * a + kx) e.2.2.1 i) → Rn (d + 3) M_House_dropSnapshot K X 2 [vR (some [4, a]), vR (some m), vI (i : Int), vJ] [] (ty, ln, I1, R, c, w) := by
    intro q
    induction q with
    | zero =>
      intro i hi I1 p1 p2
      have i7 : LQ ty ln I1 R [4, a, 7] (la R a 7) L.length := by
        obtain ⟨x1, x2, x3, x4, x5, x6⟩ := h1
        exact ⟨x1, x2, by rw [p1 _ _ (Or.inl (by decide))]; exact x3, x4, x5, x6⟩
      have hll := CVR_len h4 k20.2
      rw [b_House_dropSnapshot_2, ex_some, and_t s2, a1, ex_some, and_t (Or.inl (by omega)), if_pos (by omega), and_t t0, r7, ex_some, and_t t7, s_AL_size2 i7]
      show Rn (d + 3) M_House_dropSnapshot K X 39 _ [vI _] _
      rw [b_House_dropSnapshot_39, w32_id (by omega) (by omega)]
      refine k2 I1 p1 (fun e he => ?_) L.length L [] rfl (by simp) I1 R vJ rfl ?_ ?_ (fun _ _ _ _ => rfl) (fun _ _ _ => rfl) (fun s x0 x1 => ?_)
      · rw [p2 e he, ut, show i = (alJ J (6 * a + kx) 10).toNat by omega]
      · show LQ _ _ _ _ _ _ ((L ++ fil (uJ J 16 (6 * a + (kx : Int)) (-1)) a []).length : Int)
        rw [show fil (uJ J 16 (6 * a + (kx : Int)) (-1)) a [] = [] from rfl, List.append_nil]; exact i7
      · rw [show fil (uJ J 16 (6 * a + (kx : Int)) (-1)) a [] = [] from rfl, List.append_nil]; exact h2
      · rw [show fil (uJ J 16 (6 * a + (kx : Int)) (-1)) a [] = [] from rfl, List.append_nil, p1 _ _ (Or.inl (by decide))]; exact h9 s x0 x1
    | succ q ih =>
      intro i hi I1 p1 p2
      obtain ⟨f, hf', r1, u1, u2⟩ := g4 i (by omega)
      have tf := c3 f hf'
      have ub := uA_le (J := J) (b := a) (P := f.2.2.1) h17 6
      have u0 := (uA_p (J := J) (a := a) (P := f.2.2.1) 6).1
      have ui := uI_le (J := J) (s := 6 * a + kx) (P := f.2.2.1) i
      have ui0 := (uI_p (J := J) (s := 6 * a + kx) (P := f.2.2.1) i).1
      rw [b_House_dropSnapshot_2, ex_some, and_t s2, a1, ex_some, and_t (Or.inl (by omega)), if_neg (by omega), ex_some, and_t s2, a1, ex_some, and_t ⟨⟨by omega, by omega⟩, by omega, by omega⟩, r1, ex_some, and_t tf, ex_some, and_t ⟨tf, wr12 _ (c1 f hf')⟩, p2 f hf', w32_id (x := (i : Int) + 1) (by omega) (by omega), w32_id (by omega) (by omega)]
      refine ih (i + 1) (by omega) _ (fun x y hx => ?_) (fun e he => ?_)
      · by_cases z : x = f.1
        · rw [z, up2_self, upI_ne _ _ (hx.elim id (fun v => absurd z (v f hf')))]
          exact p1 _ _ (hx.elim Or.inl (fun v => absurd z (v f hf')))
        · rw [up2_ne z]; exact p1 x y hx
      · show _ = _ - (uI J (6 * a + kx) e.2.2.1 i + _)
        rcases D e he f hf' with rfl | dd
        · rw [up2_self, upI_self, if_pos u1.symm]; omega
        · rw [up2_ne dd.1, p2 e he, if_neg (fun z => dd.2.1 (z.symm.trans u1.symm))]; omega
  rw [in_House_dropSnapshot, b_House_dropSnapshot_0]
  exact k1 (alJ J (6 * a + kx) 10).toNat 0 (Nat.zero_add _) I (fun _ _ _ => rfl) (fun e he => by rw [(h3 e he).2]; show _ = _ - (0 : Int); omega)
