/-! ===== a snapshot is being made: the class's side ===== -/
/-- house a's snapshots, segments' counts, numbers -/
abbrev HLY (J : Int → Int → Int) (E : Nm → Int → Int) (ty : Nm → Nat) (ln : Nm → Int) (R : Nm → Int → Option Nm) (a : Int) (L : List Ck) : Prop :=
  LQ ty ln E R [4, a, 9] (la R a 9) (J 15 a) ∧
  (∀ n, 0 ≤ n → n < J 15 a → ∃ m, R (la R a 9) n = some m ∧ SNN J E ty ln R a L n m) ∧
  (∀ n n', 0 ≤ n → n < n' → n' < J 15 a → R (la R a 9) n ≠ R (la R a 9) n') ∧
  E [4, a] 10 = cn3 J a 6 ∧
  (∀ s, 0 ≤ s → s < J 20 a → E [4, a, 8, s] 5 = cS (40 * a + s) L) ∧
  NUM J a ∧
  LQ ty ln E R [4, a, 8] (la R a 8) (J 20 a) ∧
  (rw12 R a 8 ∧ rw12 R a 9) ∧
  (la R a 8 = la R a 9 → la R a 8 = nE)
/-- its list of chunks -/
abbrev HL7 (E : Nm → Int → Int) (ty : Nm → Nat) (ln : Nm → Int) (R : Nm → Int → Option Nm) (a : Int) (L : List Ck) : Prop :=
  LQ ty ln E R [4, a, 7] (la R a 7) L.length ∧ (∀ (i : Nat) (e : Ck), L[i]? = some e → R (la R a 7) i = some e.1) ∧ rw12 R a 7 ∧ (la R a 7 = la R a 8 → la R a 7 = nE) ∧ (la R a 7 = la R a 9 → la R a 7 = nE)
/-- no name of these is taken below c -/
abbrev FR9 (ty : Nm → Nat) (c : Nat) : Prop := ∀ b q : Int, q ≤ c → ty [12, b, q] = 0
abbrev MS (J : Int → Int → Int) (a : Int) (L0 : List Ck) (ty : Nm → Nat) (ln : Nm → Int) (I : Nm → Int → Int) (R : Nm → Int → Option Nm) (c : Nat) : Prop :=
  RC J I ty ln I R ∧ (∀ b, b ≠ a → hsJ J b → ∃ L, HLL J I ty ln R b L) ∧ HLY J I ty ln R a L0 ∧ (∀ e ∈ L0, CKN J I ty ln R a e ∧ I e.1 3 = uA J a e.2.2.1 6) ∧ CVR J a (-1) L0 ∧ FR9 ty c
theorem HLL.y {J : Int → Int → Int} {E : Nm → Int → Int} {ty : Nm → Nat} {ln : Nm → Int} {R : Nm → Int → Option Nm} {a : Int} {L : List Ck} (h : HLL J E ty ln R a L) : HLY J E ty ln R a L ∧ HL7 E ty ln R a L := by
  obtain ⟨h1, h2, h3, h4, h5, h6, h7, h8, h9, h10, h11, ⟨h12, h13, h14⟩, h15, h16, h17⟩ := h
  exact ⟨⟨h5, h6, h7, h8, h9, h10, h11, ⟨h13, h14⟩, h17⟩, h1, h2, h12, h15, h16⟩
theorem HLL.of {J : Int → Int → Int} {E : Nm → Int → Int} {ty : Nm → Nat} {ln : Nm → Int} {R : Nm → Int → Option Nm} {a : Int} {L : List Ck} (h : HLY J E ty ln R a L) (g : HL7 E ty ln R a L) (hc : ∀ e ∈ L, CKN J E ty ln R a e ∧ E e.1 3 = uA J a e.2.2.1 6) (hv : CVR J a (-1) L) : HLL J E ty ln R a L := by
  obtain ⟨h5, h6, h7, h8, h9, h10, h11, ⟨h13, h14⟩, h17⟩ := h
  obtain ⟨h1, h2, h12, h15, h16⟩ := g
  exact ⟨h1, h2, hc, hv, h5, h6, h7, h8, h9, h10, h11, ⟨h12, h13, h14⟩, h15, h16, h17⟩
theorem LQ.fr {ty ty' : Nm → Nat} {ln ln' : Nm → Int} {I I' : Nm → Int → Int} {R R' : Nm → Int → Option Nm} {t m : Nm} {n : Int} (h : LQ ty ln I R t m n) (tt : ∀ n, ty n ≠ 0 → ty' n = ty n ∧ ln' n = ln n) (r : R' t 0 = R t 0) (i : I' t 1 = I t 1) (rm : ∀ j, R' m j = R m j) : LQ ty' ln' I' R' t m n := by
  obtain ⟨h1, h2, h3, h4, h5, h6⟩ := h
  have tm := tt m (by rcases h5 with z | z <;> omega)
  refine ⟨⟨(tt t (by omega)).1.trans h1.1, h1.2⟩, by rw [r]; exact h2, by rw [i]; exact h3, by rw [tm.2]; exact h4, by rw [tm.1, tm.2]; exact h5, fun j y hy => ?_⟩
  rw [rm] at hy
  have := h6 j y hy
  unfold oke
  rw [(tt y (by omega)).1]; exact this
theorem MS.step {J : Int → Int → Int} {ty ty' : Nm → Nat} {ln ln' : Nm → Int} {I I' : Nm → Int → Int} {R R' : Nm → Int → Option Nm} {a : Int} {L0 : List Ck} {c c' : Nat} (h : MS J a L0 ty ln I R c) (hR : MR J) (ha : hsJ J a) (h7 : rw12 R a 7) (h78 : la R a 7 = la R a 8 → la R a 7 = nE) (h79 : la R a 7 = la R a 9 → la R a 7 = nE) (h7n : la R a 7 ≠ nE → ty (la R a 7) = 8) (t : ∀ n, ty n ≠ 0 → ty' n = ty n ∧ ln' n = ln n) (i : ∀ n x, (ty n ≠ 0 ∨ ¬ n12 a n) → n ≠ [4, a, 7] → hd n ≠ 16 → I' n x = I n x) (r : ∀ n x, ty n ≠ 0 → n ≠ [4, a, 7] → n ≠ [16, 0] → (n ≠ la R a 7 ∨ la R a 7 = nE) → R' n x = R n x) (f : FR9 ty' c') : MS J a L0 ty' ln' I' R' c' := by
  obtain ⟨m1, m2, m3, m4, m5, m6⟩ := h
  obtain ⟨h5, h6, h7', h8, h9, h10, h11, ⟨h13, h14⟩, h17⟩ := m3
  have l8 : ty (la R a 8) ≠ 0 := rw12_ty (a := a) h11
  have l9 : ty (la R a 9) ≠ 0 := rw12_ty (a := a) h5
  have n7 : ∀ k, rw12 R a k → la R a k ≠ [4, a, 7] ∧ la R a k ≠ [16, 0] := fun k hk => by
    rcases hk with u | ⟨q, u⟩ <;> rw [u] <;> simp [nE]
  have r8 : ∀ y, R' (la R a 8) y = R (la R a 8) y := fun y => r _ _ l8 (n7 8 h13).1 (n7 8 h13).2 (by
    by_cases z : la R a 7 = nE
    · exact Or.inr z
    · exact Or.inl (fun e => z (h78 e.symm)))
  have r9 : ∀ y, R' (la R a 9) y = R (la R a 9) y := fun y => r _ _ l9 (n7 9 h14).1 (n7 9 h14).2 (by
    by_cases z : la R a 7 = nE
    · exact Or.inr z
    · exact Or.inl (fun e => z (h79 e.symm)))
  have rty : ∀ x y, ty x ≠ 0 → ty x ≠ 8 → x ≠ [4, a, 7] → x ≠ [16, 0] → R' x y = R x y := fun x y z1 z2 z3 z4 => r x y z1 z3 z4 (by
    by_cases z : la R a 7 = nE
    · exact Or.inr z
    · exact Or.inl (fun e => z2 (by rw [e]; exact h7n z)))
  have ht4 : ty [4, a] ≠ 0 := by rw [(m1.hs a ha).1]; decide
  have t8 : ty [4, a, 8] ≠ 0 := by rw [h11.1.1]; decide
  have t9 : ty [4, a, 9] ≠ 0 := by rw [h5.1.1]; decide
  have la8 : la R' a 8 = la R a 8 := by unfold la; rw [rty _ _ t8 (by rw [h11.1.1]; decide) (by simp) (by simp)]
  have la9 : la R' a 9 = la R a 9 := by unfold la; rw [rty _ _ t9 (by rw [h5.1.1]; decide) (by simp) (by simp)]
  have lt : ∀ b, hsJ J b → ty (la R b 8) ≠ 0 ∧ rw12 R b 8 := fun b hb => by
    by_cases z : b = a
    · subst z; exact ⟨l8, h13⟩
    · obtain ⟨L, g1, g2, g3, g4, g5, g6, g7, g8, g9, g10, g11, ⟨g12, g13, g14⟩, g15⟩ := m2 b z hb
      exact ⟨rw12_ty (a := b) g11, g13⟩
  obtain ⟨hRC, hFR⟩ := m1.own (a := a) (ty' := ty') (ln' := ln') (I' := I') (R' := R') lt t (fun n x n1 n2 n3 => i n x (Or.inr n1) (fun z => n3 ⟨⟨[7], z⟩, Or.inr (Or.inl ⟨a, 7, [], z, Or.inl rfl⟩), by rw [z]; simp⟩) n2) (fun n x t1 n1 n2 n3 n4 => r n x t1 n2 n4 (by
    rcases h7 with u | u
    · exact Or.inr u
    · exact Or.inl (fun z => n1 (by rw [z]; exact u)))) (fun s _ => r8 s)
  have f12 : FR12 I I' ty ty' ln ln' R R' a := ⟨t, fun n x hn hz _ => i n x (Or.inl hz) (fun z => n12_4 hn z) (by rw [n12_hd hn]; decide), fun n x hn hz h8' => rty n x hz h8' (fun z => n12_4 hn z) (fun z => by have := n12_hd hn; rw [z] at this; simp [hd] at this)⟩
  have h17x : ∀ x, J 17 x ≤ 50 := fun x => (hR.k17 x).2
  have jb : JSl J J a := JSl.same (fun _ _ _ => rfl)
  refine ⟨hRC, fun b hb hb' => ?_, ⟨?_, ?_, ?_, ?_, ?_, h10, ?_, ?_, ?_⟩, fun e he => ⟨(m4 e he).1.cg f12 (fun _ _ _ => rfl), ?_⟩, m5, f⟩
  · obtain ⟨Lb, hLb⟩ := m2 b hb hb'
    refine ⟨Lb, hLb.cg (hFR b hb) (JB.same (fun _ _ _ => rfl)) hb'.1.1 (fun s s0 s1 => ?_) (by rw [(m1.hs b hb').1]; decide) hR⟩
    have := hR.k20 b
    rw [(m1.sg b s ⟨hb', s0, by omega, s1⟩).1]; decide
  · rw [la9]
    exact h5.fr t (rty _ _ t9 (by rw [h5.1.1]; decide) (by simp) (by simp)) (i _ _ (Or.inl t9) (by simp) (by simp [hd])) r9
  · rw [la9]
    intro n n0 n1
    obtain ⟨m, e1, e2⟩ := h6 n n0 n1
    exact ⟨m, by rw [r9]; exact e1, e2.cg f12 jb ha.1.1 h17x⟩
  · rw [la9]
    intro n n' n0 n1 n2
    rw [r9, r9]; exact h7' n n' n0 n1 n2
  · rw [i _ _ (Or.inl ht4) (by simp) (by simp [hd])]; exact h8
  · intro s s0 s1
    rw [i _ _ (Or.inl (by have := hR.k20 a; rw [(m1.sg a s ⟨ha, s0, by omega, s1⟩).1]; decide)) (by simp) (by simp [hd])]; exact h9 s s0 s1
  · rw [la8]
    exact h11.fr t (rty _ _ t8 (by rw [h11.1.1]; decide) (by simp) (by simp)) (i _ _ (Or.inl t8) (by simp) (by simp [hd])) r8
  · unfold rw12; rw [la8, la9]; exact ⟨h13, h14⟩
  · rw [la8, la9]; exact h17
  · have c1 := (m4 e he).1.1
    rw [i _ _ (Or.inl (by rw [(m4 e he).1.2.2.1]; decide)) (fun z => n12_4 c1 z) (by rw [n12_hd c1]; decide)]
    exact (m4 e he).2
/-- the draft -/
def DRF (J1 : Int → Int → Int) (a sl : Int) (L : List Ck) (I : Nm → Int → Int) (R : Nm → Int → Option Nm) : Prop := I [16] 2 = alJ J1 sl 10 ∧ I [16] 3 = J1 20 a - 1 ∧ I [16] 4 = J1 (-1) 30 ∧ ∀ i : Nat, (i : Int) < alJ J1 sl 10 → ∃ e ∈ L, R [16, 0] i = some e.1 ∧ e.2.2.1 = J1 18 (500 * sl + i) ∧ e.2.2.2 = J1 19 (500 * sl + i)
abbrev MID (J0 J1 : Int → Int → Int) (a sl : Int) (L0 Nw : List Ck) (ty : Nm → Nat) (ln : Nm → Int) (I : Nm → Int → Int) (R : Nm → Int → Option Nm) (c : Nat) : Prop :=
  MS J0 a L0 ty ln I R c ∧ HL7 I ty ln R a (L0 ++ Nw) ∧ (∀ e ∈ Nw, CKN J1 I ty ln R a e ∧ I e.1 3 = 0) ∧ CVR J1 a sl (L0 ++ Nw) ∧ QRs J0 J1 a sl Nw ∧ DRF J1 a sl (L0 ++ Nw) I R
