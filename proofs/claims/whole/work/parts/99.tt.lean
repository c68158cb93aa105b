/-! ===== House.fillSegments ===== -/
set_option maxHeartbeats 4000000 in
theorem s_Segment_add {d : Nat} {K : Kt} {X : Xt} {ty : Nm → Nat} {ln : Nm → Int} {I : Nm → Int → Int} {R : Nm → Int → Option Nm} {c w : Nat} {S s0 s1 ch nb : Nm} {off z : Int} (tS : ty S = 107) (wS : wr S = true) (r0 : R S 0 = some s0) (t0 : ty s0 = 1) (l0 : ln s0 = 60) (w0 : wr s0 = true) (r1 : R S 1 = some s1) (t1 : ty s1 = 1) (l1 : ln s1 = 60) (w1 : wr s1 = true) (n01 : s0 ≠ s1) (tc : ty ch = 101) (rc : R ch 0 = some nb) (tb : ty nb = 1) (lb : ln nb = z) (n0 : nb ≠ s0) (n1 : nb ≠ s1) (ho : I ch 2 = off) (hz : 0 ≤ off ∧ 0 ≤ z ∧ off + z ≤ 60) (h5 : -100000 ≤ I S 5 ∧ I S 5 ≤ 100000)
    (k : ∀ I' : Nm → Int → Int, (∀ x, I' s0 x = if off ≤ x ∧ x < off + z then I nb (x - off) else I s0 x) → (∀ x, I' s1 x = if off ≤ x ∧ x < off + z then I nb (x - off) else I s1 x) → I' S 5 = I S 5 + 1 → (∀ n x, n ≠ s0 → n ≠ s1 → (n ≠ S ∨ x ≠ 5) → I' n x = I n x) → K none (ty, ln, I', R, c, w)) :
    Mth (d + 1) M_Segment_add [vR (some S), vR (some ch)] (ty, ln, I, R, c, w) K X := by
  have c0 : ch ≠ s0 := fun e => by rw [e] at tc; omega
  have S0 : S ≠ s0 := fun e => by rw [e] at tS; omega
  have S1 : S ≠ s1 := fun e => by rw [e] at tS; omega
  rw [in_Segment_add, b_Segment_add_0, ex_some, and_t tc, and_t tS, ex_some, and_t tc, ex_some, and_t tc, rc, ex_some, and_t (Or.inl (by omega)), r0, ex_some, ex_some, ho, lb, and_t ⟨by omega, w0, by omega, by omega, by omega, by omega, by omega⟩, if_pos t0, ex_some, and_t tc, and_t tS, ex_some, and_t tc, ex_some, and_t tc, rc, ex_some, and_t (Or.inl (by omega)), r1, ex_some, ex_some, upN_ne _ _ c0, ho, lb, and_t ⟨by omega, w1, by omega, by omega, by omega, by omega, by omega⟩, if_pos t1, and_t tS, and_t ⟨tS, wS⟩]
  have e5 : (upN (upN I s0 (cpyI (I nb) (I s0) 0 off z)) s1 (cpyI ((upN I s0 (cpyI (I nb) (I s0) 0 off z)) nb) ((upN I s0 (cpyI (I nb) (I s0) 0 off z)) s1) 0 off z)) S 5 = I S 5 := by rw [upN_ne _ _ S1, upN_ne _ _ S0]
  rw [e5, w32_id (by omega) (by omega)]
  refine k _ (fun x => ?_) (fun x => ?_) ?_ (fun n x m0 m1 mS => ?_)
  · rw [up2_ne (Ne.symm S0), upN_ne _ _ n01, upN_self]
    unfold cpyI
    by_cases q : off ≤ x ∧ x < off + z
    · rw [if_pos q, if_pos q, show 0 + (x - off) = x - off by omega]
    · rw [if_neg q, if_neg q]
  · rw [up2_ne (Ne.symm S1), upN_self]
    unfold cpyI
    by_cases q : off ≤ x ∧ x < off + z
    · rw [if_pos q, if_pos q, upN_ne _ _ n0, show 0 + (x - off) = x - off by omega]
    · rw [if_neg q, if_neg q, upN_ne _ _ (Ne.symm n01)]
  · rw [up2_self, upI_self]
  · by_cases e : n = S
    · rw [e, up2_self, upI_ne _ _ (mS.elim (fun y => absurd e y) id), upN_ne _ _ S1, upN_ne _ _ S0]
    · rw [up2_ne e, upN_ne _ _ m1, upN_ne _ _ m0]
abbrev MT (J : Int → Int → Int) (a : Int) (L0 LY : List Ck) (ty : Nm → Nat) (ln : Nm → Int) (I : Nm → Int → Int) (R : Nm → Int → Option Nm) (c : Nat) : Prop :=
  RC J I ty ln I R ∧ (∀ b, b ≠ a → hsJ J b → ∃ L, HLL J I ty ln R b L) ∧ HLY J I ty ln R a LY ∧ (∀ e ∈ L0, CKN J I ty ln R a e ∧ I e.1 3 = uA J a e.2.2.1 6) ∧ CVR J a (-1) L0 ∧ FR9 ty c
/-- bytes g written into truth and into what is held -/
def flS (J : Int → Int → Int) (g : Int → Int) (P z : Int) : Int → Int → Int := wJ (wJ J 23 P (P + z) g) 24 P (P + z) g
theorem flS_o {J : Int → Int → Int} {g : Int → Int} {P z k x : Int} (h : k ≠ 23 ∧ k ≠ 24) : flS J g P z k x = J k x := by
  unfold flS
  rw [wJ_ne h.2, wJ_ne h.1]
theorem flS_23 {J : Int → Int → Int} {g : Int → Int} {P z x : Int} : flS J g P z 23 x = if P ≤ x ∧ x < P + z then g x else J 23 x := by
  unfold flS
  rw [wJ_ne (by decide)]
  by_cases q : P ≤ x ∧ x < P + z
  · rw [if_pos q, wJ_in q]
  · rw [if_neg q, wJ_out (by omega)]
theorem flS_24 {J : Int → Int → Int} {g : Int → Int} {P z x : Int} : flS J g P z 24 x = if P ≤ x ∧ x < P + z then g x else J 24 x := by
  unfold flS
  by_cases q : P ≤ x ∧ x < P + z
  · rw [if_pos q, wJ_in q]
  · rw [if_neg q, wJ_out (by omega), wJ_ne (by decide)]
theorem SNN.mono {J : Int → Int → Int} {E : Nm → Int → Int} {ty : Nm → Nat} {ln : Nm → Int} {R : Nm → Int → Option Nm} {a n : Int} {L L' : List Ck} {m : Nm} (h : SNN J E ty ln R a L n m) (s : ∀ e ∈ L, e ∈ L') : SNN J E ty ln R a L' n m := by
  obtain ⟨s1, s2, s3, mc, st, hf, a1, b1, d1, s4⟩ := h
  refine ⟨s1, s2, s3, mc, st, hf, a1, b1, d1, fun hs => ?_⟩
  obtain ⟨g1, g2, g3, g4⟩ := s4 hs
  exact ⟨g1, g2, g3, fun i hi => by obtain ⟨e, he, u⟩ := g4 i hi; exact ⟨e, s e he, u⟩⟩
theorem LK.kr {J : Int → Int → Int} {n : Nm} {x k y : Int} (h : LK J n x k y) : k ≠ -1 ∧ k ≠ 12 ∧ k ≠ 13 ∧ k ≠ 20 ∧ k ≠ 15 ∧ k ≠ 16 ∧ k ≠ 17 ∧ k ≠ 18 ∧ k ≠ 19 ∧ k ≠ 30 ∧ k ≠ 36 := by
  unfold LK at h
  rcases h with ⟨a, h1, rfl, h3, h4⟩ | ⟨a, b, h1, rfl, h3, h4, h5, h6⟩ | ⟨a, t, h1, rfl, h3, h4, h5, h6⟩ | ⟨a, s, h1, rfl, h3, h4⟩ | ⟨a, s, b, h1, rfl, h3, h4, h5, h6⟩ | ⟨a, s, j, h1, rfl, h3, h4⟩ | ⟨a, s, j, h1, rfl, h3, h4, h5⟩ | ⟨a, s, j, h1, rfl, h3, h4, h5⟩ <;> omega
set_option maxHeartbeats 4000000 in
theorem MT.fill {J : Int → Int → Int} {ty : Nm → Nat} {ln : Nm → Int} {I I' : Nm → Int → Int} {R : Nm → Int → Option Nm} {a s : Int} {L0 LY : List Ck} {c : Nat} {e : Ck} {g : Int → Int} (h : MT J a L0 LY ty ln I R c) (hR : MR J) (ha : hsJ J a) (hs : sgJ J a s) (he : 60 * (40 * a + s) ≤ e.2.2.1 ∧ e.2.2.1 + e.2.2.2 ≤ 60 * (40 * a + s) + 60 ∧ 1 ≤ e.2.2.2) (hh : ∀ f ∈ L0, f.2.2.1 + f.2.2.2 ≤ e.2.2.1)
    (i0 : ∀ x, I' [4, a, 8, s, 0] x = if e.2.2.1 ≤ 60 * (40 * a + s) + x ∧ 60 * (40 * a + s) + x < e.2.2.1 + e.2.2.2 then g (60 * (40 * a + s) + x) else I [4, a, 8, s, 0] x) (i1 : ∀ x, I' [4, a, 8, s, 1] x = if e.2.2.1 ≤ 60 * (40 * a + s) + x ∧ 60 * (40 * a + s) + x < e.2.2.1 + e.2.2.2 then g (60 * (40 * a + s) + x) else I [4, a, 8, s, 1] x) (i5 : I' [4, a, 8, s] 5 = I [4, a, 8, s] 5 + 1) (io : ∀ n x, n ≠ [4, a, 8, s, 0] → n ≠ [4, a, 8, s, 1] → (n ≠ [4, a, 8, s] ∨ x ≠ 5) → I' n x = I n x) : MT (flS J g e.2.2.1 e.2.2.2) a L0 (LY ++ [e]) ty ln I' R c := by
  obtain ⟨m1, m2, m3, m4, m5, m6⟩ := h
  obtain ⟨h5, h6, h7', h8, h9, h10, h11, ⟨h13, h14⟩, h17⟩ := m3
  have a0 := ha.1
  have b20 := hR.k20 a
  have j5 : ∀ k x, k ≠ 23 → k ≠ 24 → flS J g e.2.2.1 e.2.2.2 k x = J k x := fun k x h1 h2 => flS_o ⟨h1, h2⟩
  have jo : ∀ k x, k = 15 ∨ k = 16 ∨ k = 17 ∨ k = 18 ∨ k = 19 ∨ k = 20 → flS J g e.2.2.1 e.2.2.2 k x = J k x := fun k x hk => j5 k x (by omega) (by omega)
  have js : JSl J (flS J g e.2.2.1 e.2.2.2) a := JSl.same (fun k x hk => jo k x (by omega))
  have h17x : ∀ x, J 17 x ≤ 50 := fun x => (hR.k17 x).2
  have i12 : ∀ b n x, n12 b n → I' n x = I n x := fun b n x hn => io n x (n12_4 hn) (n12_4 hn) (Or.inl (n12_4 hn))
  have f12 : FR12 I I' ty ty ln ln R R a := ⟨fun _ _ => ⟨rfl, rfl⟩, fun n x hn _ _ => i12 a n x hn, fun _ _ _ _ _ => rfl⟩
  have lt : ∀ b, hsJ J b → ty (la R b 8) ≠ 0 := fun b hb => by
    by_cases z : b = a
    · subst z; exact rw12_ty (a := b) h11
    · obtain ⟨L, g1, g2, g3, g4, g5, g6, g7, g8, g9, g10, g11, ⟨g12, g13, g14⟩, g15⟩ := m2 b z hb
      exact rw12_ty (a := b) g11
  -- the words and the cells
  have hRC : RC (flS J g e.2.2.1 e.2.2.2) I' ty ln I' R := by
    have x0 := m1.st (n := [4, a, 8, s, 0]) (lo := 0) (hi := 60) (k := 23) (B := 60 * (40 * a + s)) (f := fun x => flS J g e.2.2.1 e.2.2.2 23 x) (fun x x0 x1 => l23 ⟨hs, x0, x1⟩) (by decide)
    have hs1 : sgJ (wJ J 23 (60 * (40 * a + s) + 0) (60 * (40 * a + s) + 60) (fun x => flS J g e.2.2.1 e.2.2.2 23 x)) a s := sgJ_c hs (by rw [wJ_ne (by decide)]) (by rw [wJ_ne (by decide)])
    have x1 := x0.st (n := [4, a, 8, s, 1]) (lo := 0) (hi := 60) (k := 24) (B := 60 * (40 * a + s)) (f := fun x => flS J g e.2.2.1 e.2.2.2 24 x) (fun x x0 x1 => l24 ⟨hs1, x0, x1⟩) (by decide)
    have ej : wJ (wJ J 23 (60 * (40 * a + s) + 0) (60 * (40 * a + s) + 60) (fun x => flS J g e.2.2.1 e.2.2.2 23 x)) 24 (60 * (40 * a + s) + 0) (60 * (40 * a + s) + 60) (fun x => flS J g e.2.2.1 e.2.2.2 24 x) = flS J g e.2.2.1 e.2.2.2 := by
      funext k x
      by_cases y : k = 24
      · subst y
        by_cases u : 60 * (40 * a + s) + 0 ≤ x ∧ x < 60 * (40 * a + s) + 60
        · rw [wJ_in u]
        · rw [wJ_out (by omega), wJ_ne (by decide), flS_24, if_neg (by omega)]
      · rw [wJ_ne y]
        by_cases y2 : k = 23
        · subst y2
          by_cases u : 60 * (40 * a + s) + 0 ≤ x ∧ x < 60 * (40 * a + s) + 60
          · rw [wJ_in u]
          · rw [wJ_out (by omega), flS_23, if_neg (by omega)]
        · rw [wJ_ne y2, flS_o ⟨y2, y⟩]
    rw [ej] at x1
    refine x1.new (fun _ _ => ⟨rfl, rfl⟩) (fun n x hx => ?_) (fun _ _ _ _ => rfl) (fun _ _ => rfl) (fun _ _ _ => rfl) (fun b hb => lt b (by unfold hsJ at hb ⊢; rw [j5 5 _ (by decide) (by decide)] at hb; exact hb))
    by_cases y1 : n = [4, a, 8, s, 1]
    · subst y1
      by_cases u : 0 ≤ x ∧ x < 60
      · rw [wI_in u, i1 x, flS_24]
        by_cases v : e.2.2.1 ≤ 60 * (40 * a + s) + x ∧ 60 * (40 * a + s) + x < e.2.2.1 + e.2.2.2
        · rw [if_pos v, if_pos v]
        · rw [if_neg v, if_neg v]; exact m1.ri _ _ _ _ (l24 ⟨hs, u.1, u.2⟩)
      · rw [wI_out (by omega), wI_ne (by simp), i1 x, if_neg (by omega)]
    · rw [wI_ne y1]
      by_cases y0 : n = [4, a, 8, s, 0]
      · subst y0
        by_cases u : 0 ≤ x ∧ x < 60
        · rw [wI_in u, i0 x, flS_23]
          by_cases v : e.2.2.1 ≤ 60 * (40 * a + s) + x ∧ 60 * (40 * a + s) + x < e.2.2.1 + e.2.2.2
          · rw [if_pos v, if_pos v]
          · rw [if_neg v, if_neg v]; exact m1.ri _ _ _ _ (l23 ⟨hs, u.1, u.2⟩)
        · rw [wI_out (by omega), i0 x, if_neg (by omega)]
      · rw [wI_ne y0, io n x y0 y1 ?_]
        by_cases u : n = [4, a, 8, s]
        · right
          rintro rfl
          rw [u] at hx
          rcases hx with v | v | v | ⟨b, v, _⟩
          · simp [hd] at v
          · simp [hd] at v
          · exact v.2 (Or.inr (Or.inr (Or.inr (Or.inr ⟨a, s, rfl, rfl⟩))))
          · simp at v
        · exact Or.inl u
  have lq : ∀ k n, k = 8 ∨ k = 9 → LQ ty ln I R [4, a, k] (la R a k) n → LQ ty ln I' R [4, a, k] (la R a k) n := fun k n hk x => x.fr (fun _ _ => ⟨rfl, rfl⟩) rfl (io _ _ (by simp) (by simp) (Or.inl (by simp))) (fun _ => rfl)
  have o23 : ∀ f ∈ L0, ∀ x, 0 ≤ x → x < f.2.2.2 → flS J g e.2.2.1 e.2.2.2 23 (f.2.2.1 + x) = J 23 (f.2.2.1 + x) := fun f hf x x0 x1 => by
    have := hh f hf
    rw [flS_23, if_neg (by omega)]
  refine ⟨hRC, fun b hb hb' => ?_, ⟨?_, ?_, ?_, ?_, ?_, h10.cg (jo 15 _ (by decide)) js h17x, ?_, ⟨h13, h14⟩, h17⟩, fun f hf => ⟨(m4 f hf).1.cg f12 (o23 f hf), ?_⟩, m5.up20 (fun k x hk => jo k x (by omega)) (by rw [jo 20 _ (by decide)]; exact Int.le_refl _) o23, m6⟩
  · have hb1 : hsJ J b := by unfold hsJ at hb' ⊢; rw [j5 5 _ (by decide) (by decide)] at hb'; exact hb'
    obtain ⟨Lb, hLb⟩ := m2 b hb hb1
    refine ⟨Lb, hLb.cg ⟨fun _ _ => ⟨rfl, rfl⟩, fun n x hn _ _ => ?_, fun _ _ _ _ => rfl⟩ ⟨jo 15 _ (by decide), jo 20 _ (by decide), fun x _ _ => jo 16 _ (by decide), fun _ _ _ _ _ => jo 17 _ (by decide), fun _ _ _ _ _ _ => ⟨jo 18 _ (by decide), jo 19 _ (by decide)⟩, fun x x0 x1 => ?_⟩ hb1.1.1 (fun s s0 s1 => ?_) (by rw [(m1.hs b hb1).1]; decide) hR⟩
    · rcases hn with u | ⟨l, u⟩
      · exact i12 b n x u
      · exact io n x (by rw [u]; simp [hb]) (by rw [u]; simp [hb]) (Or.inl (by rw [u]; simp [hb]))
    · have := hR.k20 b
      have := hb1.1
      have := hs.2
      rw [flS_23, if_neg (by omega)]
    · have := hR.k20 b
      rw [(m1.sg b s ⟨hb1, s0, by omega, s1⟩).1]; decide
  · rw [jo 15 _ (by decide)]; exact lq 9 _ (Or.inr rfl) h5
  · rw [jo 15 _ (by decide)]
    intro n n0 n1
    obtain ⟨m, e1, e2⟩ := h6 n n0 n1
    exact ⟨m, e1, (e2.cg f12 js a0.1 h17x).mono (fun f hf => List.mem_append.mpr (Or.inl hf))⟩
  · rw [jo 15 _ (by decide)]; exact h7'
  · rw [io _ _ (by simp) (by simp) (Or.inl (by simp)), cn3_c 6 (fun k hk => jo 16 _ (by decide))]; exact h8
  · rw [jo 20 _ (by decide)]
    intro s' s0 s1
    rw [cS_app]
    show _ = cS (40 * a + s') LY + (0 + _)
    by_cases y : s' = s
    · subst y
      rw [i5, h9 s' s0 s1, if_pos (by omega)]; omega
    · rw [io _ _ (by simp) (by simp) (Or.inl (by simp [y])), h9 s' s0 s1, if_neg (by omega)]; omega
  · rw [jo 20 _ (by decide)]; exact lq 8 _ (Or.inl rfl) h11
  · have c1 := (m4 f hf).1.1
    rw [i12 a _ _ c1, uA_c js h17x 6 (Nat.le_refl _)]
    exact (m4 f hf).2
/-- the new chunks written, in their order -/
def flL (g : Int → Int) (J : Int → Int → Int) (A : List Ck) : Int → Int → Int := A.foldl (fun J e => flS J g e.2.2.1 e.2.2.2) J
theorem flL_snoc {g : Int → Int} {J : Int → Int → Int} {A : List Ck} {e : Ck} : flL g J (A ++ [e]) = flS (flL g J A) g e.2.2.1 e.2.2.2 := by
  unfold flL
  rw [List.foldl_append]; rfl
theorem flL_o {g : Int → Int} {k x : Int} (h : k ≠ 23 ∧ k ≠ 24) : ∀ (A : List Ck) (J : Int → Int → Int), flL g J A k x = J k x
  | [], _ => rfl
  | e :: A, J => (flL_o h A (flS J g e.2.2.1 e.2.2.2)).trans (flS_o h)
theorem flL_v {g : Int → Int} {x : Int} : ∀ (A : List Ck) (J : Int → Int → Int), ((∃ e ∈ A, e.2.2.1 ≤ x ∧ x < e.2.2.1 + e.2.2.2) → flL g J A 23 x = g x ∧ flL g J A 24 x = g x) ∧ ((∀ e ∈ A, ¬ (e.2.2.1 ≤ x ∧ x < e.2.2.1 + e.2.2.2)) → flL g J A 23 x = J 23 x ∧ flL g J A 24 x = J 24 x)
  | [], J => ⟨fun ⟨e, he, _⟩ => absurd he List.not_mem_nil, fun _ => ⟨rfl, rfl⟩⟩
  | e :: A, J => by
    obtain ⟨i1, i2⟩ := flL_v (g := g) (x := x) A (flS J g e.2.2.1 e.2.2.2)
    have e1 : ∀ k, flL g J (e :: A) k x = flL g (flS J g e.2.2.1 e.2.2.2) A k x := fun k => rfl
    by_cases q : ∃ f ∈ A, f.2.2.1 ≤ x ∧ x < f.2.2.1 + f.2.2.2
    · rw [e1, e1]
      exact ⟨fun _ => i1 q, fun h => absurd q (fun ⟨f, hf, hq⟩ => h f (List.mem_cons_of_mem _ hf) hq)⟩
    · have q' : ∀ f ∈ A, ¬ (f.2.2.1 ≤ x ∧ x < f.2.2.1 + f.2.2.2) := fun f hf hq => q ⟨f, hf, hq⟩
      rw [e1, e1, (i2 q').1, (i2 q').2, flS_23, flS_24]
      constructor
      · rintro ⟨f, hf, hq⟩
        rcases List.mem_cons.mp hf with rfl | hf
        · rw [if_pos hq, if_pos hq]; exact ⟨rfl, rfl⟩
        · exact absurd hq (q' f hf)
      · intro h
        have := h e List.mem_cons_self
        rw [if_neg this, if_neg this]; exact ⟨rfl, rfl⟩
theorem flL_r {g : Int → Int} (hg : ∀ x, 0 ≤ g x ∧ g x ≤ 255) : ∀ (A : List Ck) (J : Int → Int → Int), MR J → MR (flL g J A)
  | [], _, h => h
  | e :: A, J, h => flL_r hg A _ ((h.w (fun x _ _ => hg x)).w (fun x _ _ => hg x))
set_option maxHeartbeats 4000000 in
theorem y_fillSegments {d : Nat} {K : Kt} {X : Xt} {ty : Nm → Nat} {ln : Nm → Int} {I : Nm → Int → Int} {R : Nm → Int → Option Nm} {c w : Nat} {a : Int} {J J1 : Int → Int → Int} {L0 Nw : List Ck} (hS : MT J a L0 L0 ty ln I R c) (h7 : HL7 I ty ln R a (L0 ++ Nw)) (hR : MR J) (hR1 : MR J1) (ha : hsJ J a) (hN : ∀ e ∈ Nw, CKN J1 I ty ln R a e ∧ I e.1 3 = 0) (hg : ∀ e ∈ Nw, (1 ≤ e.2.2.2 ∧ e.2.2.2 ≤ 16) ∧ 2400 * a ≤ e.2.2.1 ∧ e.2.2.1 + e.2.2.2 ≤ 2400 * a + 60 * J 20 a ∧ e.2.2.1 % 60 + e.2.2.2 ≤ 60) (hh : ∀ e ∈ Nw, ∀ f ∈ L0, f.2.2.1 + f.2.2.2 ≤ e.2.2.1)
    (k : ∀ I' : Nm → Int → Int, MT (flL (J1 23) J Nw) a L0 (L0 ++ Nw) ty ln I' R c → (∀ n x, (∀ s t, n ≠ 4 :: a :: 8 :: s :: t) → I' n x = I n x) → K none (ty, ln, I', R, c, w)) :
    Mth (d + 4) M_House_fillSegments [vR (some [4, a]), vI (L0.length : Int)] (ty, ln, I, R, c, w) K X := by
  obtain ⟨l1, l2, l3, l4', l5'⟩ := id h7
  have lb := l1.2.2.2.1
  have len : ((L0 ++ Nw).length : Int) = L0.length + Nw.length := by rw [List.length_append]; omega
  rw [len] at lb
  have b20 := hR.k20 a
  have a0 := ha.1
  obtain ⟨t0, -, -, -, -, -, -, ⟨r7, t7⟩, ⟨r8, t8⟩, -⟩ := hS.1.hs a ha
  have key : ∀ (q : Nat) (A B : List Ck), B.length = q → Nw = A ++ B → ∀ (I' : Nm → Int → Int) (u3 : Vl), isLg u3 = false → MT (flL (J1 23) J A) a L0 (L0 ++ A) ty ln I' R c → (∀ n x, (∀ s t, n ≠ 4 :: a :: 8 :: s :: t) → I' n x = I n x) → Rn (d + 3) M_House_fillSegments K X 2 [vR (some [4, a]), vI (L0.length : Int), vI ((L0.length : Int) + A.length), u3] [] (ty, ln, I', R, c, w) := by
    intro q
    induction q with
    | zero =>
      intro A B hB hAB I' u3 v3 hM io
      obtain rfl : B = [] := List.eq_nil_of_length_eq_zero hB
      rw [List.append_nil] at hAB
      subst hAB
      have lq : LQ ty ln I' R [4, a, 7] (la R a 7) (L0 ++ Nw).length := l1.fr (fun _ _ => ⟨rfl, rfl⟩) rfl (io _ _ (by simp)) (fun _ => rfl)
      rw [b_House_fillSegments_2 v3, and_t t0, r7, ex_some, and_t t7, s_AL_size2 lq]
      show Rn (d + 3) M_House_fillSegments K X 10 _ [vI _, vI _] _
      rw [b_House_fillSegments_10 v3, if_pos (by omega)]
      exact k I' hM io
    | succ q ih =>
      intro A B hB hAB I' u3 v3 hM io
      cases B with
      | nil => exact absurd hB (by simp)
      | cons e B =>
      have hB' : B.length = q := by simpa using hB
      have he : e ∈ Nw := by rw [hAB]; simp
      have lA : Nw.length = A.length + (B.length + 1) := by rw [hAB]; simp
      obtain ⟨⟨c1, c2, c3, c4, c5, c6, c7, c8, c9⟩, cu⟩ := hN e he
      have ge := hg e he
      have lq : LQ ty ln I' R [4, a, 7] (la R a 7) (L0 ++ Nw).length := l1.fr (fun _ _ => ⟨rfl, rfl⟩) rfl (io _ _ (by simp)) (fun _ => rfl)
      have gi : R (la R a 7) ((L0.length : Int) + A.length) = some e.1 := by
        have := l2 (L0.length + A.length) e (by rw [hAB, ← List.append_assoc, List.getElem?_append_right (by simp)]; simp)
        rw [show ((L0.length + A.length : Nat) : Int) = (L0.length : Int) + A.length by omega] at this
        exact this
      obtain ⟨J2, eJ2⟩ : ∃ J2, J2 = flL (J1 23) J A := ⟨_, rfl⟩
      rw [← eJ2] at hM
      have jo : ∀ k x, k ≠ 23 → k ≠ 24 → J2 k x = J k x := fun k x h1 h2 => by rw [eJ2]; exact flL_o ⟨h1, h2⟩ A J
      have hR2 : MR J2 := by rw [eJ2]; exact flL_r (fun x => hR1.k23 x) A J hR
      have ha2 : hsJ J2 a := hsJ_c ha (jo _ _ (by decide) (by decide))
      obtain ⟨m1, m2, mY, m4, m5, m6⟩ := id hM
      have hs : sgJ J2 a (e.2.2.1 / 60 - 40 * a) := ⟨ha2, by omega, by omega, by rw [jo 20 _ (by decide) (by decide)]; omega⟩
      obtain ⟨g0, ⟨gr0, gt0, gl0⟩, ⟨gr1, gt1, gl1⟩, -⟩ := m1.sg a _ hs
      have gsr := m1.sr a _ hs
      have i1e : I' e.1 1 = e.2.2.1 / 60 - 40 * a := by rw [io _ _ (fun s t => n12_4 c1)]; exact c7
      have i2e : I' e.1 2 = e.2.2.1 % 60 := by rw [io _ _ (fun s t => n12_4 c1)]; exact c8
      have cn := cS_p (S := 40 * a + (e.2.2.1 / 60 - 40 * a)) (L0 ++ A)
      have i5 := mY.2.2.2.2.1 (e.2.2.1 / 60 - 40 * a) (by omega) (by rw [jo 20 _ (by decide) (by decide)]; omega)
      have lAb : ((L0 ++ A).length : Int) ≤ 4000 := by rw [List.length_append]; omega
      rw [b_House_fillSegments_2 v3, and_t t0, r7, ex_some, and_t t7, s_AL_size2 lq]
      show Rn (d + 3) M_House_fillSegments K X 10 _ [vI _, vI _] _
      rw [b_House_fillSegments_10 v3, if_neg (by omega), and_t t0, r7, ex_some, and_t t7, s_AL_get2 lq (by omega), gi]
      show Rn (d + 3) M_House_fillSegments K X 21 _ [vR (some e.1)] _
      rw [b_House_fillSegments_21 v3, ck c3, and_t t0, ex_some, and_t c3, r8, ex_some, and_t t8, i1e, s_AL_get2 mY.2.2.2.2.2.2.1 (by rw [jo 20 _ (by decide) (by decide)]; omega), gsr]
      show Rn (d + 3) M_House_fillSegments K X 36 _ [vR (some [4, a, 8, e.2.2.1 / 60 - 40 * a])] _
      rw [b_House_fillSegments_36, ck g0, ex_some, and_t g0]
      refine s_Segment_add g0 rfl gr0 gt0 gl0 rfl gr1 gt1 gl1 rfl (by simp) c3 c4 c5 c6 (fun z => n12_4 c2 z) (fun z => n12_4 c2 z) i2e (by omega) (by omega) (fun I2 p0 p1 p5 po => ?_)
      show Rn (d + 3) M_House_fillSegments K X 43 _ [] _
      rw [b_House_fillSegments_43, w32_id (by omega) (by omega)]
      have b9 : ∀ x, e.2.2.1 % 60 ≤ x → x < e.2.2.1 % 60 + e.2.2.2 → I' e.2.1 (x - e.2.2.1 % 60) = J1 23 (60 * (40 * a + (e.2.2.1 / 60 - 40 * a)) + x) := fun x x0 x1 => by
        rw [io _ _ (fun s t => n12_4 c2), c9 _ (by omega) (by omega), show e.2.2.1 + (x - e.2.2.1 % 60) = 60 * (40 * a + (e.2.2.1 / 60 - 40 * a)) + x by omega]
      have hM2 : MT (flS J2 (J1 23) e.2.2.1 e.2.2.2) a L0 (L0 ++ A ++ [e]) ty ln I2 R c := by
        refine MT.fill hM hR2 ha2 hs (by omega) (hh e he) (fun x => ?_) (fun x => ?_) p5 po
        · rw [p0 x]
          by_cases u : e.2.2.1 % 60 ≤ x ∧ x < e.2.2.1 % 60 + e.2.2.2
          · rw [if_pos u, if_pos (by omega)]; exact b9 x u.1 u.2
          · rw [if_neg u, if_neg (by omega)]
        · rw [p1 x]
          by_cases u : e.2.2.1 % 60 ≤ x ∧ x < e.2.2.1 % 60 + e.2.2.2
          · rw [if_pos u, if_pos (by omega)]; exact b9 x u.1 u.2
          · rw [if_neg u, if_neg (by omega)]
      have := ih (A ++ [e]) B hB' (by rw [hAB]; simp) I2 (vR (some e.1)) rfl (by rw [flL_snoc, ← eJ2, ← List.append_assoc]; exact hM2) (fun n x hn => by rw [po n x (hn _ _) (hn _ _) (Or.inl (hn _ _))]; exact io n x hn)
      rw [show (L0.length : Int) + ((A ++ [e]).length : Nat) = L0.length + A.length + 1 by rw [List.length_append]; simp; omega] at this
      exact this
  rw [in_House_fillSegments, b_House_fillSegments_0]
  have := key Nw.length [] Nw rfl rfl I vJ rfl (by rw [List.append_nil]; exact hS) (fun _ _ _ => rfl)
  rw [show (L0.length : Int) + (([] : List Ck).length : Nat) = L0.length by simp] at this
  exact this
