/-! ===== a segment more ===== -/
def opS (J : Int → Int → Int) (a : Int) : Int → Int → Int := wJ (wJ (uJ (uJ (uJ J 20 a (J 20 a + 1)) 21 (40 * a + J 20 a) 0) 22 (40 * a + J 20 a) 1) 23 (60 * (40 * a + J 20 a)) (60 * (40 * a + J 20 a) + 60) (fun _ => 0)) 24 (60 * (40 * a + J 20 a)) (60 * (40 * a + J 20 a) + 60) (fun _ => 0)
theorem opS_o {J : Int → Int → Int} {a k x : Int} (h : k ≠ 20 ∧ k ≠ 21 ∧ k ≠ 22 ∧ k ≠ 23 ∧ k ≠ 24) : opS J a k x = J k x := by
  unfold opS
  rw [wJ_ne h.2.2.2.2, wJ_ne h.2.2.2.1, uJ_ne h.2.2.1, uJ_ne h.2.1, uJ_ne h.1]
theorem opS_20 {J : Int → Int → Int} {a x : Int} : opS J a 20 x = if x = a then J 20 a + 1 else J 20 x := by
  unfold opS
  rw [wJ_ne (by decide), wJ_ne (by decide), uJ_ne (by decide), uJ_ne (by decide), uJ_self]
  by_cases q : x = a
  · rw [if_pos q, q, upI_self]
  · rw [if_neg q, upI_ne _ _ q]
theorem opS_21 {J : Int → Int → Int} {a x : Int} : opS J a 21 x = if x = 40 * a + J 20 a then 0 else J 21 x := by
  unfold opS
  rw [wJ_ne (by decide), wJ_ne (by decide), uJ_ne (by decide), uJ_self]
  by_cases q : x = 40 * a + J 20 a
  · rw [if_pos q, q, upI_self]
  · rw [if_neg q, upI_ne _ _ q, uJ_ne (by decide)]
theorem opS_22 {J : Int → Int → Int} {a x : Int} : opS J a 22 x = if x = 40 * a + J 20 a then 1 else J 22 x := by
  unfold opS
  rw [wJ_ne (by decide), wJ_ne (by decide), uJ_self]
  by_cases q : x = 40 * a + J 20 a
  · rw [if_pos q, q, upI_self]
  · rw [if_neg q, upI_ne _ _ q, uJ_ne (by decide), uJ_ne (by decide)]
theorem opS_23 {J : Int → Int → Int} {a x : Int} : opS J a 23 x = if 60 * (40 * a + J 20 a) ≤ x ∧ x < 60 * (40 * a + J 20 a) + 60 then 0 else J 23 x := by
  unfold opS
  rw [wJ_ne (by decide)]
  by_cases q : 60 * (40 * a + J 20 a) ≤ x ∧ x < 60 * (40 * a + J 20 a) + 60
  · rw [if_pos q, wJ_in q]
  · rw [if_neg q, wJ_out (by omega), uJ_ne (by decide), uJ_ne (by decide), uJ_ne (by decide)]
theorem opS_24 {J : Int → Int → Int} {a x : Int} : opS J a 24 x = if 60 * (40 * a + J 20 a) ≤ x ∧ x < 60 * (40 * a + J 20 a) + 60 then 0 else J 24 x := by
  unfold opS
  by_cases q : 60 * (40 * a + J 20 a) ≤ x ∧ x < 60 * (40 * a + J 20 a) + 60
  · rw [if_pos q, wJ_in q]
  · rw [if_neg q, wJ_out (by omega), wJ_ne (by decide), uJ_ne (by decide), uJ_ne (by decide), uJ_ne (by decide)]
/-- the words of a segment that no house has had -/
def UNs (J : Int → Int → Int) (a s : Int) : Prop := ∀ j : Int, 0 ≤ j → j < 12 → J 25 (12 * (40 * a + s) + j) = -1 ∧ J 26 (12 * (40 * a + s) + j) = 0 ∧ J 28 (12 * (40 * a + s) + j) = 0 ∧ (∀ x : Int, 0 ≤ x → x < 30 → J 27 (30 * (12 * (40 * a + s) + j) + x) = 0) ∧ (∀ x : Int, 0 ≤ x → x < 8 → J 29 (8 * (12 * (40 * a + s) + j) + x) = 0)
theorem nS_of {a s : Int} {ty : Nm → Nat} {n : Nm} (hf : ∀ t, ty (4 :: a :: 8 :: s :: t) = 0) (h : ty n ≠ 0) : nS a s n := fun t z => h (by rw [z]; exact hf t)
set_option maxHeartbeats 4000000 in
theorem RC.seg {J : Int → Int → Int} {ty ty' : Nm → Nat} {ln ln' : Nm → Int} {I I' : Nm → Int → Int} {R R' : Nm → Int → Option Nm} {a : Int} {m' : Nm} (h : RC J I ty ln I R) (ha : hsJ J a) (h20 : J 20 a < 40) (lt : ∀ b, hsJ J b → ty (la R b 8) ≠ 0 ∧ rw12 R b 8) (hf : ∀ t, ty (4 :: a :: 8 :: J 20 a :: t) = 0) (t : ∀ n, ty n ≠ 0 → ty' n = ty n ∧ ln' n = ln n)
    (i : ∀ n x, nS a (J 20 a) n → n ≠ [4, a, 8] → ¬ n12 a n → I' n x = I n x) (r : ∀ n x, ty n ≠ 0 → n ≠ [4, a, 8] → ¬ n12 a n → R' n x = R n x)
    (l : LQ ty' ln' I' R' [4, a, 8] m' (J 20 a + 1)) (rs : ∀ j, 0 ≤ j → j < J 20 a → R' m' j = R (la R a 8) j) (rn : R' m' (J 20 a) = some [4, a, 8, J 20 a])
    (sg : SG ty' ln' R' a (J 20 a) (J (-1) 3) (60 / J (-1) 2)) (ce : I' [4, a, 8, J 20 a] 3 = 1 ∧ I' [4, a, 8, J 20 a] 4 = 0 ∧ (∀ x, I' [4, a, 8, J 20 a, 0] x = 0) ∧ (∀ x, I' [4, a, 8, J 20 a, 1] x = 0)) (pc : ∀ j : Int, 0 ≤ j → j < J (-1) 3 → PCn ty' ln' I' R' a (J 20 a) (60 / J (-1) 2) j) (un : UNs J a (J 20 a)) : RC (opS J a) I' ty' ln' I' R' := by
  obtain ⟨⟨g1, g2, g3, g4, g5, g6, g7, g8⟩, h2, h3, h4, h5, h6, h7, h8, h9⟩ := h
  have h20' := (h4 a ha).2.1
  have la8 : la R' a 8 = m' := by unfold la; rw [l.2.1]; rfl
  have n128 : ∀ n, hd n ≠ 12 → ¬ n12 a n := fun n hn ⟨q, hq⟩ => hn (by rw [hq]; rfl)
  have rr : ∀ n x, (hd n = 1 ∨ hd n = 17 ∨ n = [16] ∨ (hd n = 4 ∧ ∀ a, n ≠ [4, a, 7] ∧ n ≠ [4, a, 8] ∧ n ≠ [4, a, 9])) → ty n ≠ 0 → R' n x = R n x := fun n x hx hz => r n x hz (by
    rintro rfl
    rcases hx with g | g | g | g
    · simp [hd] at g
    · simp [hd] at g
    · simp at g
    · exact (g.2 a).2.1 rfl) (n128 n (by
    rcases hx with g | g | g | g
    · omega
    · omega
    · rw [g]; decide
    · omega))
  have hdn : ∀ n, hd n ≠ 4 → nS a (J 20 a) n ∧ n ≠ [4, a, 8] := fun n hn => ⟨fun t z => hn (by rw [z]; rfl), fun z => hn (by rw [z]; rfl)⟩
  have io : ∀ n x, hd n = 1 ∨ hd n = 17 → I' n x = I n x := fun n x hn => i n x (hdn n (by omega)).1 (hdn n (by omega)).2 (n128 n (by omega))
  have j5 : ∀ x, opS J a 5 x = J 5 x := fun x => opS_o (by decide)
  have jm : ∀ x, opS J a (-1) x = J (-1) x := fun x => opS_o (by decide)
  have la8b : ∀ b, b ≠ a → hsJ J b → la R' b 8 = la R b 8 := fun b hb hb' => by
    unfold la
    rw [r _ _ (by rw [(h2 b hb').2.2.2.2.2.2.2.2.1.2]; decide) (by simp [hb]) (n128 _ (by simp [hd]))]
  have r8b : ∀ b, b ≠ a → hsJ J b → ∀ x, R' (la R b 8) x = R (la R b 8) x := fun b hb hb' x => by
    obtain ⟨l1, l2⟩ := lt b hb'
    rcases l2 with u | ⟨q, u⟩
    · exact r _ _ l1 (by rw [u]; simp [nE]) (by rw [u]; simp [nE, n12])
    · exact r _ _ l1 (by rw [u]; simp) (by rw [u]; simp [n12, hb])
  refine ⟨⟨g1.nw t rr, g2.nw t rr, g3.o (fun n x _ _ h17 => io n x (Or.inr h17)), ?_, ?_, ?_, ?_, ?_⟩, ?_, ?_, ?_, ?_, ?_, ?_, ?_, fun _ _ _ => rfl⟩
  · rw [io [17] 3 (Or.inr rfl), io [17] 4 (Or.inr rfl), io [17] 5 (Or.inr rfl), jm, jm]; exact g4
  · rw [io [1] 6 (Or.inl rfl), io [1] 7 (Or.inl rfl), io [1] 8 (Or.inl rfl), jm, jm, jm]; exact g5
  · rw [jm]; intro x x0 x1; rw [io [1, 3] x (Or.inl rfl), opS_o (by decide)]; exact g6 x x0 x1
  · intro b b0 b1; rw [rr [1, 0] b (Or.inl rfl) (by rw [g1.2.2.2.2.2.2.2.1.1]; decide), j5]; exact g7 b b0 b1
  · rw [jm, jm, jm, jm, jm]; exact g8
  · intro b hb
    unfold hsJ at hb; rw [j5] at hb
    exact (h2 b hb).nw t rr
  · intro b hb
    unfold hsJ at hb; rw [j5] at hb
    rw [i [4, b] 0 (fun t z => by simp at z) (by simp) (n128 _ (by simp [hd]))]; exact h3 b hb
  · intro b hb
    unfold hsJ at hb; rw [j5] at hb
    rw [opS_20]
    by_cases z : b = a
    · subst z
      rw [if_pos rfl]
      refine ⟨l.2.2.1, by omega, by omega, ?_, fun _ => ?_, ?_⟩
      · rw [la8]; exact l.2.1
      · rw [la8]; exact l.2.2.2.2.1.elim (fun u => by have := l.2.2.2.1; omega) (fun u => u.1)
      · rw [la8]; exact l.2.2.2.1.2.1
    · rw [if_neg z, i [4, b, 8] 1 (fun t y => by simp at y) (by simp [z]) (n128 _ (by simp [hd]))]
      obtain ⟨x1, x2, x3, x4, x5, x6⟩ := h4 b hb
      refine ⟨x1, x2, x3, ?_, ?_, ?_⟩
      · rw [la8b b z hb, r _ _ (by rw [(h2 b hb).2.2.2.2.2.2.2.2.1.2]; decide) (by simp [z]) (n128 _ (by simp [hd]))]; exact x4
      · rw [la8b b z hb, (t _ (lt b hb).1).1]; exact x5
      · rw [la8b b z hb, (t _ (lt b hb).1).2]; exact x6
  · intro b s' hs
    unfold sgJ at hs; rw [j5, opS_20] at hs
    by_cases z : b = a
    · subst z
      rw [if_pos rfl] at hs
      rw [la8]
      by_cases y : s' = J 20 b
      · rw [y]; exact rn
      · rw [rs s' hs.2.1 (by omega)]; exact h5 b s' ⟨hs.1, hs.2.1, hs.2.2.1, by omega⟩
    · rw [if_neg z] at hs
      rw [la8b b z hs.1, r8b b z hs.1]; exact h5 b s' hs
  · intro b s' hs
    unfold sgJ at hs; rw [j5, opS_20] at hs
    rw [jm, jm]
    by_cases z : b = a
    · subst z
      rw [if_pos rfl] at hs
      by_cases y : s' = J 20 b
      · rw [y]; exact sg
      · exact (h6 b s' ⟨hs.1, hs.2.1, hs.2.2.1, by omega⟩).nw t rr
    · rw [if_neg z] at hs
      exact (h6 b s' hs).nw t rr
  · intro n x k y hl
    -- a cell of before, or of the new segment
    have old : LK J n x k y → opS J a k y = J k y → nS a (J 20 a) n → I' n x = opS J a k y := fun hl' e1 e2 => by
      have h4' := hl'.hd4
      rw [i n x e2 ?_ (n128 n (by omega)), e1]
      · exact h7 n x k y hl'
      · intro z
        exact hl'.nev (Or.inr (Or.inr (Or.inl ⟨a, z⟩)))
    unfold LK hsJ sgJ piJ at hl
    simp only [j5, jm, opS_20, opS_o (show (12 : Int) ≠ 20 ∧ (12 : Int) ≠ 21 ∧ (12 : Int) ≠ 22 ∧ (12 : Int) ≠ 23 ∧ (12 : Int) ≠ 24 by decide), opS_o (show (13 : Int) ≠ 20 ∧ (13 : Int) ≠ 21 ∧ (13 : Int) ≠ 22 ∧ (13 : Int) ≠ 23 ∧ (13 : Int) ≠ 24 by decide)] at hl
    rcases hl with ⟨b, q1, q2, q3, q4⟩ | ⟨b, b', q1, q2, q3, q4, q5, q6⟩ | ⟨b, t', q1, q2, q3, q4, q5, q6⟩ | ⟨b, s', q1, q2, q3, q4⟩ | ⟨b, s', b', q1, q2, q3, q4, q5, q6⟩ | ⟨b, s', j, q1, q2, q3, q4⟩ | ⟨b, s', j, q1, q2, q3, q4, q5⟩ | ⟨b, s', j, q1, q2, q3, q4, q5⟩
    · refine old (Or.inl ⟨b, q1, q2, q3, q4⟩) (opS_o (by omega)) (fun t z => by rw [q2] at z; simp at z)
    · refine old (Or.inr (Or.inl ⟨b, b', q1, q2, q3, q4, q5, q6⟩)) (opS_o (by omega)) (fun t z => by rw [q2] at z; simp at z)
    · refine old (Or.inr (Or.inr (Or.inl ⟨b, t', q1, q2, q3, q4, q5, q6⟩))) (opS_o (by omega)) (fun t z => by rw [q2] at z; simp at z)
    · by_cases z : b = a ∧ s' = J 20 a
      · obtain ⟨rfl, rfl⟩ := z
        rw [q2, q3]
        rcases q4 with ⟨u, v⟩ | ⟨u, v⟩
        · rw [u, v, opS_22, if_pos rfl]; exact ce.1
        · rw [u, v, opS_21, if_pos rfl]; exact ce.2.1
      · have hs : sgJ J b s' := by
          by_cases u : b = a
          · rw [if_pos u] at q1; subst u; exact ⟨q1.1, q1.2.1, q1.2.2.1, by have : s' ≠ J 20 b := fun v => z ⟨rfl, v⟩; omega⟩
          · rw [if_neg u] at q1; exact q1
        refine old (Or.inr (Or.inr (Or.inr (Or.inl ⟨b, s', hs, q2, q3, q4⟩)))) ?_ (fun t y => ?_)
        · have ny : y ≠ 40 * a + J 20 a := fun v => z (by have := hs.1.1; have := hs.2; have := ha.1; omega)
          rcases q4 with ⟨u, v⟩ | ⟨u, v⟩
          · rw [v, opS_22, if_neg ny]
          · rw [v, opS_21, if_neg ny]
        · rw [q2] at y; simp at y; exact z ⟨y.1, y.2.1⟩
    · by_cases z : b = a ∧ s' = J 20 a
      · obtain ⟨rfl, rfl⟩ := z
        rw [q2, q6, q5]
        rcases q4 with u | u
        · rw [u, show (0 : Int) + 23 = 23 from rfl, opS_23, if_pos (by omega)]; exact ce.2.2.1 x
        · rw [u, show (1 : Int) + 23 = 24 from rfl, opS_24, if_pos (by omega)]; exact ce.2.2.2 x
      · have hs : sgJ J b s' := by
          by_cases u : b = a
          · rw [if_pos u] at q1; subst u; exact ⟨q1.1, q1.2.1, q1.2.2.1, by have : s' ≠ J 20 b := fun v => z ⟨rfl, v⟩; omega⟩
          · rw [if_neg u] at q1; exact q1
        refine old (Or.inr (Or.inr (Or.inr (Or.inr (Or.inl ⟨b, s', b', hs, q2, q3, q4, q5, q6⟩))))) ?_ (fun t y => ?_)
        · have ny : ¬ (60 * (40 * a + J 20 a) ≤ y ∧ y < 60 * (40 * a + J 20 a) + 60) := fun v => z (by have := hs.1.1; have := hs.2; have := ha.1; omega)
          rcases q4 with u | u
          · rw [q5, u, show (0 : Int) + 23 = 23 from rfl, opS_23, if_neg ny]
          · rw [q5, u, show (1 : Int) + 23 = 24 from rfl, opS_24, if_neg ny]
        · rw [q2] at y; simp at y; exact z ⟨y.1, y.2.1⟩
    all_goals
      by_cases z : b = a ∧ s' = J 20 a
    · obtain ⟨rfl, rfl⟩ := z
      obtain ⟨p1, p2, p3, p4, p5, p6⟩ := pc j q1.2.1 q1.2.2.2
      obtain ⟨u1, u2, u3, u4, u5⟩ := un j q1.2.1 q1.2.2.1
      rw [q2, q3]
      rcases q4 with ⟨u, v⟩ | ⟨u, v⟩ | ⟨u, v⟩
      · rw [u, v, opS_o (by decide), u1]; exact p2
      · rw [u, v, opS_o (by decide), u2]; exact p3
      · rw [u, v, opS_o (by decide), u3]; exact p4
    · have hp : piJ J b s' j := by
        by_cases u : b = a
        · rw [if_pos u] at q1; subst u; exact ⟨⟨q1.1.1, q1.1.2.1, q1.1.2.2.1, by have : s' ≠ J 20 b := fun v => z ⟨rfl, v⟩; have := q1.1.2.2.2; omega⟩, q1.2⟩
        · rw [if_neg u] at q1; exact q1
      refine old (Or.inr (Or.inr (Or.inr (Or.inr (Or.inr (Or.inl ⟨b, s', j, hp, q2, q3, q4⟩)))))) (opS_o (by omega)) (fun t y => ?_)
      rw [q2] at y; simp at y; exact z ⟨y.1, y.2.1⟩
    · obtain ⟨rfl, rfl⟩ := z
      obtain ⟨p1, p2, p3, p4, p5, p6⟩ := pc j q1.2.1 q1.2.2.2
      obtain ⟨u1, u2, u3, u4, u5⟩ := un j q1.2.1 q1.2.2.1
      rw [q2, q5, q4, opS_o (by decide), u4 x q3.1 q3.2.1]; exact p5 x
    · have hp : piJ J b s' j := by
        by_cases u : b = a
        · rw [if_pos u] at q1; subst u; exact ⟨⟨q1.1.1, q1.1.2.1, q1.1.2.2.1, by have : s' ≠ J 20 b := fun v => z ⟨rfl, v⟩; have := q1.1.2.2.2; omega⟩, q1.2⟩
        · rw [if_neg u] at q1; exact q1
      refine old (Or.inr (Or.inr (Or.inr (Or.inr (Or.inr (Or.inr (Or.inl ⟨b, s', j, hp, q2, q3, q4, q5⟩))))))) (opS_o (by omega)) (fun t y => ?_)
      rw [q2] at y; simp at y; exact z ⟨y.1, y.2.1⟩
    · obtain ⟨rfl, rfl⟩ := z
      obtain ⟨p1, p2, p3, p4, p5, p6⟩ := pc j q1.2.1 q1.2.2.2
      obtain ⟨u1, u2, u3, u4, u5⟩ := un j q1.2.1 q1.2.2.1
      rw [q2, q5, q4, opS_o (by decide), u5 x q3.1 q3.2]; exact p6 x
    · have hp : piJ J b s' j := by
        by_cases u : b = a
        · rw [if_pos u] at q1; subst u; exact ⟨⟨q1.1.1, q1.1.2.1, q1.1.2.2.1, by have : s' ≠ J 20 b := fun v => z ⟨rfl, v⟩; have := q1.1.2.2.2; omega⟩, q1.2⟩
        · rw [if_neg u] at q1; exact q1
      refine old (Or.inr (Or.inr (Or.inr (Or.inr (Or.inr (Or.inr (Or.inr ⟨b, s', j, hp, q2, q3, q4, q5⟩))))))) (opS_o (by omega)) (fun t y => ?_)
      rw [q2] at y; simp at y; exact z ⟨y.1, y.2.1⟩
  · intro b t' hb t0 t1
    unfold hsJ at hb; rw [j5] at hb
    rw [i [4, b, 6] t' (fun t z => by simp at z) (by simp) (n128 _ (by simp [hd])), opS_o (by decide), opS_o (by decide)]
    exact h8 b t' hb t0 t1
