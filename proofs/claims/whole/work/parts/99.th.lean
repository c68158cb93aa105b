/-! ===== a snapshot is dropped ===== -/
theorem tyNq {ty ty' : Nm → Nat} {ln ln' : Nm → Int} (t : ∀ n, ty n ≠ 0 → ty' n = ty n ∧ ln' n = ln n) {n : Nm} {k : Nat} (h : ty n = k) (hk : k ≠ 0) : ty' n = k := by
  rw [(t n (by omega)).1]; exact h
theorem lnNq {ty ty' : Nm → Nat} {ln ln' : Nm → Int} (t : ∀ n, ty n ≠ 0 → ty' n = ty n ∧ ln' n = ln n) {n : Nm} {k : Nat} {v : Int} (h : ty n = k ∧ ln n = v) (hk : k ≠ 0) : ty' n = k ∧ ln' n = v := by
  rw [(t n (by omega)).1, (t n (by omega)).2]; exact h
theorem FS.nw {ty ty' : Nm → Nat} {ln ln' : Nm → Int} {R R' : Nm → Int → Option Nm} (t : ∀ n, ty n ≠ 0 → ty' n = ty n ∧ ln' n = ln n) (r : ∀ n x, (hd n = 1 ∨ hd n = 17 ∨ n = [16] ∨ (hd n = 4 ∧ ∀ a, n ≠ [4, a, 7] ∧ n ≠ [4, a, 8] ∧ n ≠ [4, a, 9])) → ty n ≠ 0 → R' n x = R n x) (h : FS ty ln R) : FS ty' ln' R' := by
  obtain ⟨f1, fr0, fr1, fr2, fr3, fr4, fr5, f0, f3, f4, f5, ft16, fr160, fr161, f160, f161⟩ := h
  have r1 : ∀ x, R' [1] x = R [1] x := fun x => r _ x (Or.inl rfl) (by rw [f1]; decide)
  have r16 : ∀ x, R' [16] x = R [16] x := fun x => r _ x (Or.inr (Or.inr (Or.inl rfl))) (by rw [ft16]; decide)
  exact ⟨tyNq t f1 (by decide), by rw [r1]; exact fr0, by rw [r1]; exact fr1, by rw [r1]; exact fr2, by rw [r1]; exact fr3, by rw [r1]; exact fr4, by rw [r1]; exact fr5, lnNq t f0 (by decide), lnNq t f3 (by decide), lnNq t f4 (by decide), lnNq t f5 (by decide), tyNq t ft16 (by decide), by rw [r16]; exact fr160, by rw [r16]; exact fr161, lnNq t f160 (by decide), lnNq t f161 (by decide)⟩
theorem CdS.nw {ty ty' : Nm → Nat} {ln ln' : Nm → Int} {R R' : Nm → Int → Option Nm} (t : ∀ n, ty n ≠ 0 → ty' n = ty n ∧ ln' n = ln n) (r : ∀ n x, (hd n = 1 ∨ hd n = 17 ∨ n = [16] ∨ (hd n = 4 ∧ ∀ a, n ≠ [4, a, 7] ∧ n ≠ [4, a, 8] ∧ n ≠ [4, a, 9])) → ty n ≠ 0 → R' n x = R n x) (h : CdS ty ln R) : CdS ty' ln' R' := by
  obtain ⟨s1, s2, s3, s4, s5, s6, s7, s8, s9, s10, s11, s12, s13⟩ := h
  have r1 : ∀ x, R' [17] x = R [17] x := fun x => r _ x (Or.inr (Or.inl rfl)) (by rw [s1]; decide)
  have r5 : ∀ x, R' [17, 0] x = R [17, 0] x := fun x => r _ x (Or.inr (Or.inl rfl)) (by rw [s5]; decide)
  have r10 : ∀ x, R' [17, 1] x = R [17, 1] x := fun x => r _ x (Or.inr (Or.inl rfl)) (by rw [s10.1]; decide)
  have r11 : ∀ x, R' [17, 2] x = R [17, 2] x := fun x => r _ x (Or.inr (Or.inl rfl)) (by rw [s11.1]; decide)
  exact ⟨tyNq t s1 (by decide), by rw [r1]; exact s2, by rw [r1]; exact s3, by rw [r1]; exact s4, tyNq t s5 (by decide), by rw [r5]; exact s6, by rw [r5]; exact s7, lnNq t s8 (by decide), lnNq t s9 (by decide), lnNq t s10 (by decide), lnNq t s11 (by decide), fun j j0 j1 => ⟨by rw [r10]; exact (s12 j j0 j1).1, lnNq t (s12 j j0 j1).2 (by decide)⟩, fun j j0 j1 => ⟨by rw [r11]; exact (s13 j j0 j1).1, lnNq t (s13 j j0 j1).2 (by decide)⟩⟩
theorem HS.nw {ty ty' : Nm → Nat} {ln ln' : Nm → Int} {R R' : Nm → Int → Option Nm} {a : Int} (t : ∀ n, ty n ≠ 0 → ty' n = ty n ∧ ln' n = ln n) (r : ∀ n x, (hd n = 1 ∨ hd n = 17 ∨ n = [16] ∨ (hd n = 4 ∧ ∀ a, n ≠ [4, a, 7] ∧ n ≠ [4, a, 8] ∧ n ≠ [4, a, 9])) → ty n ≠ 0 → R' n x = R n x) (h : HS ty ln R a) : HS ty' ln' R' a := by
  obtain ⟨t0, ⟨r2, t2⟩, ⟨r3, t3⟩, ⟨r4, t4⟩, ⟨r5, t5⟩, rw5, ⟨r6, t6⟩, ⟨r7, t7⟩, ⟨r8, t8⟩, ⟨r9, t9⟩⟩ := h
  have q0 : ∀ x, R' [4, a] x = R [4, a] x := fun x => r _ x (Or.inr (Or.inr (Or.inr ⟨rfl, fun b => ⟨by simp, by simp, by simp⟩⟩))) (by rw [t0]; decide)
  have q5 : ∀ x, R' [4, a, 5] x = R [4, a, 5] x := fun x => r _ x (Or.inr (Or.inr (Or.inr ⟨rfl, fun b => ⟨by simp, by simp, by simp⟩⟩))) (by rw [t5.1]; decide)
  exact ⟨tyNq t t0 (by decide), ⟨by rw [q0]; exact r2, lnNq t t2 (by decide)⟩, ⟨by rw [q0]; exact r3, lnNq t t3 (by decide)⟩, ⟨by rw [q0]; exact r4, lnNq t t4 (by decide)⟩, ⟨by rw [q0]; exact r5, lnNq t t5 (by decide)⟩, fun j j0 j1 => ⟨by rw [q5]; exact (rw5 j j0 j1).1, lnNq t (rw5 j j0 j1).2 (by decide)⟩, ⟨by rw [q0]; exact r6, lnNq t t6 (by decide)⟩, ⟨by rw [q0]; exact r7, tyNq t t7 (by decide)⟩, ⟨by rw [q0]; exact r8, tyNq t t8 (by decide)⟩, ⟨by rw [q0]; exact r9, tyNq t t9 (by decide)⟩⟩
theorem SG.nw {ty ty' : Nm → Nat} {ln ln' : Nm → Int} {R R' : Nm → Int → Option Nm} {a s n l : Int} (t : ∀ n, ty n ≠ 0 → ty' n = ty n ∧ ln' n = ln n) (r : ∀ n x, (hd n = 1 ∨ hd n = 17 ∨ n = [16] ∨ (hd n = 4 ∧ ∀ a, n ≠ [4, a, 7] ∧ n ≠ [4, a, 8] ∧ n ≠ [4, a, 9])) → ty n ≠ 0 → R' n x = R n x) (h : SG ty ln R a s n l) : SG ty' ln' R' a s n l := by
  obtain ⟨g0, ⟨gr0, g1⟩, ⟨gr1, g2⟩, ⟨gr2, g3⟩, gp⟩ := h
  have q0 : ∀ x, R' [4, a, 8, s] x = R [4, a, 8, s] x := fun x => r _ x (Or.inr (Or.inr (Or.inr ⟨rfl, fun b => ⟨by simp, by simp, by simp⟩⟩))) (by rw [g0]; decide)
  have q2 : ∀ x, R' [4, a, 8, s, 2] x = R [4, a, 8, s, 2] x := fun x => r _ x (Or.inr (Or.inr (Or.inr ⟨rfl, fun b => ⟨by simp, by simp, by simp⟩⟩))) (by rw [g3.1]; decide)
  refine ⟨tyNq t g0 (by decide), ⟨by rw [q0]; exact gr0, lnNq t g1 (by decide)⟩, ⟨by rw [q0]; exact gr1, lnNq t g2 (by decide)⟩, ⟨by rw [q0]; exact gr2, lnNq t g3 (by decide)⟩, fun j j0 j1 => ?_⟩
  obtain ⟨p1, p2, ⟨p3, p4⟩, ⟨p5, p6⟩⟩ := gp j j0 j1
  have q3 : ∀ x, R' [4, a, 8, s, 3, j] x = R [4, a, 8, s, 3, j] x := fun x => r _ x (Or.inr (Or.inr (Or.inr ⟨rfl, fun b => ⟨by simp, by simp, by simp⟩⟩))) (by rw [p2]; decide)
  exact ⟨by rw [q2]; exact p1, tyNq t p2 (by decide), ⟨by rw [q3]; exact p3, lnNq t p4 (by decide)⟩, ⟨by rw [q3]; exact p5, lnNq t p6 (by decide)⟩⟩
theorem RC.new {J : Int → Int → Int} {E : Nm → Int → Int} {ty ty' : Nm → Nat} {ln ln' : Nm → Int} {R R' : Nm → Int → Option Nm} {I I' : Nm → Int → Int} (h : RC J E ty ln I R) (t : ∀ n, ty n ≠ 0 → ty' n = ty n ∧ ln' n = ln n) (i : ∀ n x, (hd n = 1 ∨ hd n = 17 ∨ (hd n = 4 ∧ ¬ evC n x) ∨ (∃ a, n = [4, a, 8] ∧ x = 1)) → I' n x = I n x) (r : ∀ n x, (hd n = 1 ∨ hd n = 17 ∨ n = [16] ∨ (hd n = 4 ∧ ∀ a, n ≠ [4, a, 7] ∧ n ≠ [4, a, 8] ∧ n ≠ [4, a, 9])) → ty n ≠ 0 → R' n x = R n x) (r8 : ∀ a, hsJ J a → R' [4, a, 8] 0 = R [4, a, 8] 0) (r9 : ∀ a s, sgJ J a s → R' (la R a 8) s = R (la R a 8) s) (hz : ∀ a, hsJ J a → ty (la R a 8) ≠ 0) : RC J I' ty' ln' I' R' := by
  obtain ⟨⟨g1, g2, g3, g4, g5, g6, g7, g8⟩, h2, h3, h4, h5, h6, h7, h8, h9⟩ := h
  have l8 : ∀ a, hsJ J a → la R' a 8 = la R a 8 := fun a ha => by unfold la; rw [r8 a ha]
  have n4 : ∀ a b x, ¬ evC [4, a, b] x ∨ (b = 7 ∨ b = 8 ∨ b = 9) := fun a b x => by
    by_cases z : b = 7 ∨ b = 8 ∨ b = 9
    · exact Or.inr z
    · left
      intro g
      unfold evC at g
      rcases g with g | ⟨a', k', l', g, g'⟩ | ⟨a', g⟩ | ⟨a', g, g'⟩ | ⟨a', s', g, g'⟩ <;> simp [hd] at g <;> omega
  refine ⟨⟨g1.nw t r, g2.nw t r, g3.o (fun n x _ _ h17 => i n x (Or.inr (Or.inl h17))), ?_, ?_, ?_, ?_, g8⟩, fun a ha => (h2 a ha).nw t r, ?_, ?_, ?_, fun a s hs => (h6 a s hs).nw t r, ?_, ?_, fun _ _ _ => rfl⟩
  · rw [i [17] 3 (Or.inr (Or.inl rfl)), i [17] 4 (Or.inr (Or.inl rfl)), i [17] 5 (Or.inr (Or.inl rfl))]; exact g4
  · rw [i [1] 6 (Or.inl rfl), i [1] 7 (Or.inl rfl), i [1] 8 (Or.inl rfl)]; exact g5
  · intro x x0 x1; rw [i [1, 3] x (Or.inl rfl)]; exact g6 x x0 x1
  · intro a a0 a1; rw [r [1, 0] a (Or.inl rfl) (by rw [g1.2.2.2.2.2.2.2.1.1]; decide)]; exact g7 a a0 a1
  · intro a ha
    rw [i [4, a] 0 (Or.inr (Or.inr (Or.inl ⟨rfl, fun g => by
      unfold evC at g
      rcases g with g | ⟨a', k', l', g, g'⟩ | ⟨a', g⟩ | ⟨a', g, g'⟩ | ⟨a', s', g, g'⟩ <;> simp [hd] at g <;> omega⟩)))]
    exact h3 a ha
  · intro a ha
    obtain ⟨x1, x2, x3, x4, x5, x6⟩ := h4 a ha
    rw [i [4, a, 8] 1 (Or.inr (Or.inr (Or.inr ⟨a, rfl, rfl⟩)))]
    refine ⟨x1, x2, x3, ?_, ?_, ?_⟩
    · rw [l8 a ha, r8 a ha]; exact x4
    · rw [l8 a ha, (t _ (hz a ha)).1]; exact x5
    · rw [l8 a ha, (t _ (hz a ha)).2]; exact x6
  · intro a s hs
    rw [l8 a hs.1, r9 a s hs]; exact h5 a s hs
  · intro n x k y hl
    rw [i n x (Or.inr (Or.inr (Or.inl ⟨hl.hd4, hl.nev⟩)))]
    exact h7 n x k y hl
  · intro a x ha x0 x1
    rw [i [4, a, 6] x (Or.inr (Or.inr (Or.inl ⟨rfl, (n4 a 6 x).elim id (fun z => by omega)⟩)))]
    exact h8 a x ha x0 x1
