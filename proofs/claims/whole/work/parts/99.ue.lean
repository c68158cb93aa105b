/-! ===== code, settle and house on the relation ===== -/
theorem evC_17 {x : Int} {l : List Int} {k : Int} (hk : k = 1 ∨ k = 16 ∨ k = 17) : ¬ evC (k :: l) x := by
  intro g
  unfold evC at g
  rcases g with g | ⟨a', k', l', g, g'⟩ | ⟨a', g⟩ | ⟨a', g, g'⟩ | ⟨a', s', g, g'⟩
  · simp [hd] at g; omega
  · simp at g; omega
  · simp at g; omega
  · simp at g; omega
  · simp at g; omega
theorem RC.cod {J J' : Int → Int → Int} {E : Nm → Int → Int} {ty : Nm → Nat} {ln : Nm → Int} {I I' : Nm → Int → Int} {R : Nm → Int → Option Nm} {a b : Int} (h : RC J E ty ln I R) (z20 : ∀ c, 0 ≤ c → c ≤ 9 → J 20 c = 0) (ha : 2 ≤ a ∧ a ≤ 6) (hb : a ≤ b ∧ b ≤ 12) (e : ∀ k x, k ≠ -1 → J' k x = J k x) (em : ∀ x, x ≠ 0 → x ≠ 2 → x ≠ 3 → J' (-1) x = J (-1) x) (e2 : J' (-1) 2 = a) (e3 : J' (-1) 3 = b) (i : ∀ n x, n ≠ [17] → I' n x = I n x) (i3 : I' [17] 3 = a) (i4 : I' [17] 4 = b) (i5 : I' [17] 5 = 60 / a) : RC J' E ty ln I' R := by
  obtain ⟨⟨g1, g2, ⟨v1, v2, v3⟩, g4, g5, g6, g7, g8⟩, h2, h3, h4, h5, h6, h7, h8, h9⟩ := h
  have ns : ∀ c s, ¬ sgJ J' c s := fun c s hs => by
    have := hs.2.2.2
    rw [e 20 _ (by decide), z20 c hs.1.1.1 hs.1.1.2] at this
    have := hs.2.1
    omega
  have hh : ∀ c, hsJ J' c → hsJ J c := fun c hc => by unfold hsJ at hc ⊢; rw [e 5 _ (by decide)] at hc; exact hc
  refine ⟨⟨g1, g2, ⟨fun x x0 x1 => ?_, fun x x0 x1 => ?_, fun j x j0 j1 x0 x1 => ?_⟩, ?_, ?_, fun x x0 x1 => ?_, fun c c0 c1 => ?_, ?_⟩, fun c hc => h2 c (hh c hc), fun c hc => ?_, fun c hc => ?_, fun c s hs => absurd hs (ns c s), fun c s hs => absurd hs (ns c s), fun n x k y hl => ?_, fun c t hc t0 t1 => ?_, fun n x hx => ?_⟩
  · rw [i _ _ (by simp)]; exact v1 x x0 x1
  · rw [i _ _ (by simp)]; exact v2 x x0 x1
  · rw [i _ _ (by simp)]; exact v3 j x j0 j1 x0 x1
  · rw [i3, i4, i5, e2, e3]; exact ⟨rfl, rfl, rfl⟩
  · rw [i _ _ (by simp), i _ _ (by simp), i _ _ (by simp), em 35 (by decide) (by decide) (by decide), em 4 (by decide) (by decide) (by decide), em 1 (by decide) (by decide) (by decide)]; exact g5
  · rw [em 35 (by decide) (by decide) (by decide)] at x1
    rw [i _ _ (by simp), e 36 _ (by decide)]; exact g6 x x0 x1
  · rw [e 5 _ (by decide)]; exact g7 c c0 c1
  · rw [e2, e3, em 35 (by decide) (by decide) (by decide), em 4 (by decide) (by decide) (by decide), em 1 (by decide) (by decide) (by decide)]; exact ⟨ha, hb, g8.2.2⟩
  · rw [i _ _ (by simp)]; exact h3 c (hh c hc)
  · rw [i _ _ (by simp), e 20 _ (by decide)]; exact h4 c (hh c hc)
  · have h4' := hl.hd4
    have nk : k ≠ -1 ∧ LK J n x k y := by
      unfold LK at hl ⊢
      rcases hl with ⟨a, h1, rfl, h3, h4⟩ | ⟨a, b, h1, rfl, h3, h4, h5, h6⟩ | ⟨a, t, h1, rfl, h3, h4, h5, h6⟩ | ⟨a, s, h1, rfl, h3, h4⟩ | ⟨a, s, b, h1, rfl, h3, h4, h5, h6⟩ | ⟨a, s, j, h1, rfl, h3, h4⟩ | ⟨a, s, j, h1, rfl, h3, h4, h5⟩ | ⟨a, s, j, h1, rfl, h3, h4, h5⟩
      · exact ⟨by omega, Or.inl ⟨a, hh a h1, rfl, h3, h4⟩⟩
      · exact ⟨by omega, Or.inr (Or.inl ⟨a, b, hh a h1, rfl, h3, h4, h5, h6⟩)⟩
      · refine ⟨by omega, Or.inr (Or.inr (Or.inl ⟨a, t, hh a h1, rfl, h3, ?_, h5, h6⟩))⟩
        rw [e 13 _ (by decide), e 12 _ (by decide)] at h4; exact h4
      · exact absurd h1 (ns a s)
      · exact absurd h1 (ns a s)
      · exact absurd h1.1 (ns a s)
      · exact absurd h1.1 (ns a s)
      · exact absurd h1.1 (ns a s)
    rw [i n x (fun z => by rw [z] at h4'; simp [hd] at h4'), e k y nk.1]
    exact h7 n x k y nk.2
  · rw [i _ _ (by simp), e 12 _ (by decide), e 13 _ (by decide)]; exact h8 c t (hh c hc) t0 t1
  · rw [i n x (fun z => by rw [z] at hx; exact evC_17 (Or.inr (Or.inr rfl)) hx)]; exact h9 n x hx
theorem stD_in {I : Nm → Int → Int} {J : Int → Int → Int} {x j : Int} {a : Nat} (ha : 0 < J 5 (a : Int)) (hj : 0 ≤ j ∧ j < 10) : ∀ k : Nat, a < k → stD I J x k [4, (a : Int), 4] j = w32 (I [4, (a : Int), 4] j + w32 (x * I [4, (a : Int), 3] j))
  | 0, h => absurd h (by omega)
  | k + 1, h => by
    by_cases q : a = k
    · subst q
      rw [show stD I J x (a + 1) = dyI (stD I J x a) [4, (a : Int), 4] [4, (a : Int), 3] x 10 from if_pos ha]
      have e3 : stD I J x a [4, (a : Int), 3] = I [4, (a : Int), 3] := stD_o (fun b => by simp) a
      have e4 : ∀ m : Nat, m ≤ a → stD I J x m [4, (a : Int), 4] = I [4, (a : Int), 4] := by
        intro m
        induction m with
        | zero => intro _; rfl
        | succ m ih =>
          intro hm
          by_cases z : 0 < J 5 (m : Int)
          · rw [show stD I J x (m + 1) = dyI (stD I J x m) [4, (m : Int), 4] [4, (m : Int), 3] x 10 from if_pos z, dyI_ne (by simp; omega)]
            exact ih (by omega)
          · rw [show stD I J x (m + 1) = stD I J x m from if_neg z]
            exact ih (by omega)
      rw [show dyI (stD I J x a) [4, (a : Int), 4] [4, (a : Int), 3] x 10 [4, (a : Int), 4] j = w32 (stD I J x a [4, (a : Int), 4] j + w32 (x * stD I J x a [4, (a : Int), 3] j)) from if_pos ⟨rfl, hj⟩, e3, e4 a (Nat.le_refl _)]
    · have ih := stD_in (I := I) (x := x) ha hj k (by omega)
      by_cases z : 0 < J 5 (k : Int)
      · rw [show stD I J x (k + 1) = dyI (stD I J x k) [4, (k : Int), 4] [4, (k : Int), 3] x 10 from if_pos z, dyI_ne (by simp; omega)]
        exact ih
      · rw [show stD I J x (k + 1) = stD I J x k from if_neg z]
        exact ih
theorem RC.set {J J' : Int → Int → Int} {E : Nm → Int → Int} {ty : Nm → Nat} {ln : Nm → Int} {I I' : Nm → Int → Int} {R : Nm → Int → Option Nm} {x : Int} (h : RC J E ty ln I R) (hR : MR J) (hx : J (-1) 1 ≤ x ∧ x ≤ 10000) (e : ∀ k y, k ≠ -1 → k ≠ 11 → J' k y = J k y) (e11 : ∀ y, 0 ≤ y → y < 100 → J' 11 y = J 11 y + (x - J (-1) 1) * J 10 y) (em : ∀ y, y ≠ 0 → y ≠ 1 → J' (-1) y = J (-1) y) (e1 : J' (-1) 1 = x) (i : ∀ n y, (n ≠ [1] ∨ y ≠ 8) → I' n y = stD I J (x - J (-1) 1) 10 n y) (i8 : I' [1] 8 = x) : RC J' E ty ln I' R := by
  have i' : ∀ n y, (∀ a, n ≠ [4, a, 4]) → (n ≠ [1] ∨ y ≠ 8) → I' n y = I n y := fun n y h1 h2 => by rw [i n y h2, stD_o h1 10]
  have hri := h.ri
  obtain ⟨⟨g1, g2, ⟨v1, v2, v3⟩, g4, g5, g6, g7, g8⟩, h2, h3, h4, h5, h6, h7, h8, h9⟩ := h
  have hh : ∀ c, hsJ J' c → hsJ J c := fun c hc => by unfold hsJ at hc ⊢; rw [e 5 _ (by decide) (by decide)] at hc; exact hc
  have hs : ∀ c s, sgJ J' c s → sgJ J c s := fun c s hc => by unfold sgJ at hc ⊢; rw [e 5 _ (by decide) (by decide), e 20 _ (by decide) (by decide)] at hc; exact hc
  have m2 := em 2 (by decide) (by decide)
  have m3 := em 3 (by decide) (by decide)
  refine ⟨⟨g1, g2, ⟨fun x x0 x1 => ?_, fun x x0 x1 => ?_, fun j x j0 j1 x0 x1 => ?_⟩, ?_, ?_, fun x x0 x1 => ?_, fun c c0 c1 => ?_, ?_⟩, fun c hc => h2 c (hh c hc), fun c hc => ?_, fun c hc => ?_, fun c s hc => h5 c s (hs c s hc), fun c s hc => ?_, fun n y k z hl => ?_, fun c t hc t0 t1 => ?_, fun n y hy => ?_⟩
  · rw [i' _ _ (by simp) (by simp)]; exact v1 x x0 x1
  · rw [i' _ _ (by simp) (by simp)]; exact v2 x x0 x1
  · rw [i' _ _ (by simp) (by simp)]; exact v3 j x j0 j1 x0 x1
  · rw [i' _ _ (by simp) (by simp), i' _ _ (by simp) (by simp), i' _ _ (by simp) (by simp), m2, m3]; exact g4
  · rw [i' _ _ (by simp) (by simp), i' _ _ (by simp) (by simp), i8, em 35 (by decide) (by decide), em 4 (by decide) (by decide), e1]; exact ⟨g5.1, g5.2.1, rfl⟩
  · rw [em 35 (by decide) (by decide)] at x1
    rw [i' _ _ (by simp) (by simp), e 36 _ (by decide) (by decide)]; exact g6 x x0 x1
  · rw [e 5 _ (by decide) (by decide)]; exact g7 c c0 c1
  · rw [m2, m3, em 35 (by decide) (by decide), em 4 (by decide) (by decide), e1]; exact ⟨g8.1, g8.2.1, g8.2.2.1, g8.2.2.2.1, by have := g8.2.2.2.2; omega⟩
  · rw [i' _ _ (by simp) (by simp)]; exact h3 c (hh c hc)
  · rw [i' _ _ (by simp) (by simp), e 20 _ (by decide) (by decide)]; exact h4 c (hh c hc)
  · rw [m2, m3]; exact h6 c s (hs c s hc)
  · have hl' : LK J n y k z := hl.cg (fun x => e 5 x (by decide) (by decide)) (fun x => e 12 x (by decide) (by decide)) (fun x => e 13 x (by decide) (by decide)) (fun x => e 20 x (by decide) (by decide)) (fun x => by
      by_cases q : x = 2
      · rw [q]; exact Or.inl m2
      · by_cases q2 : x = 3
        · rw [q2]; exact Or.inl m3
        · exact Or.inr ⟨q, q2⟩)
    have h4' := hl.hd4
    have nm1 : n ≠ [1] := fun q => by rw [q] at h4'; simp [hd] at h4'
    by_cases q : k = 11
    · subst q
      have hc : ∃ a, hsJ J a ∧ n = [4, a, 4] ∧ (0 ≤ y ∧ y ≤ 9) ∧ z = 10 * a + y := by
        unfold LK at hl'
        rcases hl' with ⟨a, h1, rfl, h3, h4⟩ | ⟨a, b, h1, rfl, h3, h4, h5, h6⟩ | ⟨a, t, h1, rfl, h3, h4, h5, h6⟩ | ⟨a, s, h1, rfl, h3, h4⟩ | ⟨a, s, b, h1, rfl, h3, h4, h5, h6⟩ | ⟨a, s, j, h1, rfl, h3, h4⟩ | ⟨a, s, j, h1, rfl, h3, h4, h5⟩ | ⟨a, s, j, h1, rfl, h3, h4, h5⟩
        · omega
        · obtain rfl : b = 4 := by omega
          exact ⟨a, h1, rfl, h3, h6⟩
        · omega
        · omega
        · omega
        · omega
        · omega
        · omega
      obtain ⟨a, ha, rfl, hy, rfl⟩ := hc
      obtain ⟨an, rfl⟩ : ∃ an : Nat, a = (an : Int) := ⟨a.toNat, by have := ha.1; omega⟩
      have ha9 := ha.1
      have l4 := hri [4, (an : Int), 4] y 11 (10 * an + y) hl'
      have l3 := hri [4, (an : Int), 3] y 10 (10 * an + y) (Or.inr (Or.inl ⟨an, 3, ha, rfl, hy, by decide, by decide, rfl⟩))
      have b11 := hR.k11 (10 * an + y)
      have b10 := hR.k10 (10 * an + y)
      have g81 := g8.2.2.2.2
      have y1 : 0 ≤ (x - J (-1) 1) * J 10 (10 * an + y) := Int.mul_nonneg (by omega) b10.1
      have y2 : (x - J (-1) 1) * J 10 (10 * an + y) ≤ (x - J (-1) 1) * 100 := Int.mul_le_mul_of_nonneg_left b10.2 (by omega)
      rw [i _ _ (Or.inl nm1), stD_in ha.2 (by omega) 10 (by omega), l4, l3, e11 _ (by omega) (by omega), w32_id (x := (x - J (-1) 1) * J 10 (10 * an + y)) (by omega) (by omega), w32_id (by omega) (by omega)]
    · have n4 : ∀ a, n ≠ [4, a, 4] := fun a z' => by
        unfold LK at hl'
        rw [z'] at hl'
        rcases hl' with ⟨a, h1, hn, h3, h4⟩ | ⟨a, b, h1, hn, h3, h4, h5, h6⟩ | ⟨a, t, h1, hn, h3, h4, h5, h6⟩ | ⟨a, s, h1, hn, h3, h4⟩ | ⟨a, s, b, h1, hn, h3, h4, h5, h6⟩ | ⟨a, s, j, h1, hn, h3, h4⟩ | ⟨a, s, j, h1, hn, h3, h4, h5⟩ | ⟨a, s, j, h1, hn, h3, h4, h5⟩ <;> simp at hn <;> omega
      have k1 : k ≠ -1 := fun z' => by
        subst z'
        unfold LK at hl'
        rcases hl' with ⟨a, h1, rfl, h3, h4⟩ | ⟨a, b, h1, rfl, h3, h4, h5, h6⟩ | ⟨a, t, h1, rfl, h3, h4, h5, h6⟩ | ⟨a, s, h1, rfl, h3, h4⟩ | ⟨a, s, b, h1, rfl, h3, h4, h5, h6⟩ | ⟨a, s, j, h1, rfl, h3, h4⟩ | ⟨a, s, j, h1, rfl, h3, h4, h5⟩ | ⟨a, s, j, h1, rfl, h3, h4, h5⟩ <;> omega
      rw [i' n y n4 (Or.inl nm1), e k z k1 q]
      exact hri n y k z hl'
  · rw [i' _ _ (by simp) (by simp), e 12 _ (by decide) (by decide), e 13 _ (by decide) (by decide)]; exact h8 c t (hh c hc) t0 t1
  · have n1 : n ≠ [1] := fun z => by rw [z] at hy; exact evC_17 (Or.inl rfl) hy
    have n4 : ∀ a, n ≠ [4, a, 4] := fun a z => by
      rw [z] at hy
      unfold evC at hy
      rcases hy with g | ⟨a', k', l', g, g'⟩ | ⟨a', g⟩ | ⟨a', g, g'⟩ | ⟨a', s', g, g'⟩ <;> simp [hd] at g <;> omega
    rw [i' n y n4 (Or.inl n1)]; exact h9 n y hy
