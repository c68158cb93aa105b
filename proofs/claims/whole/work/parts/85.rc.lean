/-! ===== class and reference side by side, with the houses ===== -/
abbrev hsJ (J : Int → Int → Int) (a : Int) : Prop := (0 ≤ a ∧ a ≤ 9) ∧ 0 < J 5 a
abbrev sgJ (J : Int → Int → Int) (a s : Int) : Prop := ((0 ≤ a ∧ a ≤ 9) ∧ 0 < J 5 a) ∧ 0 ≤ s ∧ s < 40 ∧ s < J 20 a
abbrev piJ (J : Int → Int → Int) (a s j : Int) : Prop := (((0 ≤ a ∧ a ≤ 9) ∧ 0 < J 5 a) ∧ 0 ≤ s ∧ s < 40 ∧ s < J 20 a) ∧ 0 ≤ j ∧ j < 12 ∧ j < J (-1) 3
/-- word x of the class's object n is word y of the reference's array k -/
def LK (J : Int → Int → Int) (n : Nm) (x k y : Int) : Prop :=
  (∃ a, hsJ J a ∧ n = [4, a] ∧ y = a ∧ ((x = 1 ∧ k = 5) ∨ (x = 11 ∧ k = 6) ∨ (x = 12 ∧ k = 7) ∨ (x = 13 ∧ k = 8)))
  ∨ (∃ a b, hsJ J a ∧ n = [4, a, b] ∧ (0 ≤ x ∧ x ≤ 9) ∧ (2 ≤ b ∧ b ≤ 4) ∧ k = b + 7 ∧ y = 10 * a + x)
  ∨ (∃ a t, hsJ J a ∧ n = [4, a, 5, t] ∧ (0 ≤ t ∧ t ≤ 9) ∧ (0 ≤ x ∧ x < 200 ∧ x < J 13 (10 * a + t) ∧ J 12 (10 * a + t) ≠ 0) ∧ k = 14 ∧ y = 200 * (10 * a + t) + x)
  ∨ (∃ a s, sgJ J a s ∧ n = [4, a, 8, s] ∧ y = 40 * a + s ∧ ((x = 3 ∧ k = 22) ∨ (x = 4 ∧ k = 21)))
  ∨ (∃ a s b, sgJ J a s ∧ n = [4, a, 8, s, b] ∧ (0 ≤ x ∧ x < 60) ∧ (b = 0 ∨ b = 1) ∧ k = b + 23 ∧ y = 60 * (40 * a + s) + x)
  ∨ (∃ a s j, piJ J a s j ∧ n = [4, a, 8, s, 3, j] ∧ y = 12 * (40 * a + s) + j ∧ ((x = 2 ∧ k = 25) ∨ (x = 3 ∧ k = 26) ∨ (x = 4 ∧ k = 28)))
  ∨ (∃ a s j, piJ J a s j ∧ n = [4, a, 8, s, 3, j, 0] ∧ (0 ≤ x ∧ x < 30 ∧ x < 60 / J (-1) 2) ∧ k = 27 ∧ y = 30 * (12 * (40 * a + s) + j) + x)
  ∨ (∃ a s j, piJ J a s j ∧ n = [4, a, 8, s, 3, j, 1] ∧ (0 ≤ x ∧ x < 8) ∧ k = 29 ∧ y = 8 * (12 * (40 * a + s) + j) + x)
theorem LK.cg {J J' : Int → Int → Int} {n : Nm} {x k y : Int} (e1 : ∀ x, J' 5 x = J 5 x) (e2 : ∀ x, J' 12 x = J 12 x) (e3 : ∀ x, J' 13 x = J 13 x) (e4 : ∀ x, J' 20 x = J 20 x) (e5 : ∀ x, J' (-1) x = J (-1) x ∨ (x ≠ 2 ∧ x ≠ 3)) (h : LK J' n x k y) : LK J n x k y := by
  have e6 : J' (-1) 2 = J (-1) 2 := (e5 2).elim id (fun z => absurd rfl z.1)
  have e7 : J' (-1) 3 = J (-1) 3 := (e5 3).elim id (fun z => absurd rfl z.2)
  unfold LK hsJ sgJ piJ at h ⊢
  simp only [e1, e2, e3, e4, e6, e7] at h
  exact h
theorem LK.inj {J : Int → Int → Int} {n n' : Nm} {x x' k y : Int} (h : LK J n x k y) (h' : LK J n' x' k y) : n = n' ∧ x = x' := by
  unfold LK at h h'
  rcases h with ⟨a, h1, rfl, h3, h4⟩ | ⟨a, b, h1, rfl, h3, h4, h5, h6⟩ | ⟨a, t, h1, rfl, h3, h4, h5, h6⟩ | ⟨a, s, h1, rfl, h3, h4⟩ | ⟨a, s, b, h1, rfl, h3, h4, h5, h6⟩ | ⟨a, s, j, h1, rfl, h3, h4⟩ | ⟨a, s, j, h1, rfl, h3, h4, h5⟩ | ⟨a, s, j, h1, rfl, h3, h4, h5⟩
  · rcases h' with ⟨a', g1, rfl, g3, g4⟩ | ⟨a', b', g1, rfl, g3, g4, g5, g6⟩ | ⟨a', t', g1, rfl, g3, g4, g5, g6⟩ | ⟨a', s', g1, rfl, g3, g4⟩ | ⟨a', s', b', g1, rfl, g3, g4, g5, g6⟩ | ⟨a', s', j', g1, rfl, g3, g4⟩ | ⟨a', s', j', g1, rfl, g3, g4, g5⟩ | ⟨a', s', j', g1, rfl, g3, g4, g5⟩ <;> first | omega | (have := h3.symm.trans g3; subst this; exact ⟨rfl, by omega⟩)
  · rcases h' with ⟨a', g1, rfl, g3, g4⟩ | ⟨a', b', g1, rfl, g3, g4, g5, g6⟩ | ⟨a', t', g1, rfl, g3, g4, g5, g6⟩ | ⟨a', s', g1, rfl, g3, g4⟩ | ⟨a', s', b', g1, rfl, g3, g4, g5, g6⟩ | ⟨a', s', j', g1, rfl, g3, g4⟩ | ⟨a', s', j', g1, rfl, g3, g4, g5⟩ | ⟨a', s', j', g1, rfl, g3, g4, g5⟩ <;> first | omega | (obtain rfl : a = a' := (by omega); obtain rfl : b = b' := (by omega); exact ⟨rfl, (by omega)⟩)
  · rcases h' with ⟨a', g1, rfl, g3, g4⟩ | ⟨a', b', g1, rfl, g3, g4, g5, g6⟩ | ⟨a', t', g1, rfl, g3, g4, g5, g6⟩ | ⟨a', s', g1, rfl, g3, g4⟩ | ⟨a', s', b', g1, rfl, g3, g4, g5, g6⟩ | ⟨a', s', j', g1, rfl, g3, g4⟩ | ⟨a', s', j', g1, rfl, g3, g4, g5⟩ | ⟨a', s', j', g1, rfl, g3, g4, g5⟩ <;> first | omega | (obtain rfl : a = a' := (by omega); obtain rfl : t = t' := (by omega); exact ⟨rfl, (by omega)⟩)
  · rcases h' with ⟨a', g1, rfl, g3, g4⟩ | ⟨a', b', g1, rfl, g3, g4, g5, g6⟩ | ⟨a', t', g1, rfl, g3, g4, g5, g6⟩ | ⟨a', s', g1, rfl, g3, g4⟩ | ⟨a', s', b', g1, rfl, g3, g4, g5, g6⟩ | ⟨a', s', j', g1, rfl, g3, g4⟩ | ⟨a', s', j', g1, rfl, g3, g4, g5⟩ | ⟨a', s', j', g1, rfl, g3, g4, g5⟩ <;> first | omega | (obtain rfl : a = a' := (by omega); obtain rfl : s = s' := (by omega); exact ⟨rfl, (by omega)⟩)
  · rcases h' with ⟨a', g1, rfl, g3, g4⟩ | ⟨a', b', g1, rfl, g3, g4, g5, g6⟩ | ⟨a', t', g1, rfl, g3, g4, g5, g6⟩ | ⟨a', s', g1, rfl, g3, g4⟩ | ⟨a', s', b', g1, rfl, g3, g4, g5, g6⟩ | ⟨a', s', j', g1, rfl, g3, g4⟩ | ⟨a', s', j', g1, rfl, g3, g4, g5⟩ | ⟨a', s', j', g1, rfl, g3, g4, g5⟩ <;> first | omega | (obtain rfl : a = a' := (by omega); obtain rfl : s = s' := (by omega); obtain rfl : b = b' := (by omega); exact ⟨rfl, (by omega)⟩)
  · rcases h' with ⟨a', g1, rfl, g3, g4⟩ | ⟨a', b', g1, rfl, g3, g4, g5, g6⟩ | ⟨a', t', g1, rfl, g3, g4, g5, g6⟩ | ⟨a', s', g1, rfl, g3, g4⟩ | ⟨a', s', b', g1, rfl, g3, g4, g5, g6⟩ | ⟨a', s', j', g1, rfl, g3, g4⟩ | ⟨a', s', j', g1, rfl, g3, g4, g5⟩ | ⟨a', s', j', g1, rfl, g3, g4, g5⟩ <;> first | omega | (obtain rfl : a = a' := (by omega); obtain rfl : s = s' := (by omega); obtain rfl : j = j' := (by omega); exact ⟨rfl, (by omega)⟩)
  · rcases h' with ⟨a', g1, rfl, g3, g4⟩ | ⟨a', b', g1, rfl, g3, g4, g5, g6⟩ | ⟨a', t', g1, rfl, g3, g4, g5, g6⟩ | ⟨a', s', g1, rfl, g3, g4⟩ | ⟨a', s', b', g1, rfl, g3, g4, g5, g6⟩ | ⟨a', s', j', g1, rfl, g3, g4⟩ | ⟨a', s', j', g1, rfl, g3, g4, g5⟩ | ⟨a', s', j', g1, rfl, g3, g4, g5⟩ <;> first | omega | (obtain rfl : a = a' := (by omega); obtain rfl : s = s' := (by omega); obtain rfl : j = j' := (by omega); exact ⟨rfl, (by omega)⟩)
  · rcases h' with ⟨a', g1, rfl, g3, g4⟩ | ⟨a', b', g1, rfl, g3, g4, g5, g6⟩ | ⟨a', t', g1, rfl, g3, g4, g5, g6⟩ | ⟨a', s', g1, rfl, g3, g4⟩ | ⟨a', s', b', g1, rfl, g3, g4, g5, g6⟩ | ⟨a', s', j', g1, rfl, g3, g4⟩ | ⟨a', s', j', g1, rfl, g3, g4, g5⟩ | ⟨a', s', j', g1, rfl, g3, g4, g5⟩ <;> first | omega | (obtain rfl : a = a' := (by omega); obtain rfl : s = s' := (by omega); obtain rfl : j = j' := (by omega); exact ⟨rfl, (by omega)⟩)
theorem LK.fn {J : Int → Int → Int} {n : Nm} {x k k' y y' : Int} (h : LK J n x k y) (h' : LK J n x k' y') : k = k' ∧ y = y' := by
  unfold LK at h h'
  rcases h with ⟨a, h1, rfl, h3, h4⟩ | ⟨a, b, h1, rfl, h3, h4, h5, h6⟩ | ⟨a, t, h1, rfl, h3, h4, h5, h6⟩ | ⟨a, s, h1, rfl, h3, h4⟩ | ⟨a, s, b, h1, rfl, h3, h4, h5, h6⟩ | ⟨a, s, j, h1, rfl, h3, h4⟩ | ⟨a, s, j, h1, rfl, h3, h4, h5⟩ | ⟨a, s, j, h1, rfl, h3, h4, h5⟩ <;>
  rcases h' with ⟨a', g1, gn, g3, g4⟩ | ⟨a', b', g1, gn, g3, g4, g5, g6⟩ | ⟨a', t', g1, gn, g3, g4, g5, g6⟩ | ⟨a', s', g1, gn, g3, g4⟩ | ⟨a', s', b', g1, gn, g3, g4, g5, g6⟩ | ⟨a', s', j', g1, gn, g3, g4⟩ | ⟨a', s', j', g1, gn, g3, g4, g5⟩ | ⟨a', s', j', g1, gn, g3, g4, g5⟩ <;>
  simp only [List.cons.injEq, true_and, and_true, reduceCtorEq, and_false] at gn <;> omega
/-- cells that the chunks, lists and snapshots have, and what is not the class's -/
def evC (n : Nm) (x : Int) : Prop := (hd n = 2 ∨ hd n = 3 ∨ hd n = -3 ∨ hd n = 18 ∨ hd n = 12) ∨ (∃ a k l, n = 4 :: a :: k :: l ∧ (k = 7 ∨ k = 9)) ∨ (∃ a, n = [4, a, 8]) ∨ (∃ a, n = [4, a] ∧ x = 10) ∨ (∃ a s, n = [4, a, 8, s] ∧ x = 5)
theorem LK.hd4 {J : Int → Int → Int} {n : Nm} {x k y : Int} (h : LK J n x k y) : hd n = 4 := by
  unfold LK at h
  rcases h with ⟨a, h1, rfl, h3, h4⟩ | ⟨a, b, h1, rfl, h3, h4, h5, h6⟩ | ⟨a, t, h1, rfl, h3, h4, h5, h6⟩ | ⟨a, s, h1, rfl, h3, h4⟩ | ⟨a, s, b, h1, rfl, h3, h4, h5, h6⟩ | ⟨a, s, j, h1, rfl, h3, h4⟩ | ⟨a, s, j, h1, rfl, h3, h4, h5⟩ | ⟨a, s, j, h1, rfl, h3, h4, h5⟩ <;> rfl
theorem LK.nev {J : Int → Int → Int} {n : Nm} {x k y : Int} (h : LK J n x k y) : ¬ evC n x := by
  have h4 := h.hd4
  unfold LK at h
  intro g
  rcases g with g | g
  · omega
  · clear h4
    rcases h with ⟨a, h1, rfl, h3, h4⟩ | ⟨a, b, h1, rfl, h3, h4, h5, h6⟩ | ⟨a, t, h1, rfl, h3, h4, h5, h6⟩ | ⟨a, s, h1, rfl, h3, h4⟩ | ⟨a, s, b, h1, rfl, h3, h4, h5, h6⟩ | ⟨a, s, j, h1, rfl, h3, h4⟩ | ⟨a, s, j, h1, rfl, h3, h4, h5⟩ | ⟨a, s, j, h1, rfl, h3, h4, h5⟩ <;>
    rcases g with ⟨a', k', l', g, g'⟩ | ⟨a', g⟩ | ⟨a', g, g'⟩ | ⟨a', s', g, g'⟩ <;>
    simp only [List.cons.injEq, true_and, and_true, reduceCtorEq, and_false] at g <;> omega
theorem LK.n6 {J : Int → Int → Int} {n : Nm} {x k y : Int} (h : LK J n x k y) : (∀ a, n ≠ [4, a, 6]) ∧ ¬ (∃ a, n = [4, a] ∧ x = 0) := by
  unfold LK at h
  refine ⟨fun a' g => ?_, fun ⟨a', g, g'⟩ => ?_⟩ <;>
  rcases h with ⟨a, h1, rfl, h3, h4⟩ | ⟨a, b, h1, rfl, h3, h4, h5, h6⟩ | ⟨a, t, h1, rfl, h3, h4, h5, h6⟩ | ⟨a, s, h1, rfl, h3, h4⟩ | ⟨a, s, b, h1, rfl, h3, h4, h5, h6⟩ | ⟨a, s, j, h1, rfl, h3, h4⟩ | ⟨a, s, j, h1, rfl, h3, h4, h5⟩ | ⟨a, s, j, h1, rfl, h3, h4, h5⟩ <;>
  simp only [List.cons.injEq, true_and, and_true, reduceCtorEq, and_false] at g <;> omega
def RI (J : Int → Int → Int) (I : Nm → Int → Int) : Prop := ∀ n x k y, LK J n x k y → I n x = J k y
/-- a segment of n pieces of l bytes -/
def SG (ty : Nm → Nat) (ln : Nm → Int) (R : Nm → Int → Option Nm) (a s n l : Int) : Prop :=
  ty [4, a, 8, s] = 107 ∧ (R [4, a, 8, s] 0 = some [4, a, 8, s, 0] ∧ ty [4, a, 8, s, 0] = 1 ∧ ln [4, a, 8, s, 0] = 60) ∧ (R [4, a, 8, s] 1 = some [4, a, 8, s, 1] ∧ ty [4, a, 8, s, 1] = 1 ∧ ln [4, a, 8, s, 1] = 60) ∧ (R [4, a, 8, s] 2 = some [4, a, 8, s, 2] ∧ ty [4, a, 8, s, 2] = 7 ∧ ln [4, a, 8, s, 2] = n) ∧ (∀ j : Int, 0 ≤ j → j < n → R [4, a, 8, s, 2] j = some [4, a, 8, s, 3, j] ∧ ty [4, a, 8, s, 3, j] = 106 ∧ (R [4, a, 8, s, 3, j] 0 = some [4, a, 8, s, 3, j, 0] ∧ ty [4, a, 8, s, 3, j, 0] = 1 ∧ ln [4, a, 8, s, 3, j, 0] = l) ∧ (R [4, a, 8, s, 3, j] 1 = some [4, a, 8, s, 3, j, 1] ∧ ty [4, a, 8, s, 3, j, 1] = 1 ∧ ln [4, a, 8, s, 3, j, 1] = 8))
/-- the row of a list -/
def la (R : Nm → Int → Option Nm) (a k : Int) : Nm := (R [4, a, k] 0).getD nE
def LsR (ty : Nm → Nat) (ln : Nm → Int) (R : Nm → Int → Option Nm) (a k n : Int) : Prop := R [4, a, k] 0 = some (la R a k) ∧ (0 < n → ty (la R a k) = 8) ∧ n ≤ ln (la R a k)
abbrev RC (J : Int → Int → Int) (E : Nm → Int → Int) (ty : Nm → Nat) (ln : Nm → Int) (I : Nm → Int → Int) (R : Nm → Int → Option Nm) : Prop :=
  (RG J ty ln I R) ∧
  (∀ a, hsJ J a → HS ty ln R a) ∧
  (∀ a, hsJ J a → I [4, a] 0 = a) ∧
  (∀ a, hsJ J a → I [4, a, 8] 1 = J 20 a ∧ 0 ≤ J 20 a ∧ J 20 a ≤ 40 ∧ LsR ty ln R a 8 (J 20 a)) ∧
  (∀ a s, sgJ J a s → R (la R a 8) s = some [4, a, 8, s]) ∧
  (∀ a s, sgJ J a s → SG ty ln R a s (J (-1) 3) (60 / J (-1) 2)) ∧
  (RI J I) ∧
  (∀ a t, hsJ J a → 0 ≤ t → t ≤ 9 → I [4, a, 6] t = if J 12 (10 * a + t) = 0 then -1 else J 13 (10 * a + t)) ∧
  (∀ n x, evC n x → I n x = E n x)
theorem RC.g {J : Int → Int → Int} {E : Nm → Int → Int} {ty : Nm → Nat} {ln : Nm → Int} {I : Nm → Int → Int} {R : Nm → Int → Option Nm} (h : RC J E ty ln I R) : RG J ty ln I R := h.1
theorem RC.hs {J : Int → Int → Int} {E : Nm → Int → Int} {ty : Nm → Nat} {ln : Nm → Int} {I : Nm → Int → Int} {R : Nm → Int → Option Nm} (h : RC J E ty ln I R) : ∀ a, hsJ J a → HS ty ln R a := h.2.1
theorem RC.nm {J : Int → Int → Int} {E : Nm → Int → Int} {ty : Nm → Nat} {ln : Nm → Int} {I : Nm → Int → Int} {R : Nm → Int → Option Nm} (h : RC J E ty ln I R) : ∀ a, hsJ J a → I [4, a] 0 = a := h.2.2.1
theorem RC.sn {J : Int → Int → Int} {E : Nm → Int → Int} {ty : Nm → Nat} {ln : Nm → Int} {I : Nm → Int → Int} {R : Nm → Int → Option Nm} (h : RC J E ty ln I R) : ∀ a, hsJ J a → I [4, a, 8] 1 = J 20 a ∧ 0 ≤ J 20 a ∧ J 20 a ≤ 40 ∧ LsR ty ln R a 8 (J 20 a) := h.2.2.2.1
theorem RC.sr {J : Int → Int → Int} {E : Nm → Int → Int} {ty : Nm → Nat} {ln : Nm → Int} {I : Nm → Int → Int} {R : Nm → Int → Option Nm} (h : RC J E ty ln I R) : ∀ a s, sgJ J a s → R (la R a 8) s = some [4, a, 8, s] := h.2.2.2.2.1
theorem RC.sg {J : Int → Int → Int} {E : Nm → Int → Int} {ty : Nm → Nat} {ln : Nm → Int} {I : Nm → Int → Int} {R : Nm → Int → Option Nm} (h : RC J E ty ln I R) : ∀ a s, sgJ J a s → SG ty ln R a s (J (-1) 3) (60 / J (-1) 2) := h.2.2.2.2.2.1
theorem RC.ri {J : Int → Int → Int} {E : Nm → Int → Int} {ty : Nm → Nat} {ln : Nm → Int} {I : Nm → Int → Int} {R : Nm → Int → Option Nm} (h : RC J E ty ln I R) : RI J I := h.2.2.2.2.2.2.1
theorem RC.rf {J : Int → Int → Int} {E : Nm → Int → Int} {ty : Nm → Nat} {ln : Nm → Int} {I : Nm → Int → Int} {R : Nm → Int → Option Nm} (h : RC J E ty ln I R) : ∀ a t, hsJ J a → 0 ≤ t → t ≤ 9 → I [4, a, 6] t = if J 12 (10 * a + t) = 0 then -1 else J 13 (10 * a + t) := h.2.2.2.2.2.2.2.1
theorem RC.ev {J : Int → Int → Int} {E : Nm → Int → Int} {ty : Nm → Nat} {ln : Nm → Int} {I : Nm → Int → Int} {R : Nm → Int → Option Nm} (h : RC J E ty ln I R) : ∀ n x, evC n x → I n x = E n x := h.2.2.2.2.2.2.2.2
theorem RG.cg {J J' : Int → Int → Int} {ty : Nm → Nat} {ln : Nm → Int} {I I' : Nm → Int → Int} {R : Nm → Int → Option Nm} (h : RG J ty ln I R) (e1 : ∀ n, hd n = 1 ∨ hd n = 17 → n ≠ [1, 4] → n ≠ [1, 5] → (∀ r, n ≠ [17, 2, r]) → ∀ x, n ≠ [17] ∨ x ≠ 6 → I' n x = I n x) (j1 : ∀ x, x ≠ 0 → x ≠ 30 → J' (-1) x = J (-1) x) (j5 : ∀ x, J' 5 x = J 5 x) (j6 : ∀ x, J' 36 x = J 36 x) : RG J' ty ln I' R := by
  obtain ⟨h1, h2, h3, h4, h5, h6, h7, h8⟩ := h
  unfold RG CV
  have f17 : ∀ x, x ≠ 6 → I' [17] x = I [17] x := fun x hx => e1 _ (Or.inr rfl) (by decide) (by decide) (by simp) x (Or.inr hx)
  have f1 : ∀ x, I' [1] x = I [1] x := fun x => e1 _ (Or.inl rfl) (by decide) (by decide) (by simp) x (Or.inl (by decide))
  have f13 : ∀ x, I' [1, 3] x = I [1, 3] x := fun x => e1 _ (Or.inl rfl) (by decide) (by decide) (by simp) x (Or.inl (by decide))
  have a1 : ∀ x, I' [17, 0, 0] x = I [17, 0, 0] x := fun x => e1 _ (Or.inr rfl) (by decide) (by decide) (by simp) x (Or.inl (by decide))
  have a2 : ∀ x, I' [17, 0, 1] x = I [17, 0, 1] x := fun x => e1 _ (Or.inr rfl) (by decide) (by decide) (by simp) x (Or.inl (by decide))
  have a3 : ∀ j x, I' [17, 1, j] x = I [17, 1, j] x := fun j x => e1 _ (Or.inr rfl) (by simp) (by simp) (by simp) x (Or.inl (by simp))
  simp only [f17 3 (by decide), f17 4 (by decide), f17 5 (by decide), f1, f13, a1, a2, a3, j1 2 (by decide) (by decide), j1 3 (by decide) (by decide), j1 35 (by decide) (by decide), j1 4 (by decide) (by decide), j1 1 (by decide) (by decide), j5, j6]
  exact ⟨h1, h2, h3, h4, h5, h6, h7, h8⟩
/-- a general step: the reference's words J to J', the class's I to I' -/
theorem RC.step {J J' : Int → Int → Int} {E : Nm → Int → Int} {ty : Nm → Nat} {ln : Nm → Int} {I I' : Nm → Int → Int} {R : Nm → Int → Option Nm} (h : RC J E ty ln I R)
    (j : ∀ k x, k = 5 ∨ k = 12 ∨ k = 13 ∨ k = 20 ∨ k = 36 → J' k x = J k x) (jm : ∀ x, x ≠ 0 → x ≠ 30 → J' (-1) x = J (-1) x)
    (i1 : ∀ n, hd n = 1 ∨ hd n = 17 → n ≠ [1, 4] → n ≠ [1, 5] → (∀ r, n ≠ [17, 2, r]) → ∀ x, n ≠ [17] ∨ x ≠ 6 → I' n x = I n x)
    (i2 : ∀ n x, evC n x → I' n x = I n x) (i3 : ∀ a x, I' [4, a, 6] x = I [4, a, 6] x) (i4 : ∀ a, I' [4, a] 0 = I [4, a] 0)
    (i5 : ∀ n x k y, LK J n x k y → (I' n x = I n x ∧ J' k y = J k y) ∨ I' n x = J' k y) : RC J' E ty ln I' R := by
  have j5 : ∀ x, J' 5 x = J 5 x := fun x => j 5 x (Or.inl rfl)
  have j12 : ∀ x, J' 12 x = J 12 x := fun x => j 12 x (by omega)
  have j13 : ∀ x, J' 13 x = J 13 x := fun x => j 13 x (by omega)
  have j20 : ∀ x, J' 20 x = J 20 x := fun x => j 20 x (by omega)
  have j36 : ∀ x, J' 36 x = J 36 x := fun x => j 36 x (by omega)
  have m2 := jm 2 (by decide) (by decide)
  have m3 := jm 3 (by decide) (by decide)
  refine ⟨h.g.cg i1 jm j5 j36, ?_, ?_, ?_, ?_, ?_, ?_, ?_, ?_⟩
  · intro a ha; rw [hsJ, j5] at ha; exact h.hs a ha
  · intro a ha; rw [hsJ, j5] at ha; rw [i4]; exact h.nm a ha
  · intro a ha; rw [hsJ, j5] at ha; rw [i2 _ _ (Or.inr (Or.inr (Or.inl ⟨a, rfl⟩))), j20]; exact h.sn a ha
  · intro a s ha; rw [sgJ, j5, j20] at ha; exact h.sr a s ha
  · intro a s ha; rw [sgJ, j5, j20] at ha; rw [m2, m3]; exact h.sg a s ha
  · intro n x k y hl
    have hl' : LK J n x k y := hl.cg j5 j12 j13 j20 (fun x => by
      by_cases q : x = 2
      · rw [q]; exact Or.inl m2
      · by_cases q2 : x = 3
        · rw [q2]; exact Or.inl m3
        · exact Or.inr ⟨q, q2⟩)
    rcases i5 n x k y hl' with ⟨e1, e2⟩ | e
    · rw [e1, e2]; exact h.ri n x k y hl'
    · exact e
  · intro a t ha t0 t1; rw [hsJ, j5] at ha; rw [i3, j12, j13]; exact h.rf a t ha t0 t1
  · intro n x hn; rw [i2 n x hn]; exact h.ev n x hn
/-- one word on both sides -/
theorem RC.up {J : Int → Int → Int} {E : Nm → Int → Int} {ty : Nm → Nat} {ln : Nm → Int} {I : Nm → Int → Int} {R : Nm → Int → Option Nm} {n : Nm} {x k y v : Int} (h : RC J E ty ln I R) (hl : LK J n x k y) (hk : k ≠ 5) : RC (uJ J k y v) E ty ln (up2 I n x v) R := by
  have h4 := hl.hd4
  have hkk : k ≠ -1 ∧ k ≠ 12 ∧ k ≠ 13 ∧ k ≠ 20 ∧ k ≠ 36 := by
    unfold LK at hl
    rcases hl with ⟨a, h1, rfl, h3, h4⟩ | ⟨a, b, h1, rfl, h3, h4, h5, h6⟩ | ⟨a, t, h1, rfl, h3, h4, h5, h6⟩ | ⟨a, s, h1, rfl, h3, h4⟩ | ⟨a, s, b, h1, rfl, h3, h4, h5, h6⟩ | ⟨a, s, j, h1, rfl, h3, h4⟩ | ⟨a, s, j, h1, rfl, h3, h4, h5⟩ | ⟨a, s, j, h1, rfl, h3, h4, h5⟩ <;> omega
  refine h.step (fun k' x' hk' => by rw [uJ_ne (by omega)]) (fun x' _ _ => by rw [uJ_ne (by omega)]) (fun n' hn _ _ _ x' _ => by rw [up2_ne (fun e => by rw [e, h4] at hn; omega)]) (fun n' x' hn => ?_) (fun a x' => by rw [up2_ne (fun e => hl.n6.1 a e.symm)]) (fun a => ?_) (fun n' x' k' y' hl' => ?_)
  · by_cases q : n' = n
    · subst q
      rw [up2_self, upI_ne]
      intro e; subst e; exact hl.nev hn
    · rw [up2_ne q]
  · by_cases q : [4, a] = n
    · rw [← q, up2_self, upI_ne]
      intro e; exact hl.n6.2 ⟨a, q.symm, e.symm⟩
    · rw [up2_ne q]
  · by_cases q : k' = k ∧ y' = y
    · obtain ⟨rfl, rfl⟩ := q
      obtain ⟨rfl, rfl⟩ := hl.inj hl'
      right
      rw [up2_self, upI_self, uJ_self, upI_self]
    · left
      constructor
      · by_cases z : n' = n
        · subst z
          rw [up2_self, upI_ne]
          intro e; subst e; exact q ⟨(hl'.fn hl).1, (hl'.fn hl).2⟩
        · rw [up2_ne z]
      · by_cases z : k' = k
        · subst z
          rw [uJ_self, upI_ne]
          intro e; exact q ⟨rfl, e⟩
        · rw [uJ_ne z]
