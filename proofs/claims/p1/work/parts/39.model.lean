/-! ===== the reference's state ===== -/
/-- the reference's words (-1: its own fields, k: its array k) laid over the others -/
def pJ (I : Nm → Int → Int) (J : Int → Int → Int) : Nm → Int → Int := fun n => match n with
  | [a] => if a = 2 then J (-1) else I n
  | [a, k] => if a = 3 ∧ k ≠ -1 then J k else I n
  | _ => I n
def uJ (J : Int → Int → Int) (k j v : Int) : Int → Int → Int := fun k' => if k' = k then upI (J k) j v else J k'
theorem uJ_self {J : Int → Int → Int} {k j v : Int} : uJ J k j v k = upI (J k) j v := if_pos rfl
theorem uJ_ne {J : Int → Int → Int} {k j v k' : Int} (h : k' ≠ k) : uJ J k j v k' = J k' := if_neg h
theorem pJ_m {I : Nm → Int → Int} {J : Int → Int → Int} : pJ I J [2] = J (-1) := by
  show (if (2 : Int) = 2 then J (-1) else I [2]) = J (-1)
  exact if_pos rfl
theorem pJ_a {I : Nm → Int → Int} {J : Int → Int → Int} {k : Int} (h : k ≠ -1) : pJ I J [3, k] = J k := if_pos ⟨rfl, h⟩
theorem up_m {I : Nm → Int → Int} {J : Int → Int → Int} {j v : Int} : up2 (pJ I J) [2] j v = pJ I (uJ J (-1) j v) := by
  funext n
  unfold up2
  by_cases hn : n = [2]
  · subst hn
    rw [upN_self, pJ_m, pJ_m, uJ_self]
  · rw [upN_ne _ _ hn]
    match n, hn with
    | [], _ => rfl
    | [a], hn =>
      have : a ≠ 2 := fun e => hn (by rw [e])
      show (if a = 2 then _ else _) = (if a = 2 then _ else _)
      rw [if_neg this, if_neg this]
    | [a, k], _ =>
      show (if a = 3 ∧ k ≠ -1 then _ else _) = (if a = 3 ∧ k ≠ -1 then _ else _)
      by_cases q : a = 3 ∧ k ≠ -1
      · rw [if_pos q, if_pos q, uJ_ne q.2]
      · rw [if_neg q, if_neg q]
    | _ :: _ :: _ :: _, _ => rfl
theorem up_a {I : Nm → Int → Int} {J : Int → Int → Int} {k j v : Int} (h : k ≠ -1) : up2 (pJ I J) [3, k] j v = pJ I (uJ J k j v) := by
  funext n
  unfold up2
  by_cases hn : n = [3, k]
  · subst hn
    rw [upN_self, pJ_a h, pJ_a h, uJ_self]
  · rw [upN_ne _ _ hn]
    match n, hn with
    | [], _ => rfl
    | [a], _ =>
      show (if a = 2 then _ else _) = (if a = 2 then _ else _)
      rw [uJ_ne (Ne.symm h)]
    | [a, b], hn =>
      show (if a = 3 ∧ b ≠ -1 then _ else _) = (if a = 3 ∧ b ≠ -1 then _ else _)
      by_cases q : a = 3 ∧ b ≠ -1
      · rw [if_pos q, if_pos q, uJ_ne (fun e => hn (by rw [q.1, e]))]
      · rw [if_neg q, if_neg q]
    | _ :: _ :: _ :: _, _ => rfl
/-- any row of the reference's put anew -/
theorem pJ_ext {I I' : Nm → Int → Int} {J : Int → Int → Int} (h : ∀ n, n ≠ [2] → (∀ k, n ≠ [3, k]) → I n = I' n) (h2 : ∀ k, k ≠ -1 → True) : (∀ k, I [3, k] = I' [3, k]) → pJ I J = pJ I' J := by
  intro h3
  funext n
  match n with
  | [] => exact h [] (by simp) (by simp)
  | [a] =>
    show (if a = 2 then _ else _) = (if a = 2 then _ else _)
    by_cases q : a = 2
    · rw [if_pos q, if_pos q]
    · rw [if_neg q, if_neg q]; exact h [a] (fun e => q (List.head_eq_of_cons_eq e)) (by simp)
  | [a, b] =>
    show (if a = 3 ∧ b ≠ -1 then _ else _) = (if a = 3 ∧ b ≠ -1 then _ else _)
    by_cases q : a = 3 ∧ b ≠ -1
    · rw [if_pos q, if_pos q]
    · rw [if_neg q, if_neg q]
      by_cases q3 : a = 3
      · rw [q3]; exact h3 b
      · exact h [a, b] (by simp) (fun k e => q3 (List.head_eq_of_cons_eq e))
  | a :: b :: c :: l => exact h _ (by simp) (by simp)

def mK (k : Int) : Nat := if k = 6 ∨ k = 7 ∨ k = 8 ∨ k = 12 ∨ k = 21 ∨ k = 22 ∨ k = 26 then 2 else 1
def mL (k : Int) : Int := if k = 5 then 10 else if k = 6 then 10 else if k = 7 then 10 else if k = 8 then 10 else if k = 9 then 100 else if k = 10 then 100 else if k = 11 then 100 else if k = 12 then 100 else if k = 13 then 100 else if k = 14 then 20000 else if k = 15 then 10 else if k = 16 then 60 else if k = 17 then 600 else if k = 18 then 30000 else if k = 19 then 30000 else if k = 20 then 10 else if k = 21 then 400 else if k = 22 then 400 else if k = 23 then 24000 else if k = 24 then 24000 else if k = 25 then 4800 else if k = 26 then 4800 else if k = 27 then 144000 else if k = 28 then 4800 else if k = 29 then 38400 else if k = 31 then 30 else if k = 32 then 36 else if k = 33 then 60 else if k = 34 then 180 else if k = 36 then 200 else if k = 37 then 200 else 0
/-- the reference's object and arrays stand where they were made -/
def MOk (ty : Nm → Nat) (ln : Nm → Int) (R : Nm → Int → Option Nm) : Prop := ty [2] = 109 ∧ ∀ k : Int, 5 ≤ k → k ≤ 37 → k ≠ 30 → k ≠ 35 → R [2] k = some [3, k] ∧ ty [3, k] = mK k ∧ ln [3, k] = mL k
theorem MOk.a5 {ty : Nm → Nat} {ln : Nm → Int} {R : Nm → Int → Option Nm} (h : MOk ty ln R) : R [2] 5 = some [3, 5] ∧ ty [3, 5] = 1 ∧ ln [3, 5] = 10 := h.2 5 (by decide) (by decide) (by decide) (by decide)
theorem MOk.a6 {ty : Nm → Nat} {ln : Nm → Int} {R : Nm → Int → Option Nm} (h : MOk ty ln R) : R [2] 6 = some [3, 6] ∧ ty [3, 6] = 2 ∧ ln [3, 6] = 10 := h.2 6 (by decide) (by decide) (by decide) (by decide)
theorem MOk.a7 {ty : Nm → Nat} {ln : Nm → Int} {R : Nm → Int → Option Nm} (h : MOk ty ln R) : R [2] 7 = some [3, 7] ∧ ty [3, 7] = 2 ∧ ln [3, 7] = 10 := h.2 7 (by decide) (by decide) (by decide) (by decide)
theorem MOk.a8 {ty : Nm → Nat} {ln : Nm → Int} {R : Nm → Int → Option Nm} (h : MOk ty ln R) : R [2] 8 = some [3, 8] ∧ ty [3, 8] = 2 ∧ ln [3, 8] = 10 := h.2 8 (by decide) (by decide) (by decide) (by decide)
theorem MOk.a9 {ty : Nm → Nat} {ln : Nm → Int} {R : Nm → Int → Option Nm} (h : MOk ty ln R) : R [2] 9 = some [3, 9] ∧ ty [3, 9] = 1 ∧ ln [3, 9] = 100 := h.2 9 (by decide) (by decide) (by decide) (by decide)
theorem MOk.a10 {ty : Nm → Nat} {ln : Nm → Int} {R : Nm → Int → Option Nm} (h : MOk ty ln R) : R [2] 10 = some [3, 10] ∧ ty [3, 10] = 1 ∧ ln [3, 10] = 100 := h.2 10 (by decide) (by decide) (by decide) (by decide)
theorem MOk.a11 {ty : Nm → Nat} {ln : Nm → Int} {R : Nm → Int → Option Nm} (h : MOk ty ln R) : R [2] 11 = some [3, 11] ∧ ty [3, 11] = 1 ∧ ln [3, 11] = 100 := h.2 11 (by decide) (by decide) (by decide) (by decide)
theorem MOk.a12 {ty : Nm → Nat} {ln : Nm → Int} {R : Nm → Int → Option Nm} (h : MOk ty ln R) : R [2] 12 = some [3, 12] ∧ ty [3, 12] = 2 ∧ ln [3, 12] = 100 := h.2 12 (by decide) (by decide) (by decide) (by decide)
theorem MOk.a13 {ty : Nm → Nat} {ln : Nm → Int} {R : Nm → Int → Option Nm} (h : MOk ty ln R) : R [2] 13 = some [3, 13] ∧ ty [3, 13] = 1 ∧ ln [3, 13] = 100 := h.2 13 (by decide) (by decide) (by decide) (by decide)
theorem MOk.a14 {ty : Nm → Nat} {ln : Nm → Int} {R : Nm → Int → Option Nm} (h : MOk ty ln R) : R [2] 14 = some [3, 14] ∧ ty [3, 14] = 1 ∧ ln [3, 14] = 20000 := h.2 14 (by decide) (by decide) (by decide) (by decide)
theorem MOk.a15 {ty : Nm → Nat} {ln : Nm → Int} {R : Nm → Int → Option Nm} (h : MOk ty ln R) : R [2] 15 = some [3, 15] ∧ ty [3, 15] = 1 ∧ ln [3, 15] = 10 := h.2 15 (by decide) (by decide) (by decide) (by decide)
theorem MOk.a16 {ty : Nm → Nat} {ln : Nm → Int} {R : Nm → Int → Option Nm} (h : MOk ty ln R) : R [2] 16 = some [3, 16] ∧ ty [3, 16] = 1 ∧ ln [3, 16] = 60 := h.2 16 (by decide) (by decide) (by decide) (by decide)
theorem MOk.a17 {ty : Nm → Nat} {ln : Nm → Int} {R : Nm → Int → Option Nm} (h : MOk ty ln R) : R [2] 17 = some [3, 17] ∧ ty [3, 17] = 1 ∧ ln [3, 17] = 600 := h.2 17 (by decide) (by decide) (by decide) (by decide)
theorem MOk.a18 {ty : Nm → Nat} {ln : Nm → Int} {R : Nm → Int → Option Nm} (h : MOk ty ln R) : R [2] 18 = some [3, 18] ∧ ty [3, 18] = 1 ∧ ln [3, 18] = 30000 := h.2 18 (by decide) (by decide) (by decide) (by decide)
theorem MOk.a19 {ty : Nm → Nat} {ln : Nm → Int} {R : Nm → Int → Option Nm} (h : MOk ty ln R) : R [2] 19 = some [3, 19] ∧ ty [3, 19] = 1 ∧ ln [3, 19] = 30000 := h.2 19 (by decide) (by decide) (by decide) (by decide)
theorem MOk.a20 {ty : Nm → Nat} {ln : Nm → Int} {R : Nm → Int → Option Nm} (h : MOk ty ln R) : R [2] 20 = some [3, 20] ∧ ty [3, 20] = 1 ∧ ln [3, 20] = 10 := h.2 20 (by decide) (by decide) (by decide) (by decide)
theorem MOk.a21 {ty : Nm → Nat} {ln : Nm → Int} {R : Nm → Int → Option Nm} (h : MOk ty ln R) : R [2] 21 = some [3, 21] ∧ ty [3, 21] = 2 ∧ ln [3, 21] = 400 := h.2 21 (by decide) (by decide) (by decide) (by decide)
theorem MOk.a22 {ty : Nm → Nat} {ln : Nm → Int} {R : Nm → Int → Option Nm} (h : MOk ty ln R) : R [2] 22 = some [3, 22] ∧ ty [3, 22] = 2 ∧ ln [3, 22] = 400 := h.2 22 (by decide) (by decide) (by decide) (by decide)
theorem MOk.a23 {ty : Nm → Nat} {ln : Nm → Int} {R : Nm → Int → Option Nm} (h : MOk ty ln R) : R [2] 23 = some [3, 23] ∧ ty [3, 23] = 1 ∧ ln [3, 23] = 24000 := h.2 23 (by decide) (by decide) (by decide) (by decide)
theorem MOk.a24 {ty : Nm → Nat} {ln : Nm → Int} {R : Nm → Int → Option Nm} (h : MOk ty ln R) : R [2] 24 = some [3, 24] ∧ ty [3, 24] = 1 ∧ ln [3, 24] = 24000 := h.2 24 (by decide) (by decide) (by decide) (by decide)
theorem MOk.a25 {ty : Nm → Nat} {ln : Nm → Int} {R : Nm → Int → Option Nm} (h : MOk ty ln R) : R [2] 25 = some [3, 25] ∧ ty [3, 25] = 1 ∧ ln [3, 25] = 4800 := h.2 25 (by decide) (by decide) (by decide) (by decide)
theorem MOk.a26 {ty : Nm → Nat} {ln : Nm → Int} {R : Nm → Int → Option Nm} (h : MOk ty ln R) : R [2] 26 = some [3, 26] ∧ ty [3, 26] = 2 ∧ ln [3, 26] = 4800 := h.2 26 (by decide) (by decide) (by decide) (by decide)
theorem MOk.a27 {ty : Nm → Nat} {ln : Nm → Int} {R : Nm → Int → Option Nm} (h : MOk ty ln R) : R [2] 27 = some [3, 27] ∧ ty [3, 27] = 1 ∧ ln [3, 27] = 144000 := h.2 27 (by decide) (by decide) (by decide) (by decide)
theorem MOk.a28 {ty : Nm → Nat} {ln : Nm → Int} {R : Nm → Int → Option Nm} (h : MOk ty ln R) : R [2] 28 = some [3, 28] ∧ ty [3, 28] = 1 ∧ ln [3, 28] = 4800 := h.2 28 (by decide) (by decide) (by decide) (by decide)
theorem MOk.a29 {ty : Nm → Nat} {ln : Nm → Int} {R : Nm → Int → Option Nm} (h : MOk ty ln R) : R [2] 29 = some [3, 29] ∧ ty [3, 29] = 1 ∧ ln [3, 29] = 38400 := h.2 29 (by decide) (by decide) (by decide) (by decide)
theorem MOk.a31 {ty : Nm → Nat} {ln : Nm → Int} {R : Nm → Int → Option Nm} (h : MOk ty ln R) : R [2] 31 = some [3, 31] ∧ ty [3, 31] = 1 ∧ ln [3, 31] = 30 := h.2 31 (by decide) (by decide) (by decide) (by decide)
theorem MOk.a32 {ty : Nm → Nat} {ln : Nm → Int} {R : Nm → Int → Option Nm} (h : MOk ty ln R) : R [2] 32 = some [3, 32] ∧ ty [3, 32] = 1 ∧ ln [3, 32] = 36 := h.2 32 (by decide) (by decide) (by decide) (by decide)
theorem MOk.a33 {ty : Nm → Nat} {ln : Nm → Int} {R : Nm → Int → Option Nm} (h : MOk ty ln R) : R [2] 33 = some [3, 33] ∧ ty [3, 33] = 1 ∧ ln [3, 33] = 60 := h.2 33 (by decide) (by decide) (by decide) (by decide)
theorem MOk.a34 {ty : Nm → Nat} {ln : Nm → Int} {R : Nm → Int → Option Nm} (h : MOk ty ln R) : R [2] 34 = some [3, 34] ∧ ty [3, 34] = 1 ∧ ln [3, 34] = 180 := h.2 34 (by decide) (by decide) (by decide) (by decide)
theorem MOk.a36 {ty : Nm → Nat} {ln : Nm → Int} {R : Nm → Int → Option Nm} (h : MOk ty ln R) : R [2] 36 = some [3, 36] ∧ ty [3, 36] = 1 ∧ ln [3, 36] = 200 := h.2 36 (by decide) (by decide) (by decide) (by decide)
theorem MOk.a37 {ty : Nm → Nat} {ln : Nm → Int} {R : Nm → Int → Option Nm} (h : MOk ty ln R) : R [2] 37 = some [3, 37] ∧ ty [3, 37] = 1 ∧ ln [3, 37] = 200 := h.2 37 (by decide) (by decide) (by decide) (by decide)
theorem MOk.e5 {ty : Nm → Nat} {ln : Nm → Int} {R : Nm → Int → Option Nm} (h : MOk ty ln R) (p : Nm → Prop) : (∃ m, R [2] 5 = some m ∧ p m) = p [3, 5] := by
  rw [h.a5.1]
  exact propext ⟨fun ⟨m, e, z⟩ => by cases e; exact z, fun z => ⟨_, rfl, z⟩⟩
theorem MOk.e6 {ty : Nm → Nat} {ln : Nm → Int} {R : Nm → Int → Option Nm} (h : MOk ty ln R) (p : Nm → Prop) : (∃ m, R [2] 6 = some m ∧ p m) = p [3, 6] := by
  rw [h.a6.1]
  exact propext ⟨fun ⟨m, e, z⟩ => by cases e; exact z, fun z => ⟨_, rfl, z⟩⟩
theorem MOk.e7 {ty : Nm → Nat} {ln : Nm → Int} {R : Nm → Int → Option Nm} (h : MOk ty ln R) (p : Nm → Prop) : (∃ m, R [2] 7 = some m ∧ p m) = p [3, 7] := by
  rw [h.a7.1]
  exact propext ⟨fun ⟨m, e, z⟩ => by cases e; exact z, fun z => ⟨_, rfl, z⟩⟩
theorem MOk.e8 {ty : Nm → Nat} {ln : Nm → Int} {R : Nm → Int → Option Nm} (h : MOk ty ln R) (p : Nm → Prop) : (∃ m, R [2] 8 = some m ∧ p m) = p [3, 8] := by
  rw [h.a8.1]
  exact propext ⟨fun ⟨m, e, z⟩ => by cases e; exact z, fun z => ⟨_, rfl, z⟩⟩
theorem MOk.e9 {ty : Nm → Nat} {ln : Nm → Int} {R : Nm → Int → Option Nm} (h : MOk ty ln R) (p : Nm → Prop) : (∃ m, R [2] 9 = some m ∧ p m) = p [3, 9] := by
  rw [h.a9.1]
  exact propext ⟨fun ⟨m, e, z⟩ => by cases e; exact z, fun z => ⟨_, rfl, z⟩⟩
theorem MOk.e10 {ty : Nm → Nat} {ln : Nm → Int} {R : Nm → Int → Option Nm} (h : MOk ty ln R) (p : Nm → Prop) : (∃ m, R [2] 10 = some m ∧ p m) = p [3, 10] := by
  rw [h.a10.1]
  exact propext ⟨fun ⟨m, e, z⟩ => by cases e; exact z, fun z => ⟨_, rfl, z⟩⟩
theorem MOk.e11 {ty : Nm → Nat} {ln : Nm → Int} {R : Nm → Int → Option Nm} (h : MOk ty ln R) (p : Nm → Prop) : (∃ m, R [2] 11 = some m ∧ p m) = p [3, 11] := by
  rw [h.a11.1]
  exact propext ⟨fun ⟨m, e, z⟩ => by cases e; exact z, fun z => ⟨_, rfl, z⟩⟩
theorem MOk.e12 {ty : Nm → Nat} {ln : Nm → Int} {R : Nm → Int → Option Nm} (h : MOk ty ln R) (p : Nm → Prop) : (∃ m, R [2] 12 = some m ∧ p m) = p [3, 12] := by
  rw [h.a12.1]
  exact propext ⟨fun ⟨m, e, z⟩ => by cases e; exact z, fun z => ⟨_, rfl, z⟩⟩
theorem MOk.e13 {ty : Nm → Nat} {ln : Nm → Int} {R : Nm → Int → Option Nm} (h : MOk ty ln R) (p : Nm → Prop) : (∃ m, R [2] 13 = some m ∧ p m) = p [3, 13] := by
  rw [h.a13.1]
  exact propext ⟨fun ⟨m, e, z⟩ => by cases e; exact z, fun z => ⟨_, rfl, z⟩⟩
theorem MOk.e14 {ty : Nm → Nat} {ln : Nm → Int} {R : Nm → Int → Option Nm} (h : MOk ty ln R) (p : Nm → Prop) : (∃ m, R [2] 14 = some m ∧ p m) = p [3, 14] := by
  rw [h.a14.1]
  exact propext ⟨fun ⟨m, e, z⟩ => by cases e; exact z, fun z => ⟨_, rfl, z⟩⟩
theorem MOk.e15 {ty : Nm → Nat} {ln : Nm → Int} {R : Nm → Int → Option Nm} (h : MOk ty ln R) (p : Nm → Prop) : (∃ m, R [2] 15 = some m ∧ p m) = p [3, 15] := by
  rw [h.a15.1]
  exact propext ⟨fun ⟨m, e, z⟩ => by cases e; exact z, fun z => ⟨_, rfl, z⟩⟩
theorem MOk.e16 {ty : Nm → Nat} {ln : Nm → Int} {R : Nm → Int → Option Nm} (h : MOk ty ln R) (p : Nm → Prop) : (∃ m, R [2] 16 = some m ∧ p m) = p [3, 16] := by
  rw [h.a16.1]
  exact propext ⟨fun ⟨m, e, z⟩ => by cases e; exact z, fun z => ⟨_, rfl, z⟩⟩
theorem MOk.e17 {ty : Nm → Nat} {ln : Nm → Int} {R : Nm → Int → Option Nm} (h : MOk ty ln R) (p : Nm → Prop) : (∃ m, R [2] 17 = some m ∧ p m) = p [3, 17] := by
  rw [h.a17.1]
  exact propext ⟨fun ⟨m, e, z⟩ => by cases e; exact z, fun z => ⟨_, rfl, z⟩⟩
theorem MOk.e18 {ty : Nm → Nat} {ln : Nm → Int} {R : Nm → Int → Option Nm} (h : MOk ty ln R) (p : Nm → Prop) : (∃ m, R [2] 18 = some m ∧ p m) = p [3, 18] := by
  rw [h.a18.1]
  exact propext ⟨fun ⟨m, e, z⟩ => by cases e; exact z, fun z => ⟨_, rfl, z⟩⟩
theorem MOk.e19 {ty : Nm → Nat} {ln : Nm → Int} {R : Nm → Int → Option Nm} (h : MOk ty ln R) (p : Nm → Prop) : (∃ m, R [2] 19 = some m ∧ p m) = p [3, 19] := by
  rw [h.a19.1]
  exact propext ⟨fun ⟨m, e, z⟩ => by cases e; exact z, fun z => ⟨_, rfl, z⟩⟩
theorem MOk.e20 {ty : Nm → Nat} {ln : Nm → Int} {R : Nm → Int → Option Nm} (h : MOk ty ln R) (p : Nm → Prop) : (∃ m, R [2] 20 = some m ∧ p m) = p [3, 20] := by
  rw [h.a20.1]
  exact propext ⟨fun ⟨m, e, z⟩ => by cases e; exact z, fun z => ⟨_, rfl, z⟩⟩
theorem MOk.e21 {ty : Nm → Nat} {ln : Nm → Int} {R : Nm → Int → Option Nm} (h : MOk ty ln R) (p : Nm → Prop) : (∃ m, R [2] 21 = some m ∧ p m) = p [3, 21] := by
  rw [h.a21.1]
  exact propext ⟨fun ⟨m, e, z⟩ => by cases e; exact z, fun z => ⟨_, rfl, z⟩⟩
theorem MOk.e22 {ty : Nm → Nat} {ln : Nm → Int} {R : Nm → Int → Option Nm} (h : MOk ty ln R) (p : Nm → Prop) : (∃ m, R [2] 22 = some m ∧ p m) = p [3, 22] := by
  rw [h.a22.1]
  exact propext ⟨fun ⟨m, e, z⟩ => by cases e; exact z, fun z => ⟨_, rfl, z⟩⟩
theorem MOk.e23 {ty : Nm → Nat} {ln : Nm → Int} {R : Nm → Int → Option Nm} (h : MOk ty ln R) (p : Nm → Prop) : (∃ m, R [2] 23 = some m ∧ p m) = p [3, 23] := by
  rw [h.a23.1]
  exact propext ⟨fun ⟨m, e, z⟩ => by cases e; exact z, fun z => ⟨_, rfl, z⟩⟩
theorem MOk.e24 {ty : Nm → Nat} {ln : Nm → Int} {R : Nm → Int → Option Nm} (h : MOk ty ln R) (p : Nm → Prop) : (∃ m, R [2] 24 = some m ∧ p m) = p [3, 24] := by
  rw [h.a24.1]
  exact propext ⟨fun ⟨m, e, z⟩ => by cases e; exact z, fun z => ⟨_, rfl, z⟩⟩
theorem MOk.e25 {ty : Nm → Nat} {ln : Nm → Int} {R : Nm → Int → Option Nm} (h : MOk ty ln R) (p : Nm → Prop) : (∃ m, R [2] 25 = some m ∧ p m) = p [3, 25] := by
  rw [h.a25.1]
  exact propext ⟨fun ⟨m, e, z⟩ => by cases e; exact z, fun z => ⟨_, rfl, z⟩⟩
theorem MOk.e26 {ty : Nm → Nat} {ln : Nm → Int} {R : Nm → Int → Option Nm} (h : MOk ty ln R) (p : Nm → Prop) : (∃ m, R [2] 26 = some m ∧ p m) = p [3, 26] := by
  rw [h.a26.1]
  exact propext ⟨fun ⟨m, e, z⟩ => by cases e; exact z, fun z => ⟨_, rfl, z⟩⟩
theorem MOk.e27 {ty : Nm → Nat} {ln : Nm → Int} {R : Nm → Int → Option Nm} (h : MOk ty ln R) (p : Nm → Prop) : (∃ m, R [2] 27 = some m ∧ p m) = p [3, 27] := by
  rw [h.a27.1]
  exact propext ⟨fun ⟨m, e, z⟩ => by cases e; exact z, fun z => ⟨_, rfl, z⟩⟩
theorem MOk.e28 {ty : Nm → Nat} {ln : Nm → Int} {R : Nm → Int → Option Nm} (h : MOk ty ln R) (p : Nm → Prop) : (∃ m, R [2] 28 = some m ∧ p m) = p [3, 28] := by
  rw [h.a28.1]
  exact propext ⟨fun ⟨m, e, z⟩ => by cases e; exact z, fun z => ⟨_, rfl, z⟩⟩
theorem MOk.e29 {ty : Nm → Nat} {ln : Nm → Int} {R : Nm → Int → Option Nm} (h : MOk ty ln R) (p : Nm → Prop) : (∃ m, R [2] 29 = some m ∧ p m) = p [3, 29] := by
  rw [h.a29.1]
  exact propext ⟨fun ⟨m, e, z⟩ => by cases e; exact z, fun z => ⟨_, rfl, z⟩⟩
theorem MOk.e31 {ty : Nm → Nat} {ln : Nm → Int} {R : Nm → Int → Option Nm} (h : MOk ty ln R) (p : Nm → Prop) : (∃ m, R [2] 31 = some m ∧ p m) = p [3, 31] := by
  rw [h.a31.1]
  exact propext ⟨fun ⟨m, e, z⟩ => by cases e; exact z, fun z => ⟨_, rfl, z⟩⟩
theorem MOk.e32 {ty : Nm → Nat} {ln : Nm → Int} {R : Nm → Int → Option Nm} (h : MOk ty ln R) (p : Nm → Prop) : (∃ m, R [2] 32 = some m ∧ p m) = p [3, 32] := by
  rw [h.a32.1]
  exact propext ⟨fun ⟨m, e, z⟩ => by cases e; exact z, fun z => ⟨_, rfl, z⟩⟩
theorem MOk.e33 {ty : Nm → Nat} {ln : Nm → Int} {R : Nm → Int → Option Nm} (h : MOk ty ln R) (p : Nm → Prop) : (∃ m, R [2] 33 = some m ∧ p m) = p [3, 33] := by
  rw [h.a33.1]
  exact propext ⟨fun ⟨m, e, z⟩ => by cases e; exact z, fun z => ⟨_, rfl, z⟩⟩
theorem MOk.e34 {ty : Nm → Nat} {ln : Nm → Int} {R : Nm → Int → Option Nm} (h : MOk ty ln R) (p : Nm → Prop) : (∃ m, R [2] 34 = some m ∧ p m) = p [3, 34] := by
  rw [h.a34.1]
  exact propext ⟨fun ⟨m, e, z⟩ => by cases e; exact z, fun z => ⟨_, rfl, z⟩⟩
theorem MOk.e36 {ty : Nm → Nat} {ln : Nm → Int} {R : Nm → Int → Option Nm} (h : MOk ty ln R) (p : Nm → Prop) : (∃ m, R [2] 36 = some m ∧ p m) = p [3, 36] := by
  rw [h.a36.1]
  exact propext ⟨fun ⟨m, e, z⟩ => by cases e; exact z, fun z => ⟨_, rfl, z⟩⟩
theorem MOk.e37 {ty : Nm → Nat} {ln : Nm → Int} {R : Nm → Int → Option Nm} (h : MOk ty ln R) (p : Nm → Prop) : (∃ m, R [2] 37 = some m ∧ p m) = p [3, 37] := by
  rw [h.a37.1]
  exact propext ⟨fun ⟨m, e, z⟩ => by cases e; exact z, fun z => ⟨_, rfl, z⟩⟩
theorem wr_m : wr [2] = true := rfl
theorem wr_a {k : Int} : wr [3, k] = true := rfl
