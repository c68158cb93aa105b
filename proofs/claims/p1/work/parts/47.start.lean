/-! ===== heads of names; rows of rows ===== -/
def hd : Nm → Int
  | [] => -9
  | k :: _ => k
theorem upN_h {α : Type} {f : Nm → α} {k : Int} {l : List Int} {v : α} {n : Nm} (h : hd n ≠ k) : upN f (k :: l) v n = f n := upN_ne _ _ (fun e => h (by rw [e]; rfl))
theorem up2_h {α : Type} {f : Nm → Int → α} {k j : Int} {l : List Int} {v : α} {n : Nm} (h : hd n ≠ k) : up2 f (k :: l) j v n = f n := upN_h h
theorem up2_ne {α : Type} {f : Nm → Int → α} {m n : Nm} {j : Int} {v : α} (h : n ≠ m) : up2 f m j v n = f n := upN_ne _ _ h
theorem up2_self {α : Type} {f : Nm → Int → α} {m : Nm} {j : Int} {v : α} : up2 f m j v m = upI (f m) j v := upN_self _ _ _
theorem mr_facts {ty : Nm → Nat} {ln : Nm → Int} {I : Nm → Int → Int} {R : Nm → Int → Option Nm} {c w : Nat} {q : Nm} {z k : Int} {b : Nat} {r : Nat → Nm} : ∀ N : Nat, (∀ i, i < N → r i ≠ q) → (∀ i j, i < N → j < N → r i = r j → i = j) →
    ∃ (ty' : Nm → Nat) (ln' : Nm → Int) (I' : Nm → Int → Int) (R' : Nm → Int → Option Nm), mr (newH (ty, ln, I, R, c, w) q 5 z b) q k r N = (ty', ln', I', R', c - 1 - N, w - b - N * k.toNat) ∧ (∀ n, n ≠ q → (∀ i, i < N → n ≠ r i) → ty' n = ty n ∧ ln' n = ln n ∧ I' n = I n ∧ R' n = R n) ∧ (ty' q = 5 ∧ ln' q = z) ∧ ∀ i, i < N → R' q (i : Int) = some (r i) ∧ ty' (r i) = 1 ∧ ln' (r i) = k ∧ I' (r i) = fun _ => 0
  | 0, _, _ => ⟨upN ty q 5, upN ln q z, upN I q (fun _ => 0), upN R q (fun _ => none), by simp [mr, newH], fun n hn _ => ⟨upN_ne _ _ hn, upN_ne _ _ hn, upN_ne _ _ hn, upN_ne _ _ hn⟩, ⟨upN_self _ _ _, upN_self _ _ _⟩, fun i hi => absurd hi (Nat.not_lt_zero i)⟩
  | N + 1, h1, h2 => by
    obtain ⟨ty', ln', I', R', e, f, ⟨g1, g2⟩, rw9⟩ := mr_facts (ty := ty) (ln := ln) (I := I) (R := R) (c := c) (w := w) (z := z) (k := k) (b := b) N (fun i hi => h1 i (by omega)) (fun i j hi hj => h2 i j (by omega) (by omega))
    have hq : q ≠ r N := Ne.symm (h1 N (by omega))
    refine ⟨upN ty' (r N) 1, upN ln' (r N) k, upN I' (r N) (fun _ => 0), up2 (upN R' (r N) (fun _ => none)) q N (some (r N)), ?_, fun n hn hr => ?_, ⟨by rw [upN_ne _ _ hq, g1], by rw [upN_ne _ _ hq, g2]⟩, fun i hi => ?_⟩
    · show setR (newH (mr (newH (ty, ln, I, R, c, w) q 5 z b) q k r N) (r N) 1 k k.toNat) q N (some (r N)) = _
      rw [e]
      have e1 : c - 1 - N - 1 = c - 1 - (N + 1) := by omega
      have e2 : w - b - N * k.toNat - k.toNat = w - b - (N + 1) * k.toNat := by rw [Nat.add_mul, Nat.one_mul]; omega
      show (upN ty' (r N) 1, upN ln' (r N) k, upN I' (r N) (fun _ => 0), up2 (upN R' (r N) (fun _ => none)) q N (some (r N)), c - 1 - N - 1, w - b - N * k.toNat - k.toNat) = _
      rw [e1, e2]
    · obtain ⟨f1, f2, f3, f4⟩ := f n hn (fun i hi => hr i (by omega))
      have hrN := hr N (by omega)
      exact ⟨by rw [upN_ne _ _ hrN, f1], by rw [upN_ne _ _ hrN, f2], by rw [upN_ne _ _ hrN, f3], by rw [up2_ne hn, upN_ne _ _ hrN, f4]⟩
    · rw [up2_self]
      by_cases q9 : i = N
      · subst q9
        exact ⟨upI_self _ _ _, upN_self _ _ _, upN_self _ _ _, upN_self _ _ _⟩
      · obtain ⟨x1, x2, x3, x4⟩ := rw9 i (by omega)
        have hne : r i ≠ r N := fun z => q9 (h2 i N (by omega) (by omega) z)
        rw [upI_ne _ _ (by omega), upN_ne _ _ hq, upN_ne _ _ hne, upN_ne _ _ hne, upN_ne _ _ hne]
        exact ⟨x1, x2, x3, x4⟩
theorem c_Field_init {d : Nat} {K : Kt} {X : Xt} {ty : Nm → Nat} {ln : Nm → Int} {I : Nm → Int → Int} {R : Nm → Int → Option Nm} {c w : Nat} (h1 : ty [17, 0] = 104) (f0 : ty [17, 0, 0] = 0) (f1 : ty [17, 0, 1] = 0) (hc : 2 ≤ c) (hw : 766 ≤ w)
    (k : K none (upN (upN ty [17, 0, 0] 1) [17, 0, 1] 1, upN (upN ln [17, 0, 0] 510) [17, 0, 1] 256, fI (upN (upN I [17, 0, 0] (fun _ => 0)) [17, 0, 1] (fun _ => 0)) [17, 0, 0] [17, 0, 1] 255, up2 (upN (up2 (upN R [17, 0, 0] (fun _ => none)) [17, 0] 0 (some [17, 0, 0])) [17, 0, 1] (fun _ => none)) [17, 0] 1 (some [17, 0, 1]), c - 2, w - 766)) :
    Mth (d + 1) M_Field_init [vR (some [17, 0])] (ty, ln, I, R, c, w) K X := by
  have key : ∀ (ty : Nm → Nat) (ln : Nm → Int) (I : Nm → Int → Int) (R : Nm → Int → Option Nm) (c w : Nat), ty [17, 0] = 104 → R [17, 0] 0 = some [17, 0, 0] → R [17, 0] 1 = some [17, 0, 1] → ty [17, 0, 0] = 1 → ty [17, 0, 1] = 1 → ln [17, 0, 0] = 510 → ln [17, 0, 1] = 256 → ∀ k i : Nat, i + k = 255 → Rn d M_Field_init K X 26 [vR (some [17, 0]), vI ((pw i : Nat) : Int), vI (i : Int)] [] (ty, ln, fI I [17, 0, 0] [17, 0, 1] i, R, c, w) = K none (ty, ln, fI I [17, 0, 0] [17, 0, 1] 255, R, c, w) := by
    intro ty ln I R c w g1 g2 g3 g4 g5 g6 g7 k
    induction k with
    | zero =>
      intro i hi
      rw [b_Field_init_26, if_pos (by omega), show i = 255 by omega]
    | succ k ih =>
      intro i hi
      have p1 := pw_lt i
      rw [b_Field_init_26, if_neg (by omega), and_t g1]
      simp only [g2, g3, Option.some.injEq, exists_eq_left']
      rw [and_t ⟨g4, rfl, by omega, by omega⟩, and_t g1, w32_id (by omega) (by omega), and_t ⟨g4, rfl, by omega, by omega⟩, and_t g1, and_t ⟨g5, rfl, by omega, by omega⟩, b_Field_init_75, b_Field_init_75, w32_id (by omega) (by omega)]
      have e : (if shl32 ((pw i : Nat) : Int) 1 ≤ 255 then shl32 ((pw i : Nat) : Int) 1 else xor32 (shl32 ((pw i : Nat) : Int) 1) 285) = ((pw (i + 1) : Nat) : Int) := gdb_n p1
      have ih' := ih (i + 1) (by omega)
      rw [← e] at ih'
      by_cases q : shl32 ((pw i : Nat) : Int) 1 ≤ 255
      · rw [if_pos q] at ih' ⊢
        exact ih'
      · rw [if_neg q] at ih' ⊢
        exact ih'
  rw [in_Field_init, b_Field_init_0]
  refine ⟨⟨by omega, by omega, by omega, by omega⟩, [17, 0, 0], f0, ⟨by rw [upN_ne _ _ (by decide)]; exact h1, rfl⟩, ⟨by omega, by omega, by omega, by omega⟩, [17, 0, 1], by rw [upN_ne _ _ (by decide)]; exact f1, ⟨by rw [upN_ne _ _ (by decide), upN_ne _ _ (by decide)]; exact h1, rfl⟩, ?_⟩
  have e1 : c - 1 - 1 = c - 2 := by omega
  have e2 : w - (510 : Int).toNat - (256 : Int).toNat = w - 766 := by omega
  rw [e1, e2]
  have kk := key (upN (upN ty [17, 0, 0] 1) [17, 0, 1] 1) (upN (upN ln [17, 0, 0] 510) [17, 0, 1] 256) (upN (upN I [17, 0, 0] (fun _ => 0)) [17, 0, 1] (fun _ => 0)) (up2 (upN (up2 (upN R [17, 0, 0] (fun _ => none)) [17, 0] 0 (some [17, 0, 0])) [17, 0, 1] (fun _ => none)) [17, 0] 1 (some [17, 0, 1])) (c - 2) (w - 766)
    (by rw [upN_ne _ _ (by decide), upN_ne _ _ (by decide)]; exact h1)
    (by rw [up2_self, upI_ne _ _ (by decide), upN_ne _ _ (by decide), up2_self, upI_self])
    (by rw [up2_self, upI_self])
    (by rw [upN_ne _ _ (by decide), upN_self])
    (by rw [upN_self])
    (by rw [upN_ne _ _ (by decide), upN_self])
    (by rw [upN_self]) 255 0 rfl
  exact kk.mpr k
