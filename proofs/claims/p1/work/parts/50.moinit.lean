/-! ===== the reference is made ===== -/
def gJ (I : Nm → Int → Int) : Int → Int → Int := fun k => if k = -1 then I [2] else I [3, k]
theorem pJ_g {I : Nm → Int → Int} : pJ I (gJ I) = I := by
  funext n
  match n with
  | [] => rfl
  | [a] =>
    show (if a = 2 then gJ I (-1) else I [a]) = I [a]
    by_cases q : a = 2
    · rw [if_pos q, q]; exact if_pos rfl
    · rw [if_neg q]
  | [a, b] =>
    show (if a = 3 ∧ b ≠ -1 then gJ I b else I [a, b]) = I [a, b]
    by_cases q : a = 3 ∧ b ≠ -1
    · rw [if_pos q, q.1]; exact if_neg q.2
    · rw [if_neg q]
  | _ :: _ :: _ :: _ => rfl
theorem gJ_p {I : Nm → Int → Int} {J : Int → Int → Int} : gJ (pJ I J) = J := by
  funext k
  unfold gJ
  by_cases q : k = -1
  · rw [if_pos q, pJ_m, q]
  · rw [if_neg q, pJ_a q]
theorem pJ_o {I : Nm → Int → Int} {J : Int → Int → Int} {n : Nm} (h2 : hd n ≠ 2) (h3 : hd n ≠ 3) : pJ I J n = I n := by
  match n, h2, h3 with
  | [], _, _ => rfl
  | [a], h2, _ => exact if_neg h2
  | [a, b], _, h3 => exact if_neg fun z => h3 z.1
  | _ :: _ :: _ :: _, _, _ => rfl
def Jb : Int → Int → Int := uJ (uJ (fun _ _ => 0) (-1) 2 2) (-1) 3 4
theorem Jb_z {k : Int} (h : k ≠ -1) : Jb k = fun _ => 0 := by
  unfold Jb
  rw [uJ_ne h, uJ_ne h]
theorem upN_b {I : Nm → Int → Int} {k : Int} (h : k ≠ -1) : upN (pJ I Jb) [3, k] (fun _ => 0) = pJ I Jb := by
  funext n
  by_cases q : n = [3, k]
  · rw [q, upN_self, pJ_a h, Jb_z h]
  · rw [upN_ne _ _ q]
/-- the reference's words on its first day -/
def J0 : Int → Int → Int := wJ (wJ Jb 16 0 60 (fun _ => -1)) 25 0 4800 (fun _ => -1)
theorem c_Mo_loops {d : Nat} {K : Kt} {X : Xt} {ty : Nm → Nat} {ln : Nm → Int} {I : Nm → Int → Int} {R : Nm → Int → Option Nm} {c w : Nat} (h : MOk ty ln R) : Rn d M_Mo_init K X 278 [vR (some [2]), vI 0] [] (ty, ln, pJ I Jb, R, c, w) = K none (ty, ln, pJ I J0, R, c, w) := by
  have h0 := h.1
  have a16 := h.a16
  have a25 := h.a25
  have k2 : ∀ J, ∀ k i : Nat, i + k = 4800 → Rn d M_Mo_init K X 299 [vR (some [2]), vI (i : Int)] [] (ty, ln, pJ I (wJ J 25 0 i (fun _ => -1)), R, c, w) = K none (ty, ln, pJ I (wJ J 25 0 4800 (fun _ => -1)), R, c, w) := by
    intro J k
    induction k with
    | zero =>
      intro i hi
      rw [b_Mo_init_299, if_pos (by omega), show i = 4800 by omega]
      rfl
    | succ k ih =>
      intro i hi
      rw [b_Mo_init_299, if_neg (by omega), and_t h0, h.e25, and_t ⟨a25.2.1, rfl, by omega, by omega⟩, w32_id (by omega) (by omega), up_a (by decide), wJ_up (by omega) rfl]
      exact ih (i + 1) (by omega)
  have k1 : ∀ k i : Nat, i + k = 60 → Rn d M_Mo_init K X 278 [vR (some [2]), vI (i : Int)] [] (ty, ln, pJ I (wJ Jb 16 0 i (fun _ => -1)), R, c, w) = K none (ty, ln, pJ I J0, R, c, w) := by
    intro k
    induction k with
    | zero =>
      intro i hi
      rw [b_Mo_init_278, if_pos (by omega), show i = 60 by omega]
      have := k2 (wJ Jb 16 0 60 (fun _ => -1)) 4800 0 rfl
      rw [show ((0 : Nat) : Int) = 0 from rfl, wJ_nil (by omega)] at this
      exact this
    | succ k ih =>
      intro i hi
      rw [b_Mo_init_278, if_neg (by omega), and_t h0, h.e16, and_t ⟨a16.2.1, rfl, by omega, by omega⟩, w32_id (by omega) (by omega), up_a (by decide), wJ_up (by omega) rfl]
      exact ih (i + 1) (by omega)
  have := k1 60 0 rfl
  rw [show ((0 : Nat) : Int) = 0 from rfl, wJ_nil (by omega)] at this
  exact this

set_option maxHeartbeats 8000000 in
set_option maxRecDepth 20000 in
theorem c_Mo_init {d : Nat} {K : Kt} {X : Xt} {ty : Nm → Nat} {ln : Nm → Int} {I : Nm → Int → Int} {R : Nm → Int → Option Nm} {c w : Nat} (h0 : ty [2] = 109) (hI2 : I [2] = fun _ => 0) (hI3 : ∀ k, I [3, k] = fun _ => 0) (hf : ∀ k, ty [3, k] = 0) (hc9 : 31 ≤ c) (hw9 : 327526 ≤ w)
    (k : ∀ (ty' : Nm → Nat) (ln' : Nm → Int) (R' : Nm → Int → Option Nm), MOk ty' ln' R' → (∀ n, hd n ≠ 2 → hd n ≠ 3 → ty' n = ty n ∧ ln' n = ln n ∧ R' n = R n) → K none (ty', ln', pJ I J0, R', c - 31, w - 327526)) :
    Mth (d + 1) M_Mo_init [vR (some [2])] (ty, ln, I, R, c, w) K X := by
  have eI : I = pJ I (fun _ _ => 0) := by
    have e : gJ I = fun _ _ => 0 := by
      funext k
      unfold gJ
      by_cases q : k = -1
      · rw [if_pos q, hI2]
      · rw [if_neg q, hI3]
    rw [← e, pJ_g]
  rw [in_Mo_init, b_Mo_init_0]
  refine ⟨⟨h0, rfl⟩, ⟨h0, rfl⟩, ?_⟩
  refine ⟨⟨by omega, by omega, by omega, by omega⟩, [3, 5], hf 5, ⟨by rw [upN_ne _ _ (by decide)]; exact h0, rfl⟩, ?_⟩
  refine ⟨⟨by omega, by omega, by omega, by omega⟩, [3, 6], by simp (disch := decide) only [upN_ne]; exact hf 6, ⟨by simp (disch := decide) only [upN_ne]; exact h0, rfl⟩, ?_⟩
  refine ⟨⟨by omega, by omega, by omega, by omega⟩, [3, 7], by simp (disch := decide) only [upN_ne]; exact hf 7, ⟨by simp (disch := decide) only [upN_ne]; exact h0, rfl⟩, ?_⟩
  refine ⟨⟨by omega, by omega, by omega, by omega⟩, [3, 8], by simp (disch := decide) only [upN_ne]; exact hf 8, ⟨by simp (disch := decide) only [upN_ne]; exact h0, rfl⟩, ?_⟩
  refine ⟨⟨by omega, by omega, by omega, by omega⟩, [3, 9], by simp (disch := decide) only [upN_ne]; exact hf 9, ⟨by simp (disch := decide) only [upN_ne]; exact h0, rfl⟩, ?_⟩
  refine ⟨⟨by omega, by omega, by omega, by omega⟩, [3, 10], by simp (disch := decide) only [upN_ne]; exact hf 10, ⟨by simp (disch := decide) only [upN_ne]; exact h0, rfl⟩, ?_⟩
  refine ⟨⟨by omega, by omega, by omega, by omega⟩, [3, 11], by simp (disch := decide) only [upN_ne]; exact hf 11, ⟨by simp (disch := decide) only [upN_ne]; exact h0, rfl⟩, ?_⟩
  refine ⟨⟨by omega, by omega, by omega, by omega⟩, [3, 12], by simp (disch := decide) only [upN_ne]; exact hf 12, ⟨by simp (disch := decide) only [upN_ne]; exact h0, rfl⟩, ?_⟩
  refine ⟨⟨by omega, by omega, by omega, by omega⟩, [3, 13], by simp (disch := decide) only [upN_ne]; exact hf 13, ⟨by simp (disch := decide) only [upN_ne]; exact h0, rfl⟩, ?_⟩
  refine ⟨⟨by omega, by omega, by omega, by omega⟩, [3, 14], by simp (disch := decide) only [upN_ne]; exact hf 14, ⟨by simp (disch := decide) only [upN_ne]; exact h0, rfl⟩, ?_⟩
  refine ⟨⟨by omega, by omega, by omega, by omega⟩, [3, 15], by simp (disch := decide) only [upN_ne]; exact hf 15, ⟨by simp (disch := decide) only [upN_ne]; exact h0, rfl⟩, ?_⟩
  refine ⟨⟨by omega, by omega, by omega, by omega⟩, [3, 16], by simp (disch := decide) only [upN_ne]; exact hf 16, ⟨by simp (disch := decide) only [upN_ne]; exact h0, rfl⟩, ?_⟩
  refine ⟨⟨by omega, by omega, by omega, by omega⟩, [3, 17], by simp (disch := decide) only [upN_ne]; exact hf 17, ⟨by simp (disch := decide) only [upN_ne]; exact h0, rfl⟩, ?_⟩
  refine ⟨⟨by omega, by omega, by omega, by omega⟩, [3, 18], by simp (disch := decide) only [upN_ne]; exact hf 18, ⟨by simp (disch := decide) only [upN_ne]; exact h0, rfl⟩, ?_⟩
  refine ⟨⟨by omega, by omega, by omega, by omega⟩, [3, 19], by simp (disch := decide) only [upN_ne]; exact hf 19, ⟨by simp (disch := decide) only [upN_ne]; exact h0, rfl⟩, ?_⟩
  refine ⟨⟨by omega, by omega, by omega, by omega⟩, [3, 20], by simp (disch := decide) only [upN_ne]; exact hf 20, ⟨by simp (disch := decide) only [upN_ne]; exact h0, rfl⟩, ?_⟩
  refine ⟨⟨by omega, by omega, by omega, by omega⟩, [3, 21], by simp (disch := decide) only [upN_ne]; exact hf 21, ⟨by simp (disch := decide) only [upN_ne]; exact h0, rfl⟩, ?_⟩
  refine ⟨⟨by omega, by omega, by omega, by omega⟩, [3, 22], by simp (disch := decide) only [upN_ne]; exact hf 22, ⟨by simp (disch := decide) only [upN_ne]; exact h0, rfl⟩, ?_⟩
  refine ⟨⟨by omega, by omega, by omega, by omega⟩, [3, 23], by simp (disch := decide) only [upN_ne]; exact hf 23, ⟨by simp (disch := decide) only [upN_ne]; exact h0, rfl⟩, ?_⟩
  refine ⟨⟨by omega, by omega, by omega, by omega⟩, [3, 24], by simp (disch := decide) only [upN_ne]; exact hf 24, ⟨by simp (disch := decide) only [upN_ne]; exact h0, rfl⟩, ?_⟩
  refine ⟨⟨by omega, by omega, by omega, by omega⟩, [3, 25], by simp (disch := decide) only [upN_ne]; exact hf 25, ⟨by simp (disch := decide) only [upN_ne]; exact h0, rfl⟩, ?_⟩
  refine ⟨⟨by omega, by omega, by omega, by omega⟩, [3, 26], by simp (disch := decide) only [upN_ne]; exact hf 26, ⟨by simp (disch := decide) only [upN_ne]; exact h0, rfl⟩, ?_⟩
  refine ⟨⟨by omega, by omega, by omega, by omega⟩, [3, 27], by simp (disch := decide) only [upN_ne]; exact hf 27, ⟨by simp (disch := decide) only [upN_ne]; exact h0, rfl⟩, ?_⟩
  refine ⟨⟨by omega, by omega, by omega, by omega⟩, [3, 28], by simp (disch := decide) only [upN_ne]; exact hf 28, ⟨by simp (disch := decide) only [upN_ne]; exact h0, rfl⟩, ?_⟩
  refine ⟨⟨by omega, by omega, by omega, by omega⟩, [3, 29], by simp (disch := decide) only [upN_ne]; exact hf 29, ⟨by simp (disch := decide) only [upN_ne]; exact h0, rfl⟩, ?_⟩
  refine ⟨⟨by omega, by omega, by omega, by omega⟩, [3, 31], by simp (disch := decide) only [upN_ne]; exact hf 31, ⟨by simp (disch := decide) only [upN_ne]; exact h0, rfl⟩, ?_⟩
  refine ⟨⟨by omega, by omega, by omega, by omega⟩, [3, 32], by simp (disch := decide) only [upN_ne]; exact hf 32, ⟨by simp (disch := decide) only [upN_ne]; exact h0, rfl⟩, ?_⟩
  refine ⟨⟨by omega, by omega, by omega, by omega⟩, [3, 33], by simp (disch := decide) only [upN_ne]; exact hf 33, ⟨by simp (disch := decide) only [upN_ne]; exact h0, rfl⟩, ?_⟩
  refine ⟨⟨by omega, by omega, by omega, by omega⟩, [3, 34], by simp (disch := decide) only [upN_ne]; exact hf 34, ⟨by simp (disch := decide) only [upN_ne]; exact h0, rfl⟩, ?_⟩
  refine ⟨⟨by omega, by omega, by omega, by omega⟩, [3, 36], by simp (disch := decide) only [upN_ne]; exact hf 36, ⟨by simp (disch := decide) only [upN_ne]; exact h0, rfl⟩, ?_⟩
  refine ⟨⟨by omega, by omega, by omega, by omega⟩, [3, 37], by simp (disch := decide) only [upN_ne]; exact hf 37, ⟨by simp (disch := decide) only [upN_ne]; exact h0, rfl⟩, ?_⟩
  have ec : c - 1 - 1 - 1 - 1 - 1 - 1 - 1 - 1 - 1 - 1 - 1 - 1 - 1 - 1 - 1 - 1 - 1 - 1 - 1 - 1 - 1 - 1 - 1 - 1 - 1 - 1 - 1 - 1 - 1 - 1 - 1 = c - 31 := by omega
  have ew : w - (10 : Int).toNat - (10 : Int).toNat - (10 : Int).toNat - (10 : Int).toNat - (100 : Int).toNat - (100 : Int).toNat - (100 : Int).toNat - (100 : Int).toNat - (100 : Int).toNat - (20000 : Int).toNat - (10 : Int).toNat - (60 : Int).toNat - (600 : Int).toNat - (30000 : Int).toNat - (30000 : Int).toNat - (10 : Int).toNat - (400 : Int).toNat - (400 : Int).toNat - (24000 : Int).toNat - (24000 : Int).toNat - (4800 : Int).toNat - (4800 : Int).toNat - (144000 : Int).toNat - (4800 : Int).toNat - (38400 : Int).toNat - (30 : Int).toNat - (36 : Int).toNat - (60 : Int).toNat - (180 : Int).toNat - (200 : Int).toNat - (200 : Int).toNat = w - 327526 := by omega
  rw [ec, ew]
  have e9 : upN (upN (upN (upN (upN (upN (upN (upN (upN (upN (upN (upN (upN (upN (upN (upN (upN (upN (upN (upN (upN (upN (upN (upN (upN (upN (upN (upN (upN (upN (upN (up2 (up2 I [2] 2 2) [2] 3 4) [3, 5] (fun _ => 0)) [3, 6] (fun _ => 0)) [3, 7] (fun _ => 0)) [3, 8] (fun _ => 0)) [3, 9] (fun _ => 0)) [3, 10] (fun _ => 0)) [3, 11] (fun _ => 0)) [3, 12] (fun _ => 0)) [3, 13] (fun _ => 0)) [3, 14] (fun _ => 0)) [3, 15] (fun _ => 0)) [3, 16] (fun _ => 0)) [3, 17] (fun _ => 0)) [3, 18] (fun _ => 0)) [3, 19] (fun _ => 0)) [3, 20] (fun _ => 0)) [3, 21] (fun _ => 0)) [3, 22] (fun _ => 0)) [3, 23] (fun _ => 0)) [3, 24] (fun _ => 0)) [3, 25] (fun _ => 0)) [3, 26] (fun _ => 0)) [3, 27] (fun _ => 0)) [3, 28] (fun _ => 0)) [3, 29] (fun _ => 0)) [3, 31] (fun _ => 0)) [3, 32] (fun _ => 0)) [3, 33] (fun _ => 0)) [3, 34] (fun _ => 0)) [3, 36] (fun _ => 0)) [3, 37] (fun _ => 0) = pJ I Jb := by
    have e8 : up2 (up2 I [2] 2 2) [2] 3 4 = pJ I Jb := by
      conv => lhs; rw [eI]
      rw [up_m, up_m]
      rfl
    rw [e8]
    simp (disch := decide) only [upN_b]
  have hMk : MOk (upN (upN (upN (upN (upN (upN (upN (upN (upN (upN (upN (upN (upN (upN (upN (upN (upN (upN (upN (upN (upN (upN (upN (upN (upN (upN (upN (upN (upN (upN (upN (ty) [3, 5] 1) [3, 6] 2) [3, 7] 2) [3, 8] 2) [3, 9] 1) [3, 10] 1) [3, 11] 1) [3, 12] 2) [3, 13] 1) [3, 14] 1) [3, 15] 1) [3, 16] 1) [3, 17] 1) [3, 18] 1) [3, 19] 1) [3, 20] 1) [3, 21] 2) [3, 22] 2) [3, 23] 1) [3, 24] 1) [3, 25] 1) [3, 26] 2) [3, 27] 1) [3, 28] 1) [3, 29] 1) [3, 31] 1) [3, 32] 1) [3, 33] 1) [3, 34] 1) [3, 36] 1) [3, 37] 1) (upN (upN (upN (upN (upN (upN (upN (upN (upN (upN (upN (upN (upN (upN (upN (upN (upN (upN (upN (upN (upN (upN (upN (upN (upN (upN (upN (upN (upN (upN (upN (ln) [3, 5] 10) [3, 6] 10) [3, 7] 10) [3, 8] 10) [3, 9] 100) [3, 10] 100) [3, 11] 100) [3, 12] 100) [3, 13] 100) [3, 14] 20000) [3, 15] 10) [3, 16] 60) [3, 17] 600) [3, 18] 30000) [3, 19] 30000) [3, 20] 10) [3, 21] 400) [3, 22] 400) [3, 23] 24000) [3, 24] 24000) [3, 25] 4800) [3, 26] 4800) [3, 27] 144000) [3, 28] 4800) [3, 29] 38400) [3, 31] 30) [3, 32] 36) [3, 33] 60) [3, 34] 180) [3, 36] 200) [3, 37] 200) (up2 (upN (up2 (upN (up2 (upN (up2 (upN (up2 (upN (up2 (upN (up2 (upN (up2 (upN (up2 (upN (up2 (upN (up2 (upN (up2 (upN (up2 (upN (up2 (upN (up2 (upN (up2 (upN (up2 (upN (up2 (upN (up2 (upN (up2 (upN (up2 (upN (up2 (upN (up2 (upN (up2 (upN (up2 (upN (up2 (upN (up2 (upN (up2 (upN (up2 (upN (up2 (upN (up2 (upN (R) [3, 5] (fun _ => none)) [2] 5 (some [3, 5])) [3, 6] (fun _ => none)) [2] 6 (some [3, 6])) [3, 7] (fun _ => none)) [2] 7 (some [3, 7])) [3, 8] (fun _ => none)) [2] 8 (some [3, 8])) [3, 9] (fun _ => none)) [2] 9 (some [3, 9])) [3, 10] (fun _ => none)) [2] 10 (some [3, 10])) [3, 11] (fun _ => none)) [2] 11 (some [3, 11])) [3, 12] (fun _ => none)) [2] 12 (some [3, 12])) [3, 13] (fun _ => none)) [2] 13 (some [3, 13])) [3, 14] (fun _ => none)) [2] 14 (some [3, 14])) [3, 15] (fun _ => none)) [2] 15 (some [3, 15])) [3, 16] (fun _ => none)) [2] 16 (some [3, 16])) [3, 17] (fun _ => none)) [2] 17 (some [3, 17])) [3, 18] (fun _ => none)) [2] 18 (some [3, 18])) [3, 19] (fun _ => none)) [2] 19 (some [3, 19])) [3, 20] (fun _ => none)) [2] 20 (some [3, 20])) [3, 21] (fun _ => none)) [2] 21 (some [3, 21])) [3, 22] (fun _ => none)) [2] 22 (some [3, 22])) [3, 23] (fun _ => none)) [2] 23 (some [3, 23])) [3, 24] (fun _ => none)) [2] 24 (some [3, 24])) [3, 25] (fun _ => none)) [2] 25 (some [3, 25])) [3, 26] (fun _ => none)) [2] 26 (some [3, 26])) [3, 27] (fun _ => none)) [2] 27 (some [3, 27])) [3, 28] (fun _ => none)) [2] 28 (some [3, 28])) [3, 29] (fun _ => none)) [2] 29 (some [3, 29])) [3, 31] (fun _ => none)) [2] 31 (some [3, 31])) [3, 32] (fun _ => none)) [2] 32 (some [3, 32])) [3, 33] (fun _ => none)) [2] 33 (some [3, 33])) [3, 34] (fun _ => none)) [2] 34 (some [3, 34])) [3, 36] (fun _ => none)) [2] 36 (some [3, 36])) [3, 37] (fun _ => none)) [2] 37 (some [3, 37])) := by
    refine ⟨by simp (disch := decide) only [upN_ne]; exact h0, fun k k1 k2 k3 k4 => ?_⟩
    have : k = 5 ∨ k = 6 ∨ k = 7 ∨ k = 8 ∨ k = 9 ∨ k = 10 ∨ k = 11 ∨ k = 12 ∨ k = 13 ∨ k = 14 ∨ k = 15 ∨ k = 16 ∨ k = 17 ∨ k = 18 ∨ k = 19 ∨ k = 20 ∨ k = 21 ∨ k = 22 ∨ k = 23 ∨ k = 24 ∨ k = 25 ∨ k = 26 ∨ k = 27 ∨ k = 28 ∨ k = 29 ∨ k = 31 ∨ k = 32 ∨ k = 33 ∨ k = 34 ∨ k = 36 ∨ k = 37 := by omega
    rcases this with rfl | rfl | rfl | rfl | rfl | rfl | rfl | rfl | rfl | rfl | rfl | rfl | rfl | rfl | rfl | rfl | rfl | rfl | rfl | rfl | rfl | rfl | rfl | rfl | rfl | rfl | rfl | rfl | rfl | rfl | rfl <;> simp (disch := decide) only [upN_ne, upN_self, up2_ne, up2_self, upI_ne, upI_self] <;> first | exact ⟨trivial, rfl, rfl⟩ | exact ⟨rfl, rfl, rfl⟩
  rw [e9, c_Mo_loops]
  · refine k _ _ _ ?_ (fun n a b => ?_)
    · exact hMk
    · simp (disch := assumption) only [upN_h, up2_h, and_self]
  · exact hMk
