/-! ===== the class's object is made ===== -/
def FS (ty : Nm → Nat) (ln : Nm → Int) (R : Nm → Int → Option Nm) : Prop :=
  ty [1] = 100 ∧ R [1] 0 = some [1, 0] ∧ R [1] 1 = some [17] ∧ R [1] 2 = some [16] ∧ R [1] 3 = some [1, 3] ∧ R [1] 4 = some [1, 4] ∧ R [1] 5 = some [1, 5] ∧ (ty [1, 0] = 4 ∧ ln [1, 0] = 10) ∧ (ty [1, 3] = 1 ∧ ln [1, 3] = 200) ∧ (ty [1, 4] = 1 ∧ ln [1, 4] = 60) ∧ (ty [1, 5] = 1 ∧ ln [1, 5] = 30) ∧ ty [16] = 103 ∧ R [16] 0 = some [16, 0] ∧ R [16] 1 = some [16, 1] ∧ (ty [16, 0] = 6 ∧ ln [16, 0] = 500) ∧ (ty [16, 1] = 1 ∧ ln [16, 1] = 11)
theorem c_FB_init {d : Nat} {K : Kt} {X : Xt} {ty : Nm → Nat} {ln : Nm → Int} {I : Nm → Int → Int} {R : Nm → Int → Option Nm} {c w : Nat} (h1 : ty [1] = 100) (hI1 : I [1] = fun _ => 0) (hf : ∀ n, hd n = 1 ∨ hd n = 16 ∨ hd n = 17 → n ≠ [1] → ty n = 0) (hc9 : 31 ≤ c) (hw9 : 1897 ≤ w)
    (k : ∀ (ty' : Nm → Nat) (ln' : Nm → Int) (I' : Nm → Int → Int) (R' : Nm → Int → Option Nm), FS ty' ln' R' → CdS ty' ln' R' → CV I' → (I' [17] 3 = 2 ∧ I' [17] 4 = 4 ∧ I' [17] 5 = 30) → I' [1] = (fun _ => 0) → (∀ a, R' [1, 0] a = none) → (∀ n, hd n ≠ 1 → hd n ≠ 16 → hd n ≠ 17 → ty' n = ty n ∧ ln' n = ln n ∧ I' n = I n ∧ R' n = R n) → K none (ty', ln', I', R', c - 31, w - 1897)) :
    Mth (d + 3) M_FB_init [vR (some [1])] (ty, ln, I, R, c, w) K X := by
  rw [in_FB_init, b_FB_init_0]
  refine ⟨⟨by omega, by omega, by omega, by omega⟩, [1, 0], hf _ (by simp [hd]) (by decide), ⟨by rw [upN_ne _ _ (by decide)]; exact h1, rfl⟩, ⟨by omega, by omega⟩, [17], by rw [upN_ne _ _ (by decide)]; exact hf _ (by simp [hd]) (by decide), ?_⟩
  refine c_Coder_init (upN_self _ _ _) (fun n hn h17 => by rw [upN_ne _ _ h17, upN_h (by omega)]; exact hf n (by omega) (fun e => by rw [e] at hn; cases hn)) (by omega) (by omega) ?_
  intro ty1 ln1 I1 R1 hC hV hk fr
  show Rn (d + 2) M_FB_init K X 21 [vR (some [1])] [vR (some [17]), vR (some [1])] _
  have t1 : ty1 [1] = 100 := by rw [(fr _ (by decide)).1, upN_ne _ _ (by decide), upN_ne _ _ (by decide)]; exact h1
  have t10 : ty1 [1, 0] = 4 ∧ ln1 [1, 0] = 10 := by rw [(fr _ (by decide)).1, (fr _ (by decide)).2.1, upN_ne _ _ (by decide), upN_self, upN_ne _ _ (by decide), upN_self]; exact ⟨rfl, rfl⟩
  have r1 : R1 [1] 0 = some [1, 0] := by rw [(fr _ (by decide)).2.2.2, upN_ne _ _ (by decide), up2_self, upI_self]
  have r10 : ∀ a, R1 [1, 0] a = none := fun a => by rw [(fr _ (by decide)).2.2.2, upN_ne _ _ (by decide), up2_ne (by decide), upN_self]
  have i1 : I1 [1] = fun _ => 0 := by rw [(fr _ (by decide)).2.2.1, upN_ne _ _ (by decide), upN_ne _ _ (by decide)]; exact hI1
  have fre : ∀ n, hd n = 1 ∨ hd n = 16 → n ≠ [1] → n ≠ [1, 0] → ty1 n = 0 := fun n a b b2 => by rw [(fr n (by omega)).1, upN_h (by omega), upN_ne _ _ b2]; exact hf n (by omega) b
  have fr1 : ∀ n, hd n ≠ 1 → hd n ≠ 17 → ty1 n = ty n ∧ ln1 n = ln n ∧ I1 n = I n ∧ R1 n = R n := fun n a b => by
    obtain ⟨x1, x2, x3, x4⟩ := fr n b
    rw [x1, x2, x3, x4, upN_h b, upN_h b, upN_h b, upN_h b, upN_h a, upN_h a, upN_h a, up2_h a, upN_h a]
    exact ⟨rfl, rfl, rfl, rfl⟩
  clear fr
  rw [b_FB_init_21]
  refine ⟨⟨t1, rfl⟩, ⟨by omega, by omega⟩, [16], fre _ (by simp [hd]) (by decide) (by decide), ?_⟩
  rw [in_Draft_init, b_Draft_init_0]
  refine ⟨⟨by omega, by omega, by omega, by omega⟩, [16, 0], by rw [upN_ne _ _ (by decide)]; exact fre _ (by simp [hd]) (by decide) (by decide), ⟨by rw [upN_ne _ _ (by decide), upN_self], rfl⟩, ⟨by omega, by omega, by omega, by omega⟩, [16, 1], by rw [upN_ne _ _ (by decide), upN_ne _ _ (by decide)]; exact fre _ (by simp [hd]) (by decide) (by decide), ⟨by rw [upN_ne _ _ (by decide), upN_ne _ _ (by decide), upN_self], rfl⟩, ?_⟩
  show Rn (d + 2) M_FB_init K X 32 [vR (some [1])] [vR (some [16]), vR (some [1])] _
  rw [b_FB_init_32]
  have z1 : ∀ {n : Nm} {t : Nat} {f : Nm → Nat}, hd n ≠ 16 → upN f [16, 1] t n = f n := fun h => upN_h h
  refine ⟨⟨by rw [upN_ne _ _ (by decide), upN_ne _ _ (by decide), upN_ne _ _ (by decide)]; exact t1, rfl⟩, ⟨by omega, by omega, by omega, by omega⟩, [1, 3], by rw [upN_ne _ _ (by decide), upN_ne _ _ (by decide), upN_ne _ _ (by decide)]; exact fre _ (by simp [hd]) (by decide) (by decide), ⟨by rw [upN_ne _ _ (by decide), upN_ne _ _ (by decide), upN_ne _ _ (by decide), upN_ne _ _ (by decide)]; exact t1, rfl⟩, ⟨by omega, by omega, by omega, by omega⟩, [1, 4], by rw [upN_ne _ _ (by decide), upN_ne _ _ (by decide), upN_ne _ _ (by decide), upN_ne _ _ (by decide)]; exact fre _ (by simp [hd]) (by decide) (by decide), ⟨by simp (disch := decide) only [upN_ne]; exact t1, rfl⟩, ⟨by omega, by omega, by omega, by omega⟩, [1, 5], by simp (disch := decide) only [upN_ne]; exact fre _ (by simp [hd]) (by decide) (by decide), ⟨by simp (disch := decide) only [upN_ne]; exact t1, rfl⟩, ?_⟩
  have ec : c - 1 - 1 - 23 - 1 - 1 - 1 - 1 - 1 - 1 = c - 31 := by omega
  have ew : w - (10 : Int).toNat - 7 - 1074 - 5 - (500 : Int).toNat - (11 : Int).toNat - (200 : Int).toNat - (60 : Int).toNat - (30 : Int).toNat = w - 1897 := by omega
  rw [ec, ew]
  obtain ⟨s1, s2, s3, s4, s5, s6, s7, s8, s9, s10, s11, s12, s13⟩ := hC
  refine k _ _ _ _ ?_ ?_ ?_ ?_ ?_ ?_ ?_
  · refine ⟨?_, ?_, ?_, ?_, ?_, ?_, ?_, ?_, ?_, ?_, ?_, ?_, ?_, ?_, ?_, ?_⟩ <;> simp (disch := decide) only [upN_ne, upN_self, up2_ne, up2_self, upI_ne, upI_self, t1, t10, r1, and_self]
  · refine ⟨?_, ?_, ?_, ?_, ?_, ?_, ?_, ?_, ?_, ?_, ?_, fun j j0 j1 => ?_, fun j j0 j1 => ?_⟩
    · simp (disch := decide) only [upN_ne, up2_ne]; exact s1
    · simp (disch := decide) only [upN_ne, up2_ne]; exact s2
    · simp (disch := decide) only [upN_ne, up2_ne]; exact s3
    · simp (disch := decide) only [upN_ne, up2_ne]; exact s4
    · simp (disch := decide) only [upN_ne, up2_ne]; exact s5
    · simp (disch := decide) only [upN_ne, up2_ne]; exact s6
    · simp (disch := decide) only [upN_ne, up2_ne]; exact s7
    · simp (disch := decide) only [upN_ne, up2_ne]; exact s8
    · simp (disch := decide) only [upN_ne, up2_ne]; exact s9
    · simp (disch := decide) only [upN_ne, up2_ne]; exact s10
    · simp (disch := decide) only [upN_ne, up2_ne]; exact s11
    · have := s12 j j0 j1
      simp (disch := first | decide | simp) only [upN_ne, up2_ne]; exact this
    · have := s13 j j0 j1
      simp (disch := first | decide | simp) only [upN_ne, up2_ne]; exact this
  · obtain ⟨v1, v2, v3⟩ := hV
    refine ⟨fun i a b => ?_, fun i a b => ?_, fun j i a b x y => ?_⟩
    · simp (disch := first | decide | simp) only [upN_ne, up2_ne]; exact v1 i a b
    · simp (disch := first | decide | simp) only [upN_ne, up2_ne]; exact v2 i a b
    · simp (disch := first | decide | simp) only [upN_ne, up2_ne]; exact v3 j i a b x y
  · simp (disch := first | decide | simp) only [upN_ne, up2_ne]; exact hk
  · simp (disch := first | decide | simp) only [upN_ne, up2_ne]; exact i1
  · intro a
    simp (disch := first | decide | simp) only [upN_ne, up2_ne]; exact r10 a
  · intro n a b x
    obtain ⟨x1, x2, x3, x4⟩ := fr1 n a x
    simp (disch := assumption) only [upN_h, up2_h]
    exact ⟨x1, x2, x3, x4⟩
