/-! ===== the law: its start, its switch, its turn ===== -/
theorem and32_31 {x : Int} : ∃ o : Nat, o < 32 ∧ and32 x 31 = (o : Int) := by
  have h1 : ((Int32.ofInt x).toBitVec &&& BitVec.ofNat 32 31).toNat ≤ 31 := by
    rw [BitVec.toNat_and]
    exact Nat.and_le_right
  refine ⟨((Int32.ofInt x).toBitVec &&& BitVec.ofNat 32 31).toNat, by omega, ?_⟩
  show ((Int32.ofInt x &&& Int32.ofInt 31).toBitVec).toInt = _
  rw [Int32.toBitVec_and, show (Int32.ofInt 31).toBitVec = BitVec.ofNat 32 31 from rfl]
  exact bv_toInt (by omega)
def swT (o : Nat) : Nat := ([148, 196, 244, 331, 411, 514, 570, 626, 717, 753, 864, 927, 1007, 1063, 1119, 1199, 1224, 1292, 1360, 1440, 1508, 1576, 1612] : List Nat).getD o 1680
theorem sw_ok : ∀ o : Nat, o < 32 → (if ((o : Int)) < 0 ∨ 22 < (o : Int) then some (1640 : Int) else (#[108, 156, 204, 291, 371, 474, 530, 586, 677, 713, 824, 887, 967, 1023, 1079, 1159, 1184, 1252, 1320, 1400, 1468, 1536, 1572] : Array Int)[((o : Int) - 0).toNat]?) = some ((swT o : Int) - 40) := by decide +kernel
theorem sw_ge : ∀ o : Nat, o < 32 → 40 ≤ swT o := by decide +kernel
theorem l_sw {d : Nat} {K : Kt} {X : Xt} {ty : Nm → Nat} {ln : Nm → Int} {I : Nm → Int → Int} {R : Nm → Int → Option Nm} {c w : Nat} {i : Int} {u5 u6 : Vl} (q5 : isLg u5 = false) (q6 : isLg u6 = false) (hS : ty [-3] = 20 ∧ 0 ≤ i ∧ i + 6 ≤ ln [-3] ∧ ln [-3] ≤ 3072) (k : ∀ o : Nat, o < 32 → and32 (I [-3] i) 31 = (o : Int) → Rn d M_La_law K X (swT o) [vR (some [-3]), vR (some [1]), vR (some [2]), vR (some [18]), vI i, u5, u6] [] (ty, ln, I, R, c, w)) :
    Rn d M_La_law K X 23 [vR (some [-3]), vR (some [1]), vR (some [2]), vR (some [18]), vI i, u5, u6] [] (ty, ln, I, R, c, w) := by
  obtain ⟨o, o1, o2⟩ := and32_31 (x := I [-3] i)
  have k9 := k o o1 o2
  have g := sw_ge o o1
  rw [b_La_law_23 q5 q6, and_t (Or.inr hS.1), w32_id (by omega) (by omega), if_neg (by omega), and_t ⟨Or.inr hS.1, by omega, by omega⟩, o2, sw_ok o o1]
  refine ⟨by omega, ?_⟩
  have e : tg 40 ((swT o : Int) - 40) = swT o := by unfold tg; omega
  rw [e]
  exact k9
theorem l_exit {d : Nat} {K : Kt} {X : Xt} {ty : Nm → Nat} {ln : Nm → Int} {I : Nm → Int → Int} {R : Nm → Int → Option Nm} {c w : Nat} {i : Int} {u5 u6 : Vl} (q5 : isLg u5 = false) (q6 : isLg u6 = false) (hS : ty [-3] = 20 ∧ 0 ≤ i ∧ i ≤ 4000 ∧ 0 ≤ ln [-3] ∧ ln [-3] < i + 6 ∧ ln [-3] ≤ 3072) :
    Rn d M_La_law K X 23 [vR (some [-3]), vR (some [1]), vR (some [2]), vR (some [18]), vI i, u5, u6] [] (ty, ln, I, R, c, w) = K (some (vI 1)) (ty, ln, I, R, c, w) := by
  rw [b_La_law_23 q5 q6, and_t (Or.inr hS.1), w32_id (by omega) (by omega), if_pos (by omega), and_t (Or.inr rfl)]
theorem l_start {d : Nat} {K : Kt} {X : Xt} {ty : Nm → Nat} {ln : Nm → Int} {I : Nm → Int → Int} {R : Nm → Int → Option Nm} {c w : Nat} (hs : ty [-3] = 20) (hf : ∀ n, 1 ≤ hd n → ty n = 0) (hI : ∀ n, 1 ≤ hd n → I n = fun _ => 0) (hc9 : 65 ≤ c) (hw9 : 329471 ≤ w)
    (k : ∀ (ty' : Nm → Nat) (ln' : Nm → Int) (I' : Nm → Int → Int) (R' : Nm → Int → Option Nm), MOk ty' ln' R' → RG J0 ty' ln' (pJ I' J0) R' → (ty' [18] = 3 ∧ ln' [18] = 1) → (ty' [-3] = 20 ∧ ln' [-3] = ln [-3] ∧ I' [-3] = I [-3]) → (∀ n, hd n ≠ 1 → hd n ≠ 2 → hd n ≠ 3 → hd n ≠ 16 → hd n ≠ 17 → hd n ≠ 18 → ty' n = ty n ∧ ln' n = ln n ∧ R' n = R n) → Rn (d + 3) M_La_law K X 23 [vR (some [-3]), vR (some [1]), vR (some [2]), vR (some [18]), vI 0, vJ, vJ] [] (ty', ln', pJ I' J0, R', c - 65, w - 329471)) :
    Rn (d + 3) M_La_law K X 0 [vR (some [-3]), vJ, vJ, vJ, vJ, vJ, vJ] [] (ty, ln, I, R, c, w) := by
  rw [b_La_law_0]
  refine ⟨⟨by omega, by omega⟩, [1], hf _ (by decide), ?_⟩
  refine c_FB_init (upN_self _ _ _) (upN_self _ _ _) (fun n h1 h2 => by rw [upN_ne _ _ h2]; exact hf n (by omega)) (by omega) (by omega) ?_
  intro ty1 ln1 I1 R1 a1 a2 a3 a4 a5 a6 a7
  have fr1 : ∀ n, hd n ≠ 1 → hd n ≠ 16 → hd n ≠ 17 → ty1 n = ty n ∧ ln1 n = ln n ∧ I1 n = I n ∧ R1 n = R n := fun n x y z => by
    obtain ⟨y1, y2, y3, y4⟩ := a7 n x y z
    rw [y1, y2, y3, y4, upN_h x, upN_h x, upN_h x, upN_h x]
    exact ⟨rfl, rfl, rfl, rfl⟩
  refine b_La_law_7.mpr ⟨⟨by omega, by omega⟩, [2], by rw [(fr1 _ (by decide) (by decide) (by decide)).1]; exact hf _ (by decide), ?_⟩
  refine c_Mo_init (upN_self _ _ _) (upN_self _ _ _) (fun k => ?_) (fun k => ?_) (by omega) (by omega) ?_
  · rw [upN_ne _ _ (by simp), (fr1 _ (by simp [hd]) (by simp [hd]) (by simp [hd])).2.2.1]
    exact hI [3, k] (by simp [hd])
  · rw [upN_ne _ _ (by simp), (fr1 _ (by simp [hd]) (by simp [hd]) (by simp [hd])).1]
    exact hf [3, k] (by simp [hd])
  intro ty2 ln2 R2 hM b7
  have fr2 : ∀ n, hd n ≠ 2 → hd n ≠ 3 → ty2 n = ty1 n ∧ ln2 n = ln1 n ∧ R2 n = R1 n := fun n x y => by
    obtain ⟨y1, y2, y3⟩ := b7 n x y
    rw [y1, y2, y3, upN_h x, upN_h x, upN_h x]
    exact ⟨rfl, rfl, rfl⟩
  refine b_La_law_15.mpr ⟨⟨by omega, by omega, by omega, by omega⟩, [18], ?_, ?_⟩
  · rw [(fr2 _ (by decide) (by decide)).1, (fr1 _ (by decide) (by decide) (by decide)).1]
    exact hf _ (by decide)
  have e9 : upN (pJ (upN I1 [2] (fun _ => 0)) J0) [18] (fun _ => 0) = pJ I1 J0 := by
    have e8 : pJ (upN I1 [2] (fun _ => 0)) J0 = pJ I1 J0 := by
      refine pJ_ext (fun n h2 _ => upN_ne _ _ h2) (fun _ _ => trivial) (fun k => upN_ne _ _ (by simp))
    have e7 : pJ I1 J0 [18] = fun _ => 0 := by
      rw [pJ_o (by decide) (by decide), (fr1 _ (by decide) (by decide) (by decide)).2.2.1]
      exact hI _ (by decide)
    rw [e8]
    funext n
    by_cases q : n = [18]
    · rw [q, upN_self, e7]
    · rw [upN_ne _ _ q]
  have ec : c - 1 - 31 - 1 - 31 - 1 = c - 65 := by omega
  have ew : w - 9 - 1897 - 38 - 327526 - (1 : Int).toNat = w - 329471 := by omega
  rw [e9, ec, ew]
  have z18 : ∀ {α : Type} {f : Nm → α} {v : α} {n : Nm}, hd n ≠ 18 → upN f [18] v n = f n := fun h => upN_h h
  have tz : ∀ n, hd n ≠ 18 → hd n ≠ 2 → hd n ≠ 3 → upN ty2 [18] 3 n = ty1 n ∧ upN ln2 [18] 1 n = ln1 n ∧ upN R2 [18] (fun _ => none) n = R1 n := fun n x y z => by
    obtain ⟨y1, y2, y3⟩ := fr2 n y z
    rw [z18 x, z18 x, z18 x]
    exact ⟨y1, y2, y3⟩
  refine k _ _ _ _ ?_ ?_ ⟨upN_self _ _ _, upN_self _ _ _⟩ ⟨?_, ?_, ?_⟩ (fun n x1 x2 x3 x4 x5 x6 => ?_)
  · obtain ⟨m1, m2⟩ := hM
    refine ⟨by rw [z18 (by decide)]; exact m1, fun k k1 k2 k3 k4 => ?_⟩
    rw [z18 (by decide), z18 (by simp [hd]), z18 (by simp [hd])]
    exact m2 k k1 k2 k3 k4
  · have g1 : ∀ {n : Nm}, hd n ≠ 18 → hd n ≠ 2 → hd n ≠ 3 → upN ty2 [18] 3 n = ty1 n := fun x y z => (tz _ x y z).1
    have g2 : ∀ {n : Nm}, hd n ≠ 18 → hd n ≠ 2 → hd n ≠ 3 → upN ln2 [18] 1 n = ln1 n := fun x y z => (tz _ x y z).2.1
    have g3 : ∀ {n : Nm}, hd n ≠ 18 → hd n ≠ 2 → hd n ≠ 3 → upN R2 [18] (fun _ => none) n = R1 n := fun x y z => (tz _ x y z).2.2
    refine ⟨?_, ?_, ?_, ?_, ?_, fun i x y => ?_, fun a x y => ?_, ?_⟩
    · unfold FS at a1 ⊢
      simp (disch := decide) only [g1, g2, g3]
      exact a1
    · obtain ⟨s1, s2, s3, s4, s5, s6, s7, s8, s9, s10, s11, s12, s13⟩ := a2
      unfold CdS
      simp (disch := decide) only [g1, g2, g3]
      refine ⟨s1, s2, s3, s4, s5, s6, s7, s8, s9, s10, s11, fun j x y => ?_, fun j x y => ?_⟩
      · rw [g1 (by simp [hd]) (by simp [hd]) (by simp [hd]), g2 (by simp [hd]) (by simp [hd]) (by simp [hd])]
        exact s12 j x y
      · rw [g1 (by simp [hd]) (by simp [hd]) (by simp [hd]), g2 (by simp [hd]) (by simp [hd]) (by simp [hd])]
        exact s13 j x y
    · obtain ⟨v1, v2, v3⟩ := a3
      refine ⟨fun i x y => ?_, fun i x y => ?_, fun j i x y z u => ?_⟩
      · rw [pJ_o (by decide) (by decide)]
        exact v1 i x y
      · rw [pJ_o (by decide) (by decide)]
        exact v2 i x y
      · rw [pJ_o (by simp [hd]) (by simp [hd])]
        exact v3 j i x y z u
    · rw [pJ_o (by decide) (by decide)]
      exact a4
    · rw [pJ_o (by decide) (by decide), a5]
      exact ⟨rfl, rfl, rfl⟩
    · exact absurd y (by rw [show J0 (-1) 35 = 0 from rfl]; omega)
    · rw [g3 (by decide) (by decide) (by decide), a6 a]
      have : J0 5 a = 0 := by
        unfold J0
        rw [wJ_ne (by decide), wJ_ne (by decide), Jb_z (by decide)]
      rw [this]
      rfl
    · decide +kernel
  · rw [(tz _ (by decide) (by decide) (by decide)).1, (fr1 _ (by decide) (by decide) (by decide)).1]
    exact hs
  · rw [(tz _ (by decide) (by decide) (by decide)).2.1, (fr1 _ (by decide) (by decide) (by decide)).2.1]
  · exact (fr1 _ (by decide) (by decide) (by decide)).2.2.1
  · obtain ⟨y1, y2, y3⟩ := tz n x6 x2 x3
    obtain ⟨z1, z2, z3, z4⟩ := fr1 n x1 x4 x5
    rw [y1, y2, y3, z1, z2, z4]
    exact ⟨rfl, rfl, rfl⟩
