/-! ===== chunks dropped; a segment made ===== -/
set_option maxHeartbeats 1000000 in
theorem y_dropChunksFrom {d : Nat} {K : Kt} {X : Xt} {ty : Nm → Nat} {ln : Nm → Int} {c w : Nat} {a : Int} {J0 : Int → Int → Int} {L0 : List Ck} (hR0 : MR J0) (ha : hsJ J0 a) (I0 : Nm → Int → Int) (R0 : Nm → Int → Option Nm) (kk : ∀ I' R', (∀ k, la R' a k = la R0 a k) → FRM a ty ln I0 R0 ty ln I' R' → MS J0 a L0 ty ln I' R' c → HL7 I' ty ln R' a L0 → K none (ty, ln, I', R', c, w)) : ∀ (Nw : List Ck) (I : Nm → Int → Int) (R : Nm → Int → Option Nm), (∀ k, la R a k = la R0 a k) → FRM a ty ln I0 R0 ty ln I R → MS J0 a L0 ty ln I R c → HL7 I ty ln R a (L0 ++ Nw) → (∀ e ∈ Nw, ty e.1 = 101) →
    Mth (d + 4) M_House_dropChunksFrom [vR (some [4, a]), vI (L0.length : Int)] (ty, ln, I, R, c, w) K X := by
  intro Nw I R hl0 hF0 hS h7 hty
  have key : ∀ (q : Nat) (A : List Ck) (I : Nm → Int → Int) (R : Nm → Int → Option Nm), A.length = q → (∀ k, la R a k = la R0 a k) → FRM a ty ln I0 R0 ty ln I R → MS J0 a L0 ty ln I R c → HL7 I ty ln R a (L0 ++ A) → Rn (d + 3) M_House_dropChunksFrom K X 10 [vR (some [4, a]), vI (L0.length : Int), vI ((L0.length : Int) + q - 1)] [] (ty, ln, I, R, c, w) := by
    intro q
    induction q with
    | zero =>
      intro A I R hA hl0 hF0 hS h7
      obtain rfl : A = [] := List.eq_nil_of_length_eq_zero hA
      rw [List.append_nil] at h7
      rw [b_House_dropChunksFrom_10, if_pos (by omega)]
      exact kk I R hl0 hF0 hS h7
    | succ q ih =>
      intro A I R hA hl0 hF0 hS h7
      rcases List.eq_nil_or_concat A with rfl | ⟨A', e, rfl⟩
      · exact absurd hA (by simp)
      rw [List.concat_eq_append] at *
      have hl : A'.length = q := by rw [List.length_append] at hA; simp at hA; exact hA
      obtain ⟨l1, l2, l3, l4', l5'⟩ := id h7
      obtain ⟨t0, -, -, -, -, -, -, ⟨r7, t7⟩, -, -⟩ := hS.1.hs a ha
      have len : ((L0 ++ (A' ++ [e])).length : Int) = L0.length + q + 1 := by simp [hl]; omega
      have lb := l1.2.2.2.1
      rw [len] at l1 lb
      have d7n : la R a 7 ≠ nE → ty (la R a 7) = 8 := fun z => l1.2.2.2.2.1.elim (fun u => absurd u.1 z) (fun u => u.1)
      have n7 : la R a 7 ≠ nE := fun z => by
        rcases l1.2.2.2.2.1 with u | u
        · omega
        · rw [z] at u; exact absurd u.2.2 (by decide)
      rw [b_House_dropChunksFrom_10, if_neg (by omega), and_t t0, r7, ex_some, and_t t7]
      refine s_AL_remove l1 (by omega) (fun I' R' z f1 f2 f3 f4 => ?_)
      show Rn (d + 3) M_House_dropChunksFrom K X 23 _ [vR z] _
      rw [b_House_dropChunksFrom_23, w32_id (by omega) (by omega)]
      have n47 : ∀ k, ([4, a, k] : Nm) ≠ la R a 7 := fun k u => by
        rcases l3 with v | v
        · exact n7 v
        · exact n12_4 v u.symm
      have lk : ∀ k, la R' a k = la R a k := fun k => by unfold la; rw [f4 _ _ (n47 k)]
      have := ih A' I' R' hl (fun k => (lk k).trans (hl0 k)) (hF0.trans (FRM.of (fun n x hx => f3 n x (Or.inl (fun y => by rw [y] at hx; simp [fxh, hd] at hx))) (fun n x hx hn => f4 n x (fun y => by
        rcases l3 with v | v
        · exact n7 v
        · have := n12_hd v; rw [← y] at this; exact hx.q.2.2 this)))) (hS.step hR0 ha l3 l4' l5' d7n (fun _ _ => ⟨rfl, rfl⟩) (fun n x _ u _ => f3 n x (Or.inl u)) (fun n x _ u _ hl => f4 n x (hl.elim id (fun v => absurd v n7))) hS.2.2.2.2.2) ?_
      · rw [show (L0.length : Int) + ((q + 1 : Nat) : Int) - 1 + -1 = L0.length + q - 1 by omega]
        exact this
      · refine ⟨?_, ?_, ?_, ?_, ?_⟩
        · rw [lk, show ((L0 ++ A').length : Int) = L0.length + q + 1 - 1 by rw [List.length_append, hl]; omega]; exact f1
        · rw [lk]
          intro i f hf
          have hi := (List.getElem?_eq_some_iff.mp hf).1
          have hi2 : i < L0.length + q := by rw [List.length_append, hl] at hi; exact hi
          rw [f2 i (by omega) (by omega), if_pos (by omega)]
          refine l2 i f ?_
          rw [← List.append_assoc, List.getElem?_append_left hi]; exact hf
        · unfold rw12; rw [lk]; exact l3
        · rw [lk, lk]; exact l4'
        · rw [lk, lk]; exact l5'
  obtain ⟨t0, -, -, -, -, -, -, ⟨r7, t7⟩, -, -⟩ := hS.1.hs a ha
  have lb := h7.1.2.2.2.1
  rw [in_House_dropChunksFrom, b_House_dropChunksFrom_0, and_t t0, r7, ex_some, and_t t7, s_AL_size2 h7.1]
  show Rn (d + 3) M_House_dropChunksFrom K X 7 _ [vI _] _
  rw [b_House_dropChunksFrom_7, w32_id (by omega) (by omega)]
  have := key Nw.length Nw I R rfl hl0 hF0 hS h7
  rw [show (((L0 ++ Nw).length : Nat) : Int) - 1 = L0.length + Nw.length - 1 by rw [List.length_append]; omega]
  exact this
/-- piece j as it is made -/
def PCn (ty : Nm → Nat) (ln : Nm → Int) (I : Nm → Int → Int) (R : Nm → Int → Option Nm) (a s l j : Int) : Prop :=
  (R [4, a, 8, s, 2] j = some [4, a, 8, s, 3, j] ∧ ty [4, a, 8, s, 3, j] = 106 ∧ (R [4, a, 8, s, 3, j] 0 = some [4, a, 8, s, 3, j, 0] ∧ ty [4, a, 8, s, 3, j, 0] = 1 ∧ ln [4, a, 8, s, 3, j, 0] = l) ∧ (R [4, a, 8, s, 3, j] 1 = some [4, a, 8, s, 3, j, 1] ∧ ty [4, a, 8, s, 3, j, 1] = 1 ∧ ln [4, a, 8, s, 3, j, 1] = 8)) ∧ I [4, a, 8, s, 3, j] 2 = -1 ∧ I [4, a, 8, s, 3, j] 3 = 0 ∧ I [4, a, 8, s, 3, j] 4 = 0 ∧ (∀ x, I [4, a, 8, s, 3, j, 0] x = 0) ∧ (∀ x, I [4, a, 8, s, 3, j, 1] x = 0)
abbrev nS (a s : Int) (n : Nm) : Prop := ∀ t, n ≠ 4 :: a :: 8 :: s :: t
set_option maxHeartbeats 4000000 in
theorem s_Segment_init {d : Nat} {K : Kt} {X : Xt} {ty : Nm → Nat} {ln : Nm → Int} {I : Nm → Int → Int} {R : Nm → Int → Option Nm} {c w : Nat} {a s N l : Int} (hC : ty [17] = 102) (k4 : I [17] 4 = N) (k5 : I [17] 5 = l) (hN : 2 ≤ N ∧ N ≤ 12) (hl : 10 ≤ l ∧ l ≤ 30) (t0 : ty [4, a, 8, s] = 107) (i0 : ∀ x, I [4, a, 8, s] x = 0) (hf : ∀ t, t ≠ [] → ty (4 :: a :: 8 :: s :: t) = 0) (hc : 39 ≤ c) (hw : 700 ≤ w)
    (k : ∀ (ty' : Nm → Nat) (ln' : Nm → Int) (I' : Nm → Int → Int) (R' : Nm → Int → Option Nm) (c' w' : Nat), SG ty' ln' R' a s N l → (∀ n, nS a s n → ty' n = ty n ∧ ln' n = ln n ∧ (∀ x, I' n x = I n x) ∧ (∀ x, R' n x = R n x)) → (I' [4, a, 8, s] 3 = 1 ∧ I' [4, a, 8, s] 4 = 0 ∧ I' [4, a, 8, s] 5 = 0 ∧ (∀ x, I' [4, a, 8, s, 0] x = 0) ∧ (∀ x, I' [4, a, 8, s, 1] x = 0)) → (∀ j : Int, 0 ≤ j → j < N → PCn ty' ln' I' R' a s l j) → c' + 39 ≥ c → w' + 700 ≥ w → c' ≤ c → K none (ty', ln', I', R', c', w')) :
    Mth (d + 2) M_Segment_init [vR (some [4, a, 8, s]), vR (some [17])] (ty, ln, I, R, c, w) K X := by
  have key : ∀ (q i : Nat) (ty' : Nm → Nat) (ln' : Nm → Int) (I' : Nm → Int → Int) (R' : Nm → Int → Option Nm) (c' w' : Nat), (i : Int) + q = N → c' ≤ c → c ≤ c' + 3 + 3 * i → w ≤ w' + 132 + 43 * i → (∀ n, nS a s n → ty' n = ty n ∧ ln' n = ln n ∧ (∀ x, I' n x = I n x) ∧ (∀ x, R' n x = R n x)) → (I' [4, a, 8, s] 3 = 1 ∧ I' [4, a, 8, s] 4 = 0 ∧ I' [4, a, 8, s] 5 = 0 ∧ (∀ x, I' [4, a, 8, s, 0] x = 0) ∧ (∀ x, I' [4, a, 8, s, 1] x = 0)) → (ty' [4, a, 8, s] = 107 ∧ (R' [4, a, 8, s] 0 = some [4, a, 8, s, 0] ∧ ty' [4, a, 8, s, 0] = 1 ∧ ln' [4, a, 8, s, 0] = 60) ∧ (R' [4, a, 8, s] 1 = some [4, a, 8, s, 1] ∧ ty' [4, a, 8, s, 1] = 1 ∧ ln' [4, a, 8, s, 1] = 60) ∧ (R' [4, a, 8, s] 2 = some [4, a, 8, s, 2] ∧ ty' [4, a, 8, s, 2] = 7 ∧ ln' [4, a, 8, s, 2] = N)) → (∀ j : Int, 0 ≤ j → j < i → PCn ty' ln' I' R' a s l j) → (∀ (j : Int) (t : List Int), (i : Int) ≤ j → ty' (4 :: a :: 8 :: s :: 3 :: j :: t) = 0) → Rn (d + 1) M_Segment_init K X 38 [vR (some [4, a, 8, s]), vR (some [17]), vI (i : Int)] [] (ty', ln', I', R', c', w') := by
    intro q
    induction q with
    | zero =>
      intro i ty' ln' I' R' c' w' hi hcc hc' hw' fr ce sg pc fre
      have f17 := fr [17] (by intro t; simp)
      rw [b_Segment_init_38, ex_some, f17.1, and_t hC, f17.2.2.1, k4, if_pos (by omega)]
      refine k ty' ln' I' R' c' w' ⟨sg.1, sg.2.1, sg.2.2.1, sg.2.2.2, fun j j0 j1 => (pc j j0 (by omega)).1⟩ fr ce (fun j j0 j1 => pc j j0 (by omega)) (by omega) (by omega) hcc
    | succ q ih =>
      intro i ty' ln' I' R' c' w' hi hcc hc' hw' fr ce sg pc fre
      have f17 := fr [17] (by intro t; simp)
      obtain ⟨sg0, sg1, sg2, sgr, sgt, sgl⟩ := sg
      rw [b_Segment_init_38, ex_some, f17.1, and_t hC, f17.2.2.1, k4, if_neg (by omega), and_t sg0, and_t ⟨by omega, by omega⟩]
      refine ⟨[4, a, 8, s, 3, (i : Int)], fre i [] (Int.le_refl _), ?_⟩
      rw [ex_some, upN_ne _ _ (by simp), f17.1, and_t hC, upN_ne _ _ (by simp), f17.2.2.1, k5, in_Piece_init, b_Piece_init_0, and_t ⟨by omega, by omega, by omega, by omega⟩]
      refine ⟨[4, a, 8, s, 3, (i : Int), 1], by rw [upN_ne _ _ (by simp)]; exact fre i [1] (Int.le_refl _), ?_⟩
      rw [upN_ne _ _ (by simp), upN_self, and_t ⟨rfl, rfl⟩, and_t ⟨rfl, rfl⟩, and_t ⟨by omega, by omega, by omega, by omega⟩]
      refine ⟨[4, a, 8, s, 3, (i : Int), 0], by rw [upN_ne _ _ (by simp), upN_ne _ _ (by simp)]; exact fre i [0] (Int.le_refl _), ?_⟩
      rw [upN_ne _ _ (by simp), upN_ne _ _ (by simp), upN_self, and_t ⟨rfl, rfl⟩]
      show Rn (d + 1) M_Segment_init K X 62 _ [vR (some [4, a, 8, s, 3, (i : Int)]), vI (i : Int), vR (R' [4, a, 8, s] 2)] _
      rw [b_Segment_init_62, sgr, ex_some]
      have e7 : upN (upN (upN ty' [4, a, 8, s, 3, (i : Int)] 106) [4, a, 8, s, 3, (i : Int), 1] 1) [4, a, 8, s, 3, (i : Int), 0] 1 [4, a, 8, s, 2] = 7 := by rw [upN_ne _ _ (by simp), upN_ne _ _ (by simp), upN_ne _ _ (by simp)]; exact sgt
      have e6 : upN (upN (upN ty' [4, a, 8, s, 3, (i : Int)] 106) [4, a, 8, s, 3, (i : Int), 1] 1) [4, a, 8, s, 3, (i : Int), 0] 1 [4, a, 8, s, 3, (i : Int)] = 106 := by rw [upN_ne _ _ (by simp), upN_ne _ _ (by simp), upN_self]
      have e8 : upN (upN (upN ln' [4, a, 8, s, 3, (i : Int)] 0) [4, a, 8, s, 3, (i : Int), 1] 8) [4, a, 8, s, 3, (i : Int), 0] l [4, a, 8, s, 2] = N := by rw [upN_ne _ _ (by simp), upN_ne _ _ (by simp), upN_ne _ _ (by simp)]; exact sgl
      rw [and_t ⟨by rw [e7]; decide, rfl, by omega, by rw [e8]; omega, by show 100 ≤ upN _ _ _ _ ∧ avB _ _ = true; rw [e6, e7]; exact ⟨by decide, avB7⟩⟩, w32_id (by omega) (by omega)]
      refine ih (i + 1) _ _ _ _ _ _ (by omega) (by omega) (by omega) (by omega) (fun n hn => ?_) ?_ ?_ (fun j j0 j1 => ?_) (fun j t hj => ?_)
      · have h1 := fr n hn
        have n1 : n ≠ [4, a, 8, s, 3, (i : Int)] := hn _
        have n2 : n ≠ [4, a, 8, s, 3, (i : Int), 1] := hn _
        have n3 : n ≠ [4, a, 8, s, 3, (i : Int), 0] := hn _
        have n4 : n ≠ [4, a, 8, s, 2] := hn _
        refine ⟨by rw [upN_ne _ _ n3, upN_ne _ _ n2, upN_ne _ _ n1]; exact h1.1, by rw [upN_ne _ _ n3, upN_ne _ _ n2, upN_ne _ _ n1]; exact h1.2.1, fun x => ?_, fun x => ?_⟩
        · rw [upN_ne _ _ n3, up2_ne n1, upN_ne _ _ n2, upN_ne _ _ n1]; exact h1.2.2.1 x
        · rw [up2_ne n4, up2_ne n1, upN_ne _ _ n3, up2_ne n1, upN_ne _ _ n2, upN_ne _ _ n1]; exact h1.2.2.2 x
      · refine ⟨?_, ?_, ?_, fun x => ?_, fun x => ?_⟩ <;> rw [upN_ne _ _ (by simp), up2_ne (by simp), upN_ne _ _ (by simp), upN_ne _ _ (by simp)]
        · exact ce.1
        · exact ce.2.1
        · exact ce.2.2.1
        · exact ce.2.2.2.1 x
        · exact ce.2.2.2.2 x
      · refine ⟨?_, ⟨?_, ?_, ?_⟩, ⟨?_, ?_, ?_⟩, ⟨?_, e7, e8⟩⟩
        · rw [upN_ne _ _ (by simp), upN_ne _ _ (by simp), upN_ne _ _ (by simp)]; exact sg0
        · rw [up2_ne (by simp), up2_ne (by simp), upN_ne _ _ (by simp), up2_ne (by simp), upN_ne _ _ (by simp), upN_ne _ _ (by simp)]; exact sg1.1
        · rw [upN_ne _ _ (by simp), upN_ne _ _ (by simp), upN_ne _ _ (by simp)]; exact sg1.2.1
        · rw [upN_ne _ _ (by simp), upN_ne _ _ (by simp), upN_ne _ _ (by simp)]; exact sg1.2.2
        · rw [up2_ne (by simp), up2_ne (by simp), upN_ne _ _ (by simp), up2_ne (by simp), upN_ne _ _ (by simp), upN_ne _ _ (by simp)]; exact sg2.1
        · rw [upN_ne _ _ (by simp), upN_ne _ _ (by simp), upN_ne _ _ (by simp)]; exact sg2.2.1
        · rw [upN_ne _ _ (by simp), upN_ne _ _ (by simp), upN_ne _ _ (by simp)]; exact sg2.2.2
        · rw [up2_ne (by simp), up2_ne (by simp), upN_ne _ _ (by simp), up2_ne (by simp), upN_ne _ _ (by simp), upN_ne _ _ (by simp)]; exact sgr
      · by_cases y : j = i
        · subst y
          refine ⟨⟨?_, e6, ⟨?_, ?_, ?_⟩, ⟨?_, ?_, ?_⟩⟩, ?_, ?_, ?_, fun x => ?_, fun x => ?_⟩
          · rw [up2_self, upI_self]
          · rw [up2_ne (by simp), up2_self, upI_self]
          · rw [upN_self]
          · rw [upN_self]
          · rw [up2_ne (by simp), up2_self, upI_ne _ _ (by decide), upN_ne _ _ (by simp), up2_self, upI_self]
          · rw [upN_ne _ _ (by simp), upN_self]
          · rw [upN_ne _ _ (by simp), upN_self]
          · rw [upN_ne _ _ (by simp), up2_self, upI_self]
          · rw [upN_ne _ _ (by simp), up2_self, upI_ne _ _ (by decide), upN_ne _ _ (by simp), upN_self]
          · rw [upN_ne _ _ (by simp), up2_self, upI_ne _ _ (by decide), upN_ne _ _ (by simp), upN_self]
          · rw [upN_self]
          · rw [upN_ne _ _ (by simp), up2_ne (by simp), upN_self]
        · obtain ⟨⟨p1, p2, ⟨p3, p4, p5⟩, ⟨p6, p7, p8⟩⟩, p9, p10, p11, p12, p13⟩ := pc j j0 (by omega)
          refine ⟨⟨?_, ?_, ⟨?_, ?_, ?_⟩, ⟨?_, ?_, ?_⟩⟩, ?_, ?_, ?_, fun x => ?_, fun x => ?_⟩
          · rw [up2_self, upI_ne _ _ y, up2_ne (by simp), upN_ne _ _ (by simp), up2_ne (by simp), upN_ne _ _ (by simp), upN_ne _ _ (by simp)]; exact p1
          · rw [upN_ne _ _ (by simp), upN_ne _ _ (by simp), upN_ne _ _ (by simp [y])]; exact p2
          · rw [up2_ne (by simp), up2_ne (by simp [y]), upN_ne _ _ (by simp), up2_ne (by simp [y]), upN_ne _ _ (by simp), upN_ne _ _ (by simp [y])]; exact p3
          · rw [upN_ne _ _ (by simp [y]), upN_ne _ _ (by simp), upN_ne _ _ (by simp)]; exact p4
          · rw [upN_ne _ _ (by simp [y]), upN_ne _ _ (by simp), upN_ne _ _ (by simp)]; exact p5
          · rw [up2_ne (by simp), up2_ne (by simp [y]), upN_ne _ _ (by simp), up2_ne (by simp [y]), upN_ne _ _ (by simp), upN_ne _ _ (by simp [y])]; exact p6
          · rw [upN_ne _ _ (by simp), upN_ne _ _ (by simp [y]), upN_ne _ _ (by simp)]; exact p7
          · rw [upN_ne _ _ (by simp), upN_ne _ _ (by simp [y]), upN_ne _ _ (by simp)]; exact p8
          · rw [upN_ne _ _ (by simp), up2_ne (by simp [y]), upN_ne _ _ (by simp), upN_ne _ _ (by simp [y])]; exact p9
          · rw [upN_ne _ _ (by simp), up2_ne (by simp [y]), upN_ne _ _ (by simp), upN_ne _ _ (by simp [y])]; exact p10
          · rw [upN_ne _ _ (by simp), up2_ne (by simp [y]), upN_ne _ _ (by simp), upN_ne _ _ (by simp [y])]; exact p11
          · rw [upN_ne _ _ (by simp [y]), up2_ne (by simp), upN_ne _ _ (by simp), upN_ne _ _ (by simp)]; exact p12 x
          · rw [upN_ne _ _ (by simp), up2_ne (by simp), upN_ne _ _ (by simp [y]), upN_ne _ _ (by simp)]; exact p13 x
      · have y : j ≠ i := by omega
        rw [upN_ne _ _ (by simp [y]), upN_ne _ _ (by simp [y]), upN_ne _ _ (by simp [y])]
        exact fre j t (by omega)
  rw [in_Segment_init, b_Segment_init_0, and_t ⟨by omega, by omega, by omega, by omega⟩]
  refine ⟨[4, a, 8, s, 0], hf [0] (by simp), ?_⟩
  rw [upN_ne _ _ (by simp), and_t ⟨t0, rfl⟩, and_t ⟨by omega, by omega, by omega, by omega⟩]
  refine ⟨[4, a, 8, s, 1], by rw [upN_ne _ _ (by simp)]; exact hf [1] (by simp), ?_⟩
  have e4 : up2 (upN (upN I [4, a, 8, s, 0] (fun _ => 0)) [4, a, 8, s, 1] (fun _ => 0)) [4, a, 8, s] 3 1 [17] 4 = N := by rw [up2_ne (by simp), upN_ne _ _ (by simp), upN_ne _ _ (by simp)]; exact k4
  rw [upN_ne _ _ (by simp), upN_ne _ _ (by simp), and_t ⟨t0, rfl⟩, and_t ⟨Or.inr rfl, t0, rfl⟩, ex_some, upN_ne _ _ (by simp), upN_ne _ _ (by simp), and_t hC, e4, and_t ⟨by omega, by omega, by omega, by omega⟩]
  refine ⟨[4, a, 8, s, 2], by rw [upN_ne _ _ (by simp), upN_ne _ _ (by simp)]; exact hf [2] (by simp), ?_⟩
  rw [upN_ne _ _ (by simp), upN_ne _ _ (by simp), upN_ne _ _ (by simp), and_t ⟨t0, rfl⟩]
  refine key N.toNat 0 _ _ _ _ _ _ (by omega) (by omega) (by omega) (by omega) (fun n hn => ?_) ?_ ?_ (fun j j0 j1 => by omega) (fun j t hj => ?_)
  · have n0 : n ≠ [4, a, 8, s] := hn _
    have n1 : n ≠ [4, a, 8, s, 0] := hn _
    have n2 : n ≠ [4, a, 8, s, 1] := hn _
    have n3 : n ≠ [4, a, 8, s, 2] := hn _
    refine ⟨by rw [upN_ne _ _ n3, upN_ne _ _ n2, upN_ne _ _ n1], by rw [upN_ne _ _ n3, upN_ne _ _ n2, upN_ne _ _ n1], fun x => by rw [upN_ne _ _ n3, up2_ne n0, upN_ne _ _ n2, upN_ne _ _ n1], fun x => by rw [up2_ne n0, upN_ne _ _ n3, up2_ne n0, upN_ne _ _ n2, up2_ne n0, upN_ne _ _ n1]⟩
  · refine ⟨?_, ?_, ?_, fun x => ?_, fun x => ?_⟩
    · rw [upN_ne _ _ (by simp), up2_self, upI_self]
    · rw [upN_ne _ _ (by simp), up2_self, upI_ne _ _ (by decide), upN_ne _ _ (by simp), upN_ne _ _ (by simp)]; exact i0 4
    · rw [upN_ne _ _ (by simp), up2_self, upI_ne _ _ (by decide), upN_ne _ _ (by simp), upN_ne _ _ (by simp)]; exact i0 5
    · rw [upN_ne _ _ (by simp), up2_ne (by simp), upN_ne _ _ (by simp), upN_self]
    · rw [upN_ne _ _ (by simp), up2_ne (by simp), upN_self]
  · refine ⟨?_, ⟨?_, ?_, ?_⟩, ⟨?_, ?_, ?_⟩, ⟨?_, ?_, ?_⟩⟩
    · rw [upN_ne _ _ (by simp), upN_ne _ _ (by simp), upN_ne _ _ (by simp)]; exact t0
    · rw [up2_self, upI_ne _ _ (by decide), upN_ne _ _ (by simp), up2_self, upI_ne _ _ (by decide), upN_ne _ _ (by simp), up2_self, upI_self]
    · rw [upN_ne _ _ (by simp), upN_ne _ _ (by simp), upN_self]
    · rw [upN_ne _ _ (by simp), upN_ne _ _ (by simp), upN_self]
    · rw [up2_self, upI_ne _ _ (by decide), upN_ne _ _ (by simp), up2_self, upI_self]
    · rw [upN_ne _ _ (by simp), upN_self]
    · rw [upN_ne _ _ (by simp), upN_self]
    · rw [up2_self, upI_self]
    · rw [upN_self]
    · rw [upN_self]
  · rw [upN_ne _ _ (by simp), upN_ne _ _ (by simp), upN_ne _ _ (by simp)]; exact hf _ (by simp)
