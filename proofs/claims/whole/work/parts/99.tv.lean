/-! ===== the words behind a seal ===== -/
theorem hcL_22 {J : Int → Int → Int} {a hd x : Int} : ∀ n : Nat, hcL J a hd n 22 x = if 40 * a + hd ≤ x ∧ x < 40 * a + hd + n then 1 else J 22 x
  | 0 => by rw [if_neg (by omega)]; rfl
  | n + 1 => by
    show wJ (uJ (hcL J a hd n) 22 (40 * a + hd + n) 1) 24 _ _ _ 22 x = _
    rw [wJ_ne (by decide), uJ_self]
    by_cases q : x = 40 * a + hd + n
    · rw [q, upI_self, if_pos (by omega)]
    · rw [upI_ne _ _ q, hcL_22 n]
      by_cases p : 40 * a + hd ≤ x ∧ x < 40 * a + hd + n
      · rw [if_pos p, if_pos (by omega)]
      · rw [if_neg p, if_neg (by omega)]
theorem hcL_24 {J : Int → Int → Int} {a hd x : Int} : ∀ n : Nat, hcL J a hd n 24 x = if 60 * (40 * a + hd) ≤ x ∧ x < 60 * (40 * a + hd + n) then J 23 x else J 24 x
  | 0 => by rw [if_neg (by omega)]; rfl
  | n + 1 => by
    show wJ (uJ (hcL J a hd n) 22 (40 * a + hd + n) 1) 24 (60 * (40 * a + hd + n)) (60 * (40 * a + hd + n) + 60) (fun x => J 23 x) 24 x = _
    by_cases q : 60 * (40 * a + hd + n) ≤ x ∧ x < 60 * (40 * a + hd + n) + 60
    · rw [wJ_in q, if_pos (by omega)]
    · rw [wJ_out (by omega), uJ_ne (by decide), hcL_24 n]
      by_cases p : 60 * (40 * a + hd) ≤ x ∧ x < 60 * (40 * a + hd + n)
      · rw [if_pos p, if_pos (by omega)]
      · rw [if_neg p, if_neg (by omega)]
theorem hcL_o {J : Int → Int → Int} {a hd k x : Int} (h : k ≠ 22 ∧ k ≠ 24) : ∀ n : Nat, hcL J a hd n k x = J k x
  | 0 => rfl
  | n + 1 => by
    show wJ (uJ (hcL J a hd n) 22 (40 * a + hd + n) 1) 24 _ _ _ k x = _
    rw [wJ_ne h.2, uJ_ne h.1, hcL_o h n]
theorem sdJ_o {J : Int → Int → Int} {a sl hd k x : Int} (h : k ≠ -1 ∧ k ≠ 15 ∧ k ≠ 16 ∧ k ≠ 22 ∧ k ≠ 24) : sdJ J a sl hd k x = J k x := by
  unfold sdJ
  rw [uJ_ne h.2.1, uJ_ne h.2.2.1, uJ_ne h.1, hcL_o h.2.2.2]
theorem sdJ_m {J : Int → Int → Int} {a sl hd x : Int} : sdJ J a sl hd (-1) x = if x = 4 then 1 else J (-1) x := by
  unfold sdJ
  rw [uJ_ne (by decide), uJ_ne (by decide), uJ_self]
  by_cases q : x = 4
  · rw [if_pos q, q, upI_self]
  · rw [if_neg q, upI_ne _ _ q, hcL_o (by decide)]
theorem sdJ_15 {J : Int → Int → Int} {a sl hd x : Int} : sdJ J a sl hd 15 x = if x = a then J 15 a + 1 else J 15 x := by
  unfold sdJ
  rw [uJ_self]
  by_cases q : x = a
  · rw [if_pos q, q, upI_self]
  · rw [if_neg q, upI_ne _ _ q, uJ_ne (by decide), uJ_ne (by decide), hcL_o (by decide)]
theorem sdJ_16 {J : Int → Int → Int} {a sl hd x : Int} : sdJ J a sl hd 16 x = if x = sl then J 15 a else J 16 x := by
  unfold sdJ
  rw [uJ_ne (by decide), uJ_self]
  by_cases q : x = sl
  · rw [if_pos q, q, upI_self]
  · rw [if_neg q, upI_ne _ _ q, uJ_ne (by decide), hcL_o (by decide)]
theorem sdJ_22 {J : Int → Int → Int} {a sl hd x : Int} : sdJ J a sl hd 22 x = if 40 * a + hd ≤ x ∧ x < 40 * a + hd + (J 20 a - hd).toNat then 1 else J 22 x := by
  unfold sdJ
  rw [uJ_ne (by decide), uJ_ne (by decide), uJ_ne (by decide), hcL_22]
theorem sdJ_24 {J : Int → Int → Int} {a sl hd x : Int} : sdJ J a sl hd 24 x = if 60 * (40 * a + hd) ≤ x ∧ x < 60 * (40 * a + hd + (J 20 a - hd).toNat) then J 23 x else J 24 x := by
  unfold sdJ
  rw [uJ_ne (by decide), uJ_ne (by decide), uJ_ne (by decide), hcL_24]
theorem opN_x {J : Int → Int → Int} {a x : Int} : ∀ n : Nat, (opN J a n 21 x = if 40 * a + J 20 a ≤ x ∧ x < 40 * a + J 20 a + n then 0 else J 21 x) ∧ (opN J a n 22 x = if 40 * a + J 20 a ≤ x ∧ x < 40 * a + J 20 a + n then 1 else J 22 x) ∧ (opN J a n 23 x = if 60 * (40 * a + J 20 a) ≤ x ∧ x < 60 * (40 * a + J 20 a + n) then 0 else J 23 x) ∧ (opN J a n 24 x = if 60 * (40 * a + J 20 a) ≤ x ∧ x < 60 * (40 * a + J 20 a + n) then 0 else J 24 x)
  | 0 => by
    rw [if_neg (by omega), if_neg (by omega), if_neg (by omega), if_neg (by omega)]
    exact ⟨rfl, rfl, rfl, rfl⟩
  | n + 1 => by
    obtain ⟨i1, i2, i3, i4⟩ := opN_x (J := J) (a := a) (x := x) n
    have e := opN_20 (J := J) (a := a) n
    show opS (opN J a n) a 21 x = _ ∧ opS (opN J a n) a 22 x = _ ∧ opS (opN J a n) a 23 x = _ ∧ opS (opN J a n) a 24 x = _
    rw [opS_21, opS_22, opS_23, opS_24, i1, i2, i3, i4, e]
    refine ⟨?_, ?_, ?_, ?_⟩
    · by_cases q : x = 40 * a + (J 20 a + n)
      · rw [if_pos q, if_pos (by omega)]
      · rw [if_neg q]
        by_cases p : 40 * a + J 20 a ≤ x ∧ x < 40 * a + J 20 a + n
        · rw [if_pos p, if_pos (by omega)]
        · rw [if_neg p, if_neg (by omega)]
    · by_cases q : x = 40 * a + (J 20 a + n)
      · rw [if_pos q, if_pos (by omega)]
      · rw [if_neg q]
        by_cases p : 40 * a + J 20 a ≤ x ∧ x < 40 * a + J 20 a + n
        · rw [if_pos p, if_pos (by omega)]
        · rw [if_neg p, if_neg (by omega)]
    · by_cases q : 60 * (40 * a + (J 20 a + n)) ≤ x ∧ x < 60 * (40 * a + (J 20 a + n)) + 60
      · rw [if_pos q, if_pos (by omega)]
      · rw [if_neg q]
        by_cases p : 60 * (40 * a + J 20 a) ≤ x ∧ x < 60 * (40 * a + J 20 a + n)
        · rw [if_pos p, if_pos (by omega)]
        · rw [if_neg p, if_neg (by omega)]
    · by_cases q : 60 * (40 * a + (J 20 a + n)) ≤ x ∧ x < 60 * (40 * a + (J 20 a + n)) + 60
      · rw [if_pos q, if_pos (by omega)]
      · rw [if_neg q]
        by_cases p : 60 * (40 * a + J 20 a) ≤ x ∧ x < 60 * (40 * a + J 20 a + n)
        · rw [if_pos p, if_pos (by omega)]
        · rw [if_neg p, if_neg (by omega)]
theorem frJ_k {J : Int → Int → Int} {a : Int} : ∀ k : Nat, k ≤ 6 → (frJ J a k = -1 ∧ ∀ i : Nat, 6 - k ≤ i → i < 6 → 0 ≤ J 16 (6 * a + i)) ∨ ∃ i : Nat, i < 6 ∧ frJ J a k = 6 * a + i ∧ J 16 (6 * a + i) < 0
  | 0, _ => Or.inl ⟨rfl, fun i i0 i1 => by omega⟩
  | k + 1, hk => by
    have e1 : 6 * a + (5 - (k : Int)) = 6 * a + ((5 - k : Nat) : Int) := by omega
    by_cases q : 0 ≤ J 16 (6 * a + (5 - k))
    · rw [show frJ J a (k + 1) = frJ J a k from if_pos q]
      rcases frJ_k (J := J) (a := a) k (by omega) with ⟨x, y⟩ | y
      · left
        refine ⟨x, fun i i0 i1 => ?_⟩
        by_cases z : i = 5 - k
        · rw [z, ← e1]; exact q
        · exact y i (by omega) i1
      · exact Or.inr y
    · rw [show frJ J a (k + 1) = 6 * a + (5 - k) from if_neg q]
      exact Or.inr ⟨5 - k, by omega, e1, by rw [← e1]; omega⟩
theorem cn3_6 {J : Int → Int → Int} {a : Int} : ∀ n : Nat, (cn3 J a n = n ↔ ∀ i : Nat, i < n → 0 ≤ J 16 (6 * a + i))
  | 0 => ⟨fun _ i hi => by omega, fun _ => rfl⟩
  | n + 1 => by
    have b := cn3_6 (J := J) (a := a) n
    have c := cn3_b (J := J) (b := a) n
    by_cases x : J 16 (6 * a + n) < 0
    · rw [show cn3 J a (n + 1) = cn3 J a n from if_pos x]
      exact ⟨fun h => by omega, fun h => by have := h n (by omega); omega⟩
    · rw [show cn3 J a (n + 1) = cn3 J a n + 1 from if_neg x]
      refine ⟨fun h i hi => ?_, fun h => ?_⟩
      · by_cases z : i = n
        · rw [z]; omega
        · exact b.mp (by omega) i (by omega)
      · have := b.mpr (fun i hi => h i (by omega))
        omega
theorem cn3_ad {J J' : Int → Int → Int} {b v : Int} {k : Nat} (hv : 0 ≤ v) (h0 : J 16 (6 * b + k) < 0) (e : ∀ i : Nat, J' 16 (6 * b + i) = if i = k then v else J 16 (6 * b + i)) : ∀ n : Nat, cn3 J' b n = cn3 J b n + (if k < n then 1 else 0)
  | 0 => by rw [if_neg (by omega)]; rfl
  | n + 1 => by
    show (if _ then _ else _) = (if _ then _ else _) + _
    rw [e n, cn3_ad hv h0 e n]
    by_cases z : n = k
    · subst z
      rw [if_pos rfl, if_neg (by omega), if_neg (by omega), if_pos h0, if_pos (by omega)] <;> omega
    · rw [if_neg z]
      by_cases y : k < n
      · rw [if_pos y, if_pos (show k < n + 1 by omega)]
        by_cases x : J 16 (6 * b + n) < 0
        · rw [if_pos x, if_pos x]
        · rw [if_neg x, if_neg x] <;> omega
      · rw [if_neg y, if_neg (show ¬ k < n + 1 by omega)]
        by_cases x : J 16 (6 * b + n) < 0
        · rw [if_pos x, if_pos x]
        · rw [if_neg x, if_neg x] <;> omega
theorem uA_ad {J J' : Int → Int → Int} {b P v : Int} {k : Nat} (hv : 0 ≤ v) (h0 : J 16 (6 * b + k) < 0) (e : ∀ i : Nat, J' 16 (6 * b + i) = if i = k then v else J 16 (6 * b + i)) (e17 : ∀ i : Nat, i ≠ k → i < 6 → alJ J' (6 * b + i) 10 = alJ J (6 * b + i) 10 ∧ ∀ q : Nat, q ≤ 500 → uI J' (6 * b + i) P q = uI J (6 * b + i) P q) (h17 : ∀ x, J 17 x ≤ 50) : ∀ n : Nat, n ≤ 6 → uA J' b P n = uA J b P n + (if k < n then uI J' (6 * b + k) P (alJ J' (6 * b + k) 10).toNat else 0)
  | 0, _ => by rw [if_neg (by omega)]; rfl
  | n + 1, hn => by
    show uA J' b P n + _ = uA J b P n + _ + _
    rw [uA_ad hv h0 e e17 h17 n (by omega), e n]
    by_cases z : n = k
    · subst z
      rw [if_pos rfl, if_neg (by omega), if_pos hv, if_neg (show ¬ 0 ≤ J 16 (6 * b + n) by omega), if_pos (by omega)] <;> omega
    · have a5 := alJ_50 (J := J) (sl := 6 * b + n) h17 10
      rw [if_neg z, (e17 n z (by omega)).1, (e17 n z (by omega)).2 _ (by omega)]
      by_cases y : k < n
      · rw [if_pos y, if_pos (show k < n + 1 by omega)] <;> omega
      · rw [if_neg y, if_neg (show ¬ k < n + 1 by omega)] <;> omega
theorem RC.m4 {J : Int → Int → Int} {E : Nm → Int → Int} {ty : Nm → Nat} {ln : Nm → Int} {I I' : Nm → Int → Int} {R : Nm → Int → Option Nm} (h : RC J E ty ln I R) (i1 : ∀ m x, (m ≠ [1] ∨ x ≠ 7) → I' m x = I m x) (i7 : I' [1] 7 = 1) : RC (uJ J (-1) 4 1) E ty ln I' R := by
  obtain ⟨⟨g1, g2, g3, g4, g5, g6, g7, g8⟩, h2, h3, h4, h5, h6, h7, h8, h9⟩ := h
  have ne : ∀ k x, k ≠ -1 → uJ J (-1) 4 1 k x = J k x := fun k x hk => by rw [uJ_ne hk]
  have jm : ∀ x, x ≠ 4 → uJ J (-1) 4 1 (-1) x = J (-1) x := fun x hx => by rw [uJ_self, upI_ne _ _ hx]
  have j4 : uJ J (-1) 4 1 (-1) 4 = 1 := by rw [uJ_self, upI_self]
  have i4 : ∀ a l x, I' (4 :: a :: l) x = I (4 :: a :: l) x := fun a l x => i1 _ _ (Or.inl (by simp))
  refine ⟨⟨g1, g2, g3.o (fun m x _ m2 m3 => i1 m x (Or.inl (fun z => by rw [z] at m3; exact absurd m3 (by decide)))), ?_, ?_, ?_, ?_, ?_⟩, ?_, ?_, ?_, ?_, ?_, ?_, ?_, ?_⟩
  · rw [i1 _ _ (Or.inl (by decide)), i1 _ _ (Or.inl (by decide)), i1 _ _ (Or.inl (by decide)), jm 2 (by decide), jm 3 (by decide)]; exact g4
  · rw [i7, j4, i1 _ _ (Or.inr (by decide)), i1 _ _ (Or.inr (by decide)), jm 35 (by decide), jm 1 (by decide)]; exact ⟨g5.1, rfl, g5.2.2⟩
  · rw [jm 35 (by decide)]
    intro x x0 x1
    rw [i1 _ _ (Or.inl (by decide)), ne _ _ (by decide)]; exact g6 x x0 x1
  · intro a a0 a1
    rw [ne _ _ (by decide)]; exact g7 a a0 a1
  · rw [jm 2 (by decide), jm 3 (by decide), jm 35 (by decide), j4, jm 1 (by decide)]
    exact ⟨g8.1, g8.2.1, g8.2.2.1, Or.inr rfl, g8.2.2.2.2⟩
  · intro a ha
    unfold hsJ at ha
    rw [ne _ _ (by decide)] at ha; exact h2 a ha
  · intro a ha
    unfold hsJ at ha
    rw [ne _ _ (by decide)] at ha; rw [i4]; exact h3 a ha
  · intro a ha
    unfold hsJ at ha
    rw [ne _ _ (by decide)] at ha; rw [i4, ne _ _ (by decide)]; exact h4 a ha
  · intro a s hs
    unfold sgJ at hs
    rw [ne _ _ (by decide), ne _ _ (by decide)] at hs; exact h5 a s hs
  · intro a s hs
    unfold sgJ at hs
    rw [ne _ _ (by decide), ne _ _ (by decide)] at hs; rw [jm 3 (by decide), jm 2 (by decide)]; exact h6 a s hs
  · intro m x k y hl
    have hl' : LK J m x k y := hl.cg (fun x => ne _ _ (by decide)) (fun x => ne _ _ (by decide)) (fun x => ne _ _ (by decide)) (fun x => ne _ _ (by decide)) (fun x => by
      by_cases z : x = 4
      · exact Or.inr ⟨by omega, by omega⟩
      · exact Or.inl (jm x z))
    have h4' := hl'.hd4
    rw [i1 m x (Or.inl (fun z => by rw [z] at h4'; exact absurd h4' (by decide))), ne _ _ hl'.kr.1]
    exact h7 m x k y hl'
  · intro a t ha t0 t1
    unfold hsJ at ha
    rw [ne _ _ (by decide)] at ha
    rw [i4, ne _ _ (by decide), ne _ _ (by decide)]; exact h8 a t ha t0 t1
  · intro m x he
    rw [i1 m x (Or.inl ?_)]
    · exact h9 m x he
    · intro z; rw [z] at he; unfold evC at he; rcases he with g | ⟨a', k', l', g, g'⟩ | ⟨a', g⟩ | ⟨a', g, g'⟩ | ⟨a', s', g, g'⟩ <;> simp [hd] at g
