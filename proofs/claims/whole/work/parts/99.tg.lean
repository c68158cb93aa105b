/-! ===== a snapshot goes: the reference's words ===== -/
theorem slJ_none {J : Int → Int → Int} {b m : Int} : ∀ n : Nat, (∀ k : Nat, k < n → J 16 (6 * b + k) ≠ m) → slJ J b m n = -1
  | 0, _ => rfl
  | n + 1, h => by
    rw [show slJ J b m (n + 1) = slJ J b m n from if_neg (h n (by omega))]
    exact slJ_none n (fun k hk => h k (by omega))
theorem slJ_uq {J : Int → Int → Int} {b m : Int} {k : Nat} (hm : J 16 (6 * b + k) = m) : ∀ n : Nat, (∀ k' : Nat, k' < n → J 16 (6 * b + k') = m → k' = k) → k < n → slJ J b m n = 6 * b + k
  | 0, _, h => absurd h (Nat.not_lt_zero _)
  | n + 1, hu, h => by
    by_cases q : J 16 (6 * b + n) = m
    · rw [show slJ J b m (n + 1) = 6 * b + n from if_pos q, hu n (by omega) q]
    · rw [show slJ J b m (n + 1) = slJ J b m n from if_neg q]
      have : k ≠ n := fun z => q (by rw [← z]; exact hm)
      exact slJ_uq hm n (fun k' hk' => hu k' (by omega)) (by omega)
theorem slot_uq {J : Int → Int → Int} {b m : Int} {k : Nat} (hN : NUM J b) (hk : k < 6) (h0 : 0 ≤ m) (hm : J 16 (6 * b + k) = m) : slotJ J b m = 6 * b + k := by
  unfold slotJ
  rw [if_neg (by omega)]
  exact slJ_uq hm 6 (fun k' hk' e => (hN.2.1 k k' hk hk' (by omega) (hm.trans e.symm)).symm) hk
theorem slot_none {J : Int → Int → Int} {b m : Int} (h : ∀ k : Nat, k < 6 → J 16 (6 * b + k) ≠ m) : slotJ J b m = -1 := by
  unfold slotJ
  split
  · rfl
  · exact slJ_none 6 h
theorem u16 {J : Int → Int → Int} {b v : Int} {k k' : Nat} : uJ J 16 (6 * b + k) v 16 (6 * b + k') = if k' = k then v else J 16 (6 * b + k') := by
  rw [uJ_self]
  by_cases z : k' = k
  · rw [if_pos z, z, upI_self]
  · rw [if_neg z, upI_ne _ _ (by omega)]
theorem NUM.rm {J : Int → Int → Int} {b : Int} {k : Nat} (h : NUM J b) : NUM (uJ J 16 (6 * b + k) (-1)) b := by
  obtain ⟨n1, n2, n3⟩ := h
  refine ⟨fun i hi => ?_, fun i i' hi hi' => ?_, fun i t hi ht => ?_⟩
  · rw [u16, uJ_ne (by decide)]
    split
    · exact Or.inr (by decide)
    · exact n1 i hi
  · rw [u16, u16]
    by_cases z : i = k
    · rw [if_pos z]; intro y; omega
    · rw [if_neg z]
      by_cases z' : i' = k
      · rw [if_pos z']; intro y e; omega
      · rw [if_neg z']; exact n2 i i' hi hi'
  · rw [u16]
    by_cases z : i = k
    · rw [if_pos z]; intro y; omega
    · rw [if_neg z, lnS_c (J := J) (fun x => by rw [uJ_ne (by decide)]), alJ_c (J := J) t (fun x _ => by rw [uJ_ne (by decide)]), uJ_ne (by decide)]
      exact n3 i t hi ht
theorem slot_rm {J : Int → Int → Int} {b m : Int} {k : Nat} (hb : 0 ≤ b) (hN : NUM J b) (hk : k < 6) (h0 : 0 ≤ J 16 (6 * b + k)) (hm : 0 ≤ m) : slotJ (uJ J 16 (6 * b + k) (-1)) b m = if m = J 16 (6 * b + k) then -1 else slotJ J b m := by
  by_cases z : m = J 16 (6 * b + k)
  · rw [if_pos z]
    refine slot_none (fun i hi => ?_)
    rw [u16]
    by_cases y : i = k
    · rw [if_pos y]; omega
    · rw [if_neg y]; exact fun e => y (hN.2.1 k i hk hi h0 (z.symm.trans e.symm)).symm
  · rw [if_neg z]
    by_cases s : 0 ≤ slotJ J b m
    · obtain ⟨_, k', hk', ek, e16⟩ := slot_k hb s
      have : k' ≠ k := fun e => z (by rw [← e]; exact e16.symm)
      rw [ek]
      exact slot_uq hN.rm hk' hm (by rw [u16, if_neg this]; exact e16)
    · have s1 : slotJ J b m = -1 := by
        unfold slotJ at s ⊢
        rw [if_neg (by omega)] at s ⊢
        rcases slJ_k (J := J) (b := b) (m := m) 6 with y | ⟨k', _, y, _⟩
        · exact y
        · omega
      rw [s1]
      refine slot_none (fun i hi => ?_)
      rw [u16]
      by_cases y : i = k
      · rw [if_pos y]; omega
      · rw [if_neg y]
        intro e
        have := slot_uq hN hi hm e
        omega
theorem uA_rm {J : Int → Int → Int} {b P : Int} {k : Nat} (h0 : 0 ≤ J 16 (6 * b + k)) : ∀ n : Nat, uA (uJ J 16 (6 * b + k) (-1)) b P n = uA J b P n - (if k < n then uI J (6 * b + k) P (alJ J (6 * b + k) 10).toNat else 0)
  | 0 => by rw [if_neg (by omega)]; rfl
  | n + 1 => by
    have e1 : alJ (uJ J 16 (6 * b + k) (-1)) (6 * b + n) 10 = alJ J (6 * b + n) 10 := alJ_c 10 (fun x _ => by rw [uJ_ne (by decide)])
    have e2 : ∀ q, uI (uJ J 16 (6 * b + k) (-1)) (6 * b + n) P q = uI J (6 * b + n) P q := fun q => uI_c q (fun x _ => by rw [uJ_ne (by decide)])
    show uA _ b P n + _ = uA J b P n + _ - _
    rw [uA_rm h0 n, u16, e1, e2]
    by_cases z : n = k
    · subst z
      rw [if_pos rfl, if_neg (show ¬ (0 : Int) ≤ -1 by decide), if_neg (by omega), if_pos h0, if_pos (by omega)]; omega
    · rw [if_neg z]
      by_cases y : k < n
      · rw [if_pos y, if_pos (show k < n + 1 by omega)]; omega
      · rw [if_neg y, if_neg (show ¬ k < n + 1 by omega)]; omega
theorem uI_le {J : Int → Int → Int} {s P : Int} : ∀ n : Nat, uI J s P n ≤ n
  | 0 => Int.le_refl _
  | n + 1 => by
    have := uI_le (J := J) (s := s) (P := P) n
    show uI J s P n + _ ≤ _
    split <;> omega
theorem uA_le {J : Int → Int → Int} {b P : Int} (h17 : ∀ x, J 17 x ≤ 50) : ∀ n : Nat, uA J b P n ≤ 500 * n
  | 0 => Int.le_refl _
  | n + 1 => by
    have := uA_le (b := b) (P := P) h17 n
    have a5 := alJ_50 (J := J) (sl := 6 * b + n) h17 10
    have a0 := alJ_0 (J := J) (sl := 6 * b + n) 10
    have u := uI_le (J := J) (s := 6 * b + n) (P := P) (alJ J (6 * b + n) 10).toNat
    show uA J b P n + _ ≤ _
    split <;> omega
theorem cn3_rm {J : Int → Int → Int} {b : Int} {k : Nat} (h0 : 0 ≤ J 16 (6 * b + k)) : ∀ n : Nat, cn3 (uJ J 16 (6 * b + k) (-1)) b n = cn3 J b n - (if k < n then 1 else 0)
  | 0 => by rw [if_neg (by omega)]; rfl
  | n + 1 => by
    show (if _ then _ else _) = (if _ then _ else _) - _
    rw [u16, cn3_rm h0 n]
    by_cases z : n = k
    · subst z
      rw [if_pos rfl, if_pos (show (-1 : Int) < 0 by decide), if_neg (by omega), if_neg (by omega), if_pos (by omega)]; omega
    · rw [if_neg z]
      by_cases y : k < n
      · rw [if_pos y, if_pos (show k < n + 1 by omega)]
        by_cases x : J 16 (6 * b + n) < 0
        · rw [if_pos x, if_pos x]
        · rw [if_neg x, if_neg x]; omega
      · rw [if_neg y, if_neg (show ¬ k < n + 1 by omega)]
        by_cases x : J 16 (6 * b + n) < 0
        · rw [if_pos x, if_pos x]
        · rw [if_neg x, if_neg x]; omega
theorem cn3_b {J : Int → Int → Int} {b : Int} : ∀ n : Nat, 0 ≤ cn3 J b n ∧ cn3 J b n ≤ n
  | 0 => ⟨Int.le_refl _, Int.le_refl _⟩
  | n + 1 => by
    have := cn3_b (J := J) (b := b) n
    by_cases x : J 16 (6 * b + n) < 0
    · rw [show cn3 J b (n + 1) = cn3 J b n from if_pos x]; omega
    · rw [show cn3 J b (n + 1) = cn3 J b n + 1 from if_neg x]; omega
/-- the chunks that are still used -/
def fil (J : Int → Int → Int) (b : Int) (L : List Ck) : List Ck := L.filter (fun e => decide (uA J b e.2.2.1 6 ≠ 0))
theorem fil_mem {J : Int → Int → Int} {b : Int} {L : List Ck} {e : Ck} : e ∈ fil J b L ↔ e ∈ L ∧ uA J b e.2.2.1 6 ≠ 0 := by
  unfold fil
  rw [List.mem_filter, decide_eq_true_iff]
theorem CVR.rm {J : Int → Int → Int} {b : Int} {k : Nat} {L : List Ck} (h : CVR J b (-1) L) (hb : 0 ≤ b) : CVR (uJ J 16 (6 * b + k) (-1)) b (-1) (fil (uJ J 16 (6 * b + k) (-1)) b L) := by
  obtain ⟨c1, c2, c3, c4⟩ := h
  have ne : ∀ m x, m ≠ 16 → uJ J 16 (6 * b + k) (-1) m x = J m x := fun m x hm => by rw [uJ_ne hm]
  refine ⟨?_, ?_, ?_, ?_⟩
  · refine (c1.sublist List.filter_sublist).imp ?_
    intro e f d
    refine ⟨d.1, d.2.1, fun z => d.2.2 ⟨z.1, fun x x0 x1 => ?_⟩⟩
    have := z.2 x x0 x1
    rw [ne 23 _ (by decide), ne 23 _ (by decide)] at this
    exact this
  · intro e he
    rw [ne 20 _ (by decide)]
    exact c2 e (fil_mem.mp he).1
  · intro i j hij
    obtain ⟨h1, h2, h3⟩ := hij
    rw [alJ_c (J := J) 10 (fun x _ => ne 17 _ (by decide))] at h3
    have l0 : 0 ≤ uJ J 16 (6 * b + k) (-1) 16 (6 * b + i) := h2.elim id (fun z => by omega)
    have l1 : 0 ≤ J 16 (6 * b + i) := by
      rw [u16] at l0
      by_cases z : i = k
      · rw [if_pos z] at l0; omega
      · rw [if_neg z] at l0; exact l0
    obtain ⟨e, he, p1, p2⟩ := c3 i j ⟨h1, Or.inl l1, h3⟩
    refine ⟨e, fil_mem.mpr ⟨he, ?_⟩, by rw [ne 18 _ (by decide)]; exact p1, by rw [ne 19 _ (by decide)]; exact p2⟩
    have : 0 < uA (uJ J 16 (6 * b + k) (-1)) b e.2.2.1 6 := (uA_p 6).2.mpr ⟨i, j, h1, l0, by rw [alJ_c (J := J) 10 (fun x _ => ne 17 _ (by decide))]; exact h3, by rw [ne 18 _ (by decide)]; exact p1.symm⟩
    omega
  · intro e he
    obtain ⟨he1, he2⟩ := fil_mem.mp he
    have p := uA_p (J := uJ J 16 (6 * b + k) (-1)) (a := b) (P := e.2.2.1) 6
    obtain ⟨i, j, h1, h2, h3, h4⟩ := p.2.mp (by omega)
    exact ⟨i, j, ⟨h1, Or.inl h2, h3⟩, h4⟩
