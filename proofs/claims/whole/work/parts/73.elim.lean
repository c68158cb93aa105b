/-! ===== elimination ===== -/
def stepA (A : Int → Int → Int) (i : Int) : Int → Int → Int := fun r c => if r = i then mulZ (invZ (A i i)) (A i c) else xorZ (A r c) (mulZ (A r i) (mulZ (invZ (A i i)) (A i c)))
def elA (A : Int → Int → Int) : Nat → Int → Int → Int
  | 0 => A
  | i + 1 => stepA (elA A i) i
theorem stepA_g {A : Int → Int → Int} {k l i : Int} (hl : 0 ≤ l) (h : rg8 A k l) (hi : 0 ≤ i ∧ i < k) : rg8 (stepA A i) k l := fun r c r0 r1 c0 c1 => by
  have v := invZ_r (a := A i i)
  unfold stepA
  by_cases q : r = i
  · rw [if_pos q]
    exact mulZ_r (by omega)
  · rw [if_neg q]
    exact xorZ_r (h r c r0 r1 c0 c1) (mulZ_r (h r i r0 r1 hi.1 (by omega)))
theorem elA_g {A : Int → Int → Int} {k l : Int} (hl : 0 ≤ l) (h : rg8 A k l) : ∀ n : Nat, (n : Int) ≤ k → rg8 (elA A n) k l
  | 0, _ => h
  | n + 1, hn => stepA_g hl (elA_g hl h n (by omega)) (by omega)
/-- the first K of the first n pieces of segment s that can be reached -/
def selJ (J : Int → Int → Int) (s : Int) (K : Nat) : Nat → List Nat
  | 0 => []
  | j + 1 => if (selJ J s K j).length < K ∧ isR J (12 * s + j) then selJ J s K j ++ [j] else selJ J s K j
theorem selJ_len {J : Int → Int → Int} {s : Int} {K : Nat} : ∀ n : Nat, (selJ J s K n).length ≤ K ∧ (((selJ J s K n).length : Int) = cntR J s n ∨ ((selJ J s K n).length = K ∧ (K : Int) ≤ cntR J s n))
  | 0 => ⟨Nat.zero_le _, Or.inl rfl⟩
  | n + 1 => by
    obtain ⟨a, b⟩ := selJ_len (J := J) (s := s) (K := K) n
    by_cases q : isR J (12 * s + n)
    · have ec : cntR J s (n + 1) = cntR J s n + 1 := if_pos q
      by_cases q2 : (selJ J s K n).length < K
      · rw [show selJ J s K (n + 1) = selJ J s K n ++ [n] from if_pos ⟨q2, q⟩, List.length_append, List.length_singleton, ec]
        omega
      · rw [show selJ J s K (n + 1) = selJ J s K n from if_neg (fun z => q2 z.1), ec]
        omega
    · have ec : cntR J s (n + 1) = cntR J s n := if_neg q
      rw [show selJ J s K (n + 1) = selJ J s K n from if_neg (fun z => q z.2), ec]
      exact ⟨a, b⟩
theorem selJ_lt {J : Int → Int → Int} {s : Int} {K : Nat} : ∀ n : Nat, ∀ x ∈ selJ J s K n, x < n
  | 0, x, h => absurd h List.not_mem_nil
  | n + 1, x, h => by
    by_cases q : (selJ J s K n).length < K ∧ isR J (12 * s + n)
    · rw [show selJ J s K (n + 1) = selJ J s K n ++ [n] from if_pos q] at h
      rcases List.mem_append.mp h with h | h
      · have := selJ_lt n x h; omega
      · have := List.mem_singleton.mp h; omega
    · rw [show selJ J s K (n + 1) = selJ J s K n from if_neg q] at h
      have := selJ_lt n x h
      omega
theorem selJ_full {J : Int → Int → Int} {s : Int} {K j : Nat} (h : (selJ J s K j).length = K) : ∀ n : Nat, selJ J s K (j + n) = selJ J s K j
  | 0 => rfl
  | n + 1 => by
    have e := selJ_full h n
    rw [show selJ J s K (j + (n + 1)) = selJ J s K (j + n) from if_neg (fun z => by have z1 : (selJ J s K (j + n)).length < K := z.1; rw [e, h] at z1; omega), e]
/-- the system that pieces js give, rows behind them as they were -/
def sysA (J : Int → Int → Int) (s k : Int) (js : List Nat) : Int → Int → Int := fun r c =>
  if r < js.length then (if c < k then cfZ ((js.getD r.toNat 0 : Nat) : Int) c else J 27 (30 * (12 * s + ((js.getD r.toNat 0 : Nat) : Int)) + (c - k))) else (if c < k then J 32 (6 * r + c) else J 34 (30 * r + (c - k)))
theorem sys_nil {J : Int → Int → Int} {s k l : Int} (hk : k ≤ 6) (hl : 0 ≤ l ∧ l ≤ 30) : mxJ J k l (sysA J s k []) = J := by
  funext q j
  unfold mxJ sysA
  by_cases c1 : q = 32 ∧ 0 ≤ j ∧ j < 6 * k ∧ j % 6 < k
  · rw [if_pos c1, if_neg (by show ¬ (j / 6 < ((0 : Nat) : Int)); omega), if_pos c1.2.2.2, c1.1, show 6 * (j / 6) + j % 6 = j by omega]
  · rw [if_neg c1]
    by_cases c2 : q = 34 ∧ 0 ≤ j ∧ j < 30 * k ∧ j % 30 < l
    · rw [if_pos c2, if_neg (by show ¬ (j / 30 < ((0 : Nat) : Int)); omega), if_neg (by omega), c2.1, show 30 * (j / 30) + (k + j % 30 - k) = j by omega]
    · rw [if_neg c2]
theorem sys_snoc {J : Int → Int → Int} {s k l : Int} {js : List Nat} {j : Nat} (hl : 0 ≤ l) : mxJ J k l (rowF (sysA J s k js) js.length (k + l) (fun c => if c < k then cfZ (j : Int) c else J 27 (30 * (12 * s + (j : Int)) + (c - k)))) = mxJ J k l (sysA J s k (js ++ [j])) := by
  refine mx_e hl (fun r c r0 r1 c0 c1 => ?_)
  have e1 : ((js ++ [j]).length : Int) = js.length + 1 := by rw [List.length_append, List.length_singleton]; rfl
  by_cases q : r = js.length
  · rw [q, rowF_lt c1]
    unfold sysA
    rw [if_pos (show ((js.length : Nat) : Int) < (((js ++ [j]).length : Nat) : Int) by omega), show (js ++ [j]).getD ((js.length : Int)).toNat 0 = j by simp]
  · rw [rowF_ne q]
    unfold sysA
    by_cases q2 : r < js.length
    · rw [if_pos q2, if_pos (show r < (((js ++ [j]).length : Nat) : Int) by omega), show (js ++ [j]).getD r.toNat 0 = js.getD r.toNat 0 by rw [List.getD_eq_getElem?_getD, List.getD_eq_getElem?_getD, List.getElem?_append_left (by omega)]]
    · rw [if_neg q2, if_neg (show ¬ r < (((js ++ [j]).length : Nat) : Int) by omega)]
theorem sys_g {J : Int → Int → Int} {s k l : Int} {js : List Nat} (h : MR J) : rg8 (sysA J s k js) k l := fun r c r0 r1 c0 c1 => by
  unfold sysA
  split
  · split
    · have := cfZ_r (j := ((js.getD r.toNat 0 : Nat) : Int)) (i := c)
      omega
    · have := h.k27 (30 * (12 * s + ((js.getD r.toNat 0 : Nat) : Int)) + (c - k))
      omega
  · split
    · have := h.k32 (6 * r + c)
      omega
    · have := h.k34 (30 * r + (c - k))
      omega
