/-! ===== a stretch of one of the reference's arrays written anew ===== -/
def wJ (J : Int → Int → Int) (k lo hi : Int) (f : Int → Int) : Int → Int → Int := fun k' j => if k' = k ∧ lo ≤ j ∧ j < hi then f j else J k' j
theorem wJ_ne {J : Int → Int → Int} {k lo hi k' j : Int} {f : Int → Int} (h : k' ≠ k) : wJ J k lo hi f k' j = J k' j := if_neg fun z => h z.1
theorem wJ_out {J : Int → Int → Int} {k lo hi j : Int} {f : Int → Int} (h : j < lo ∨ hi ≤ j) : wJ J k lo hi f k j = J k j := if_neg fun z => by omega
theorem wJ_in {J : Int → Int → Int} {k lo hi j : Int} {f : Int → Int} (h : lo ≤ j ∧ j < hi) : wJ J k lo hi f k j = f j := if_pos ⟨rfl, h⟩
theorem wJ_nil {J : Int → Int → Int} {k lo hi : Int} {f : Int → Int} (h : hi ≤ lo) : wJ J k lo hi f = J := by
  funext k' j
  exact if_neg fun z => by omega
theorem wJ_up {J : Int → Int → Int} {k lo hi v : Int} {f : Int → Int} (h : lo ≤ hi) (hv : v = f hi) : uJ (wJ J k lo hi f) k hi v = wJ J k lo (hi + 1) f := by
  funext k' j
  unfold uJ
  by_cases e : k' = k
  · subst e
    rw [if_pos rfl]
    by_cases e2 : j = hi
    · subst e2
      rw [upI_self, wJ_in (by omega), hv]
    · rw [upI_ne _ _ e2]
      unfold wJ
      by_cases q : lo ≤ j ∧ j < hi
      · rw [if_pos ⟨rfl, q⟩, if_pos ⟨rfl, by omega⟩]
      · rw [if_neg fun z => q z.2, if_neg fun z => q (by omega)]
  · rw [if_neg e, wJ_ne e, wJ_ne e]
theorem wJ_ext {J : Int → Int → Int} {k lo hi : Int} {f g : Int → Int} (h : ∀ j, lo ≤ j → j < hi → f j = g j) : wJ J k lo hi f = wJ J k lo hi g := by
  funext k' j
  unfold wJ
  by_cases q : k' = k ∧ lo ≤ j ∧ j < hi
  · rw [if_pos q, if_pos q, h j q.2.1 q.2.2]
  · rw [if_neg q, if_neg q]
