/-! ===== between what bounds the reference's words stay ===== -/
def loK (k : Int) : Int := if k = 16 ∨ k = 17 ∨ k = 25 then -1 else 0
def hiK (k : Int) : Int := if k = 5 then 400 else if k = 6 then 1 else if k = 7 then 1 else if k = 8 then 1 else if k = 9 then 100 else if k = 10 then 100 else if k = 11 then 1000000 else if k = 12 then 1 else if k = 13 then 200 else if k = 14 then 255 else if k = 15 then 30 else if k = 16 then 29 else if k = 17 then 50 else if k = 18 then 23999 else if k = 19 then 16 else if k = 20 then 40 else if k = 21 then 1 else if k = 22 then 1 else if k = 23 then 255 else if k = 24 then 255 else if k = 25 then 9 else if k = 26 then 1 else if k = 27 then 255 else if k = 28 then 8 else if k = 29 then 65520 else if k = 31 then 255 else if k = 32 then 255 else if k = 33 then 255 else if k = 34 then 255 else if k = 36 then 255 else if k = 37 then 255 else 0
def MR (J : Int → Int → Int) : Prop := ∀ k j : Int, 5 ≤ k → k ≤ 37 → k ≠ 30 → k ≠ 35 → loK k ≤ J k j ∧ J k j ≤ hiK k
theorem MR.u {J : Int → Int → Int} {k j v : Int} (h : MR J) (hv : k = -1 ∨ (loK k ≤ v ∧ v ≤ hiK k)) : MR (uJ J k j v) := by
  intro k' j' a b c d
  by_cases q : k' = k
  · subst q
    rw [uJ_self]
    by_cases q2 : j' = j
    · subst q2
      rw [upI_self]
      rcases hv with z | z
      · omega
      · exact z
    · rw [upI_ne _ _ q2]; exact h _ _ a b c d
  · rw [uJ_ne q]; exact h _ _ a b c d
theorem MR.w {J : Int → Int → Int} {k lo hi : Int} {f : Int → Int} (h : MR J) (hv : ∀ x, lo ≤ x → x < hi → loK k ≤ f x ∧ f x ≤ hiK k) : MR (wJ J k lo hi f) := by
  intro k' j' a b c d
  by_cases q : k' = k
  · subst q
    by_cases q2 : lo ≤ j' ∧ j' < hi
    · rw [wJ_in q2]; exact hv _ q2.1 q2.2
    · rw [wJ_out (by omega)]; exact h _ _ a b c d
  · rw [wJ_ne q]; exact h _ _ a b c d
theorem MR.k5 {J : Int → Int → Int} (h : MR J) (j : Int) : 0 ≤ J 5 j ∧ J 5 j ≤ 400 := h 5 j (by decide) (by decide) (by decide) (by decide)
theorem MR.k6 {J : Int → Int → Int} (h : MR J) (j : Int) : 0 ≤ J 6 j ∧ J 6 j ≤ 1 := h 6 j (by decide) (by decide) (by decide) (by decide)
theorem MR.k7 {J : Int → Int → Int} (h : MR J) (j : Int) : 0 ≤ J 7 j ∧ J 7 j ≤ 1 := h 7 j (by decide) (by decide) (by decide) (by decide)
theorem MR.k8 {J : Int → Int → Int} (h : MR J) (j : Int) : 0 ≤ J 8 j ∧ J 8 j ≤ 1 := h 8 j (by decide) (by decide) (by decide) (by decide)
theorem MR.k9 {J : Int → Int → Int} (h : MR J) (j : Int) : 0 ≤ J 9 j ∧ J 9 j ≤ 100 := h 9 j (by decide) (by decide) (by decide) (by decide)
theorem MR.k10 {J : Int → Int → Int} (h : MR J) (j : Int) : 0 ≤ J 10 j ∧ J 10 j ≤ 100 := h 10 j (by decide) (by decide) (by decide) (by decide)
theorem MR.k11 {J : Int → Int → Int} (h : MR J) (j : Int) : 0 ≤ J 11 j ∧ J 11 j ≤ 1000000 := h 11 j (by decide) (by decide) (by decide) (by decide)
theorem MR.k12 {J : Int → Int → Int} (h : MR J) (j : Int) : 0 ≤ J 12 j ∧ J 12 j ≤ 1 := h 12 j (by decide) (by decide) (by decide) (by decide)
theorem MR.k13 {J : Int → Int → Int} (h : MR J) (j : Int) : 0 ≤ J 13 j ∧ J 13 j ≤ 200 := h 13 j (by decide) (by decide) (by decide) (by decide)
theorem MR.k14 {J : Int → Int → Int} (h : MR J) (j : Int) : 0 ≤ J 14 j ∧ J 14 j ≤ 255 := h 14 j (by decide) (by decide) (by decide) (by decide)
theorem MR.k15 {J : Int → Int → Int} (h : MR J) (j : Int) : 0 ≤ J 15 j ∧ J 15 j ≤ 30 := h 15 j (by decide) (by decide) (by decide) (by decide)
theorem MR.k16 {J : Int → Int → Int} (h : MR J) (j : Int) : -1 ≤ J 16 j ∧ J 16 j ≤ 29 := h 16 j (by decide) (by decide) (by decide) (by decide)
theorem MR.k17 {J : Int → Int → Int} (h : MR J) (j : Int) : -1 ≤ J 17 j ∧ J 17 j ≤ 50 := h 17 j (by decide) (by decide) (by decide) (by decide)
theorem MR.k18 {J : Int → Int → Int} (h : MR J) (j : Int) : 0 ≤ J 18 j ∧ J 18 j ≤ 23999 := h 18 j (by decide) (by decide) (by decide) (by decide)
theorem MR.k19 {J : Int → Int → Int} (h : MR J) (j : Int) : 0 ≤ J 19 j ∧ J 19 j ≤ 16 := h 19 j (by decide) (by decide) (by decide) (by decide)
theorem MR.k20 {J : Int → Int → Int} (h : MR J) (j : Int) : 0 ≤ J 20 j ∧ J 20 j ≤ 40 := h 20 j (by decide) (by decide) (by decide) (by decide)
theorem MR.k21 {J : Int → Int → Int} (h : MR J) (j : Int) : 0 ≤ J 21 j ∧ J 21 j ≤ 1 := h 21 j (by decide) (by decide) (by decide) (by decide)
theorem MR.k22 {J : Int → Int → Int} (h : MR J) (j : Int) : 0 ≤ J 22 j ∧ J 22 j ≤ 1 := h 22 j (by decide) (by decide) (by decide) (by decide)
theorem MR.k23 {J : Int → Int → Int} (h : MR J) (j : Int) : 0 ≤ J 23 j ∧ J 23 j ≤ 255 := h 23 j (by decide) (by decide) (by decide) (by decide)
theorem MR.k24 {J : Int → Int → Int} (h : MR J) (j : Int) : 0 ≤ J 24 j ∧ J 24 j ≤ 255 := h 24 j (by decide) (by decide) (by decide) (by decide)
theorem MR.k25 {J : Int → Int → Int} (h : MR J) (j : Int) : -1 ≤ J 25 j ∧ J 25 j ≤ 9 := h 25 j (by decide) (by decide) (by decide) (by decide)
theorem MR.k26 {J : Int → Int → Int} (h : MR J) (j : Int) : 0 ≤ J 26 j ∧ J 26 j ≤ 1 := h 26 j (by decide) (by decide) (by decide) (by decide)
theorem MR.k27 {J : Int → Int → Int} (h : MR J) (j : Int) : 0 ≤ J 27 j ∧ J 27 j ≤ 255 := h 27 j (by decide) (by decide) (by decide) (by decide)
theorem MR.k28 {J : Int → Int → Int} (h : MR J) (j : Int) : 0 ≤ J 28 j ∧ J 28 j ≤ 8 := h 28 j (by decide) (by decide) (by decide) (by decide)
theorem MR.k29 {J : Int → Int → Int} (h : MR J) (j : Int) : 0 ≤ J 29 j ∧ J 29 j ≤ 65520 := h 29 j (by decide) (by decide) (by decide) (by decide)
theorem MR.k31 {J : Int → Int → Int} (h : MR J) (j : Int) : 0 ≤ J 31 j ∧ J 31 j ≤ 255 := h 31 j (by decide) (by decide) (by decide) (by decide)
theorem MR.k32 {J : Int → Int → Int} (h : MR J) (j : Int) : 0 ≤ J 32 j ∧ J 32 j ≤ 255 := h 32 j (by decide) (by decide) (by decide) (by decide)
theorem MR.k33 {J : Int → Int → Int} (h : MR J) (j : Int) : 0 ≤ J 33 j ∧ J 33 j ≤ 255 := h 33 j (by decide) (by decide) (by decide) (by decide)
theorem MR.k34 {J : Int → Int → Int} (h : MR J) (j : Int) : 0 ≤ J 34 j ∧ J 34 j ≤ 255 := h 34 j (by decide) (by decide) (by decide) (by decide)
theorem MR.k36 {J : Int → Int → Int} (h : MR J) (j : Int) : 0 ≤ J 36 j ∧ J 36 j ≤ 255 := h 36 j (by decide) (by decide) (by decide) (by decide)
theorem MR.k37 {J : Int → Int → Int} (h : MR J) (j : Int) : 0 ≤ J 37 j ∧ J 37 j ≤ 255 := h 37 j (by decide) (by decide) (by decide) (by decide)
/-- the reference's own fields -/
def SC (J : Int → Int → Int) : Prop := (2 ≤ J (-1) 2 ∧ J (-1) 2 ≤ 6) ∧ (J (-1) 2 ≤ J (-1) 3 ∧ J (-1) 3 ≤ 12) ∧ (0 ≤ J (-1) 35 ∧ J (-1) 35 ≤ 200) ∧ (J (-1) 4 = 0 ∨ J (-1) 4 = 1) ∧ (0 ≤ J (-1) 1 ∧ J (-1) 1 ≤ 10000)
theorem SC.u {J : Int → Int → Int} {k j v : Int} (h : SC J) (hk : k ≠ -1 ∨ j = 0 ∨ j = 30) : SC (uJ J k j v) := by
  unfold SC at h ⊢
  by_cases q : k = -1
  · subst q
    rw [uJ_self, upI_ne _ _ (by omega), upI_ne _ _ (by omega), upI_ne _ _ (by omega), upI_ne _ _ (by omega), upI_ne _ _ (by omega)]
    exact h
  · rw [uJ_ne (fun e => q e.symm)]
    exact h
theorem SC.w {J : Int → Int → Int} {k lo hi : Int} {f : Int → Int} (h : SC J) (hk : k ≠ -1) : SC (wJ J k lo hi f) := by
  unfold SC at h ⊢
  simp only [wJ_ne (show (-1 : Int) ≠ k from fun e => hk e.symm)]
  exact h
