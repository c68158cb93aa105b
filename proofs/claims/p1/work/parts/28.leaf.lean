/-! ===== leaves ===== -/
theorem s_FB_isWithin {d : Nat} {K : Kt} {X : Xt} {a b c : Int} {h : AH} : Mth (d + 1) M_FB_isWithin [vI a, vI b, vI c] h K X = K (some (vI (if b ≤ a ∧ a ≤ c then 1 else 0))) h := by
  obtain ⟨ty, ln, I, R, cc, w⟩ := h
  rw [in_FB_isWithin, b_FB_isWithin_0]
  by_cases h1 : a < b
  · rw [if_pos h1, b_FB_isWithin_14, b_FB_isWithin_15, if_neg (by omega)]
    exact and_t (Or.inl rfl)
  · rw [if_neg h1]
    by_cases h2 : c < a
    · rw [if_pos h2, b_FB_isWithin_14, b_FB_isWithin_15, if_neg (by omega)]
      exact and_t (Or.inl rfl)
    · rw [if_neg h2, b_FB_isWithin_15, if_pos (by omega)]
      exact and_t (Or.inr rfl)
theorem s_FB_isTag {d : Nat} {K : Kt} {X : Xt} {a : Int} {h : AH} : Mth (d + 2) M_FB_isTag [vI a] h K X = K (some (vI (if 0 ≤ a ∧ a ≤ 9 then 1 else 0))) h := by
  obtain ⟨ty, ln, I, R, cc, w⟩ := h
  rw [in_FB_isTag, b_FB_isTag_0, s_FB_isWithin]
  show Rn (d + 1) M_FB_isTag K X 7 [vI a] [vI _] _ = _
  rw [b_FB_isTag_7]
  refine and_t ?_
  split
  · exact Or.inr rfl
  · exact Or.inl rfl
theorem s_FB_requireArgument {d : Nat} {K : Kt} {X : Xt} {a : Int} {ty : Nm → Nat} {ln : Nm → Int} {I : Nm → Int → Int} {R : Nm → Int → Option Nm} {c w : Nat} : Mth (d + 1) M_FB_requireArgument [vI a] (ty, ln, I, R, c, w) K X = (if ¬ a = 0 then K none (ty, ln, I, R, c, w) else (5 ≤ d ∧ 1 ≤ c ∧ 6 ≤ w) ∧ X 1 (ty, ln, I, R, c - 1, w - 6)) := by
  rw [in_FB_requireArgument, b_FB_requireArgument_0]
theorem s_FB_requireState {d : Nat} {K : Kt} {X : Xt} {a : Int} {ty : Nm → Nat} {ln : Nm → Int} {I : Nm → Int → Int} {R : Nm → Int → Option Nm} {c w : Nat} : Mth (d + 1) M_FB_requireState [vI a] (ty, ln, I, R, c, w) K X = (if ¬ a = 0 then K none (ty, ln, I, R, c, w) else (5 ≤ d ∧ 1 ≤ c ∧ 6 ≤ w) ∧ X 2 (ty, ln, I, R, c - 1, w - 6)) := by
  rw [in_FB_requireState, b_FB_requireState_0]
theorem s_Mo_isIn {d : Nat} {K : Kt} {X : Xt} {a b c : Int} {h : AH} : Mth (d + 1) M_Mo_isIn [vI a, vI b, vI c] h K X = K (some (vI (if b ≤ a ∧ a ≤ c then 1 else 0))) h := by
  obtain ⟨ty, ln, I, R, cc, w⟩ := h
  rw [in_Mo_isIn, b_Mo_isIn_0]
  by_cases h1 : a < b
  · rw [if_pos h1, b_Mo_isIn_14, b_Mo_isIn_15, if_neg (by omega)]
    exact and_t (Or.inl rfl)
  · rw [if_neg h1]
    by_cases h2 : c < a
    · rw [if_pos h2, b_Mo_isIn_14, b_Mo_isIn_15, if_neg (by omega)]
      exact and_t (Or.inl rfl)
    · rw [if_neg h2, b_Mo_isIn_15, if_pos (by omega)]
      exact and_t (Or.inr rfl)
/-- a loop's head: while the measure falls the run comes to its end -/
theorem Rn_loop {d : Nat} {M : Mt} {K : Kt} {X : Xt} {pc : Nat} {σ : Type} {L : σ → List Vl} {S : σ → List Vl} {H : σ → AH} (P : Nat → σ → Prop) (step : ∀ n s, P n s → (∀ m s', m < n → P m s' → Rn d M K X pc (L s') (S s') (H s')) → Rn d M K X pc (L s) (S s) (H s)) : ∀ n s, P n s → Rn d M K X pc (L s) (S s) (H s) := by
  intro n
  induction n using Nat.strongRecOn with
  | _ n ih => exact fun s hs => step n s hs (fun m s' hm hs' => ih m hm s' hs')
