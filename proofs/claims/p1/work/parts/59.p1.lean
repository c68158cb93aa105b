/-! ===== house on the law's road; the law on a script of one call ===== -/
theorem pJ_of {I : Nm → Int → Int} {J : Int → Int → Int} (h2 : I [2] = J (-1)) (h3 : ∀ k, k ≠ -1 → I [3, k] = J k) : I = pJ I J := by
  have e : gJ I = J := by
    funext k
    unfold gJ
    by_cases q : k = -1
    · rw [if_pos q, h2, q]
    · rw [if_neg q, h3 k q]
  conv => lhs; rw [← pJ_g (I := I), e]
theorem MOk.keep {ty ty' : Nm → Nat} {ln ln' : Nm → Int} {R R' : Nm → Int → Option Nm} (h : MOk ty ln R) (k2 : ty' [2] = ty [2] ∧ R' [2] = R [2]) (k3 : ∀ k, ty' [3, k] = ty [3, k] ∧ ln' [3, k] = ln [3, k]) : MOk ty' ln' R' := by
  refine ⟨k2.1.trans h.1, fun k a b c d => ?_⟩
  rw [k2.2, (k3 k).1, (k3 k).2]
  exact h.2 k a b c d
theorem l_house_0 {d : Nat} {K : Kt} {X : Xt} {J : Int → Int → Int} {ty : Nm → Nat} {ln : Nm → Int} {I : Nm → Int → Int} {R : Nm → Int → Option Nm} {c w : Nat} {i : Int} {u5 u6 : Vl} (q5 : isLg u5 = false) (q6 : isLg u6 = false) (hS : ty [-3] = 20 ∧ 0 ≤ i ∧ i + 6 ≤ ln [-3] ∧ ln [-3] ≤ 3072) (hM : MOk ty ln R) (h : RG J ty ln (pJ I J) R) (q : (0 ≤ (I [-3] (i + 1)) ∧ (I [-3] (i + 1)) ≤ 9) ∧ 1 ≤ (I [-3] (i + 2)) ∧ (I [-3] (i + 2)) ≤ 400) (q2 : ¬ 0 < J 5 (I [-3] (i + 1))) (hf : ∀ l, ty (4 :: (I [-3] (i + 1)) :: l) = 0) (hc9 : 19 ≤ c) (hw9 : 2073 ≤ w)
    (k : (∀ (ty' : Nm → Nat) (ln' : Nm → Int) (I' : Nm → Int → Int) (R' : Nm → Int → Option Nm), HS ty' ln' R' (I [-3] (i + 1)) → (I' [4, (I [-3] (i + 1))] = hI0 (I [-3] (i + 1)) (I [-3] (i + 2)) ∧ (∀ k : Int, k = 2 ∨ k = 3 ∨ k = 4 ∨ k = 7 ∨ k = 8 ∨ k = 9 → I' [4, (I [-3] (i + 1)), k] = fun _ => 0) ∧ (∀ t : Int, 0 ≤ t → t < 10 → I' [4, (I [-3] (i + 1)), 6] t = -1)) → (∀ k : Int, k = 7 ∨ k = 8 ∨ k = 9 → R' [4, (I [-3] (i + 1)), k] 0 = some nE) → (∀ l : List Int, 2 ≤ l.length → (∀ t, l ≠ [5, t]) → ty' (4 :: (I [-3] (i + 1)) :: l) = 0) → (∀ n, (∀ l, n ≠ 4 :: (I [-3] (i + 1)) :: l) → ty' n = ty n ∧ ln' n = ln n ∧ I' n = pJ I J n) → (∀ n, (∀ l, n ≠ 4 :: (I [-3] (i + 1)) :: l) → n ≠ [1, 0] → R' n = R n) → R' [1, 0] = upI (R [1, 0]) (I [-3] (i + 1)) (some [4, (I [-3] (i + 1))]) → MOk ty' ln' R' → Rn (d + 8) M_La_law K X 1680 [vR (some [-3]), vR (some [1]), vR (some [2]), vR (some [18]), vI i, vI 0, u6] [] (ty', ln', pJ I' (uJ (uJ (uJ J (-1) 0 0) 5 (I [-3] (i + 1)) (I [-3] (i + 2))) 6 (I [-3] (i + 1)) 1), R', c - 19, w - 2073))) : Rn (d + 8) M_La_law K X 196 [vR (some [-3]), vR (some [1]), vR (some [2]), vR (some [18]), vI i, u5, u6] [] (ty, ln, pJ I J, R, c, w) := by
  have h0 := hM.1
  rw [b_La_law_196 q5 q6, w32_id (by omega) (by omega), w32_id (by omega) (by omega), and_t ⟨Or.inr hS.1, by omega, by omega⟩, and_t ⟨Or.inr hS.1, by omega, by omega⟩, pJ_s]
  refine w_house_0 h q q2 hf hc9 hw9 ?_
  intro ty' ln' I' R' k1 k2 k3 k4 k5 k6 k7
  have e0 := k5 [-3] (by simp)
  have e2 := k5 [2] (by simp)
  have hM' : MOk ty' ln' R' := hM.keep ⟨e2.1, k6 _ (by simp) (by simp)⟩ (fun k => ⟨(k5 _ (by simp)).1, (k5 _ (by simp)).2.1⟩)
  have eI : I' = pJ I' J := pJ_of (by rw [e2.2.2, pJ_m]) (fun k hk => by rw [(k5 _ (by simp)).2.2, pJ_a hk])
  have kk := k ty' ln' I' R' k1 k2 k3 k4 k5 k6 k7 hM'
  have eS : I' [-3] = I [-3] := by rw [e0.2.2, pJ_s]
  have h0' := hM'.1
  have hS' : ty' [-3] = 20 ∧ 0 ≤ i ∧ i + 6 ≤ ln' [-3] ∧ ln' [-3] ≤ 3072 := by rw [e0.1, e0.2.1]; exact hS
  rw [eI]
  refine Eq.mpr ?_ kk
  simp (disch := first | omega | assumption | rfl) only [b_La_law_212, b_La_law_230, b_La_law_234, m_house hM', m_thrown hM', eS, Option.toList_some, Option.toList_none, List.cons_append, List.nil_append, ↓if_pos, ↓if_neg, ↓and_t, ↓ex_some, pJ_s, true_and, and_true, not_true_eq_false, not_false_eq_true, if_true, if_false, or_true, true_or, uJ_self, uJ_ne, upI_self, upI_ne, w32_id, ite_self, Int.add_zero]
theorem law_p1 {d : Nat} {K : Kt} {X : Xt} {ty : Nm → Nat} {ln : Nm → Int} {I : Nm → Int → Int} {R : Nm → Int → Option Nm} {c w : Nat} (hs : ty [-3] = 20) (h6 : 0 ≤ ln [-3] ∧ ln [-3] ≤ 6) (hf : ∀ n, 1 ≤ hd n → ty n = 0) (hI : ∀ n, 1 ≤ hd n → I n = fun _ => 0) (hc9 : 100 ≤ c) (hw9 : 400000 ≤ w) (hK : ∀ h, K (some (vI 1)) h) :
    Rn (d + 8) M_La_law K X 0 [vR (some [-3]), vJ, vJ, vJ, vJ, vJ, vJ] [] (ty, ln, I, R, c, w) := by
  refine l_start hs hf hI (by omega) (by omega) ?_
  intro ty' ln' I' R' hM hG a3 a4 a5
  have fin : ∀ (ty : Nm → Nat) (ln : Nm → Int) (I : Nm → Int → Int) (R : Nm → Int → Option Nm) (c w : Nat) (u5 u6 : Vl), isLg u5 = false → isLg u6 = false → ty [-3] = 20 ∧ (0 ≤ ln [-3] ∧ ln [-3] ≤ 6) → Rn (d + 8) M_La_law K X 1680 [vR (some [-3]), vR (some [1]), vR (some [2]), vR (some [18]), vI 0, u5, u6] [] (ty, ln, I, R, c, w) := by
    intro ty ln I R c w u5 u6 q5 q6 hS
    rw [b_La_law_1680 q5 q6, w32_id (by decide) (by decide), l_exit q5 q6 ⟨hS.1, by omega, by omega, by omega, by omega, by omega⟩]
    exact hK _
  have hl : 0 ≤ ln' [-3] ∧ ln' [-3] ≤ 6 := by rw [a4.2.1]; exact h6
  by_cases q : ln' [-3] < 0 + 6
  · rw [l_exit rfl rfl ⟨a4.1, by omega, by omega, by omega, q, by omega⟩]
    exact hK _
  have hS : ty' [-3] = 20 ∧ (0 : Int) ≤ 0 ∧ 0 + 6 ≤ ln' [-3] ∧ ln' [-3] ≤ 3072 := ⟨a4.1, by omega, by omega, by omega⟩
  have jz : ∀ k : Int, k ≠ -1 → k ≠ 16 → k ≠ 25 → ∀ j, J0 k j = 0 := fun k x y z j => by
    unfold J0
    rw [wJ_ne z, wJ_ne y, Jb_z x]
  have hno : ∀ a, ¬ 0 < J0 5 a := fun a => by rw [jz 5 (by decide) (by decide) (by decide)]; omega
  have j20 := jz 20 (by decide) (by decide) (by decide)
  have j10 := jz 10 (by decide) (by decide) (by decide)
  have j11 := jz 11 (by decide) (by decide) (by decide)
  refine l_sw rfl rfl hS ?_
  intro o o1 o2
  clear o2
  by_cases c0 : o = 0
  · subst c0
    rw [show swT 0 = 148 from rfl, l_code rfl rfl hS hM hG]
    split
    · split
      · exact fin _ _ _ _ _ _ _ _ rfl rfl ⟨hS.1, hl⟩
      · exact ⟨⟨by omega, by omega⟩, fin _ _ _ _ _ _ _ _ rfl rfl ⟨hS.1, hl⟩⟩
    · exact ⟨⟨by omega, by omega⟩, fin _ _ _ _ _ _ _ _ rfl rfl ⟨hS.1, hl⟩⟩
  by_cases c1 : o = 1
  · subst c1
    rw [show swT 1 = 196 from rfl]
    by_cases q : (0 ≤ I' [-3] (0 + 1) ∧ I' [-3] (0 + 1) ≤ 9) ∧ 1 ≤ I' [-3] (0 + 2) ∧ I' [-3] (0 + 2) ≤ 400
    · refine l_house_0 rfl rfl hS hM hG q (hno _) (fun l => ?_) (by omega) (by omega) ?_
      · rw [(a5 (4 :: _ :: l) (by simp [hd]) (by simp [hd]) (by simp [hd]) (by simp [hd]) (by simp [hd]) (by simp [hd])).1]
        exact hf _ (by simp [hd])
      · intro ty2 ln2 I2 R2 k1 k2 k3 k4 k5 k6 k7 k8
        have e0 := k5 [-3] (by simp)
        exact fin _ _ _ _ _ _ _ _ rfl rfl (by rw [e0.1, e0.2.1]; exact ⟨hS.1, hl⟩)
    · rw [l_house_1 rfl rfl hS hM hG q]
      exact ⟨⟨by omega, by omega⟩, fin _ _ _ _ _ _ _ _ rfl rfl ⟨hS.1, hl⟩⟩
  by_cases c2 : o = 2
  · subst c2
    rw [show swT 2 = 244 from rfl, l_no_contract rfl rfl hS hM hG (fun z => hno _ z.2)]
    exact ⟨⟨by omega, by omega⟩, fin _ _ _ _ _ _ _ _ rfl rfl ⟨hS.1, hl⟩⟩
  by_cases c3 : o = 3
  · subst c3
    rw [show swT 3 = 331 from rfl, l_no_write rfl rfl hS hM hG (fun z => hno _ z.2)]
    exact ⟨⟨by omega, by omega⟩, fin _ _ _ _ _ _ _ _ rfl rfl ⟨hS.1, hl⟩⟩
  by_cases c4 : o = 4
  · subst c4
    rw [show swT 4 = 411 from rfl, l_no_file rfl rfl hS hM hG (fun z => hno _ z.2)]
    exact ⟨⟨by omega, by omega⟩, fin _ _ _ _ _ _ _ _ rfl rfl ⟨hS.1, hl⟩⟩
  by_cases c5 : o = 5
  · subst c5
    rw [show swT 5 = 514 from rfl, l_no_seal rfl rfl hS hM hG (fun z => hno _ z.2)]
    exact ⟨⟨by omega, by omega⟩, fin _ _ _ _ _ _ _ _ rfl rfl ⟨hS.1, hl⟩⟩
  by_cases c6 : o = 6
  · subst c6
    rw [show swT 6 = 570 from rfl, l_no_push rfl rfl hS hM hG (fun z => hno _ z.2)]
    exact ⟨⟨by omega, by omega⟩, fin _ _ _ _ _ _ _ _ rfl rfl ⟨hS.1, hl⟩⟩
  by_cases c7 : o = 7
  · subst c7
    rw [show swT 7 = 626 from rfl, l_no_up rfl rfl hS hM hG (fun z => hno _ z.2)]
    exact ⟨⟨by omega, by omega⟩, fin _ _ _ _ _ _ _ _ rfl rfl ⟨hS.1, hl⟩⟩
  by_cases c8 : o = 8
  · subst c8
    rw [show swT 8 = 717 from rfl, l_no_loseDisk rfl rfl hS hM hG (fun z => hno _ z.2)]
    exact ⟨⟨by omega, by omega⟩, fin _ _ _ _ _ _ _ _ rfl rfl ⟨hS.1, hl⟩⟩
  by_cases c9 : o = 9
  · subst c9
    rw [show swT 9 = 753 from rfl, l_no_harm rfl rfl hS hM hG (fun j => by rw [j20]; omega) (fun z => hno _ z.2)]
    exact ⟨⟨by omega, by omega⟩, fin _ _ _ _ _ _ _ _ rfl rfl ⟨hS.1, hl⟩⟩
  by_cases c10 : o = 10
  · subst c10
    rw [show swT 10 = 864 from rfl, l_no_recover rfl rfl hS hM hG (fun z => hno _ z.2)]
    exact ⟨⟨by omega, by omega⟩, fin _ _ _ _ _ _ _ _ rfl rfl ⟨hS.1, hl⟩⟩
  by_cases c11 : o = 11
  · subst c11
    rw [show swT 11 = 927 from rfl, l_no_sample rfl rfl hS hM hG (fun j => by rw [j20]; omega) (fun z => hno _ z.2)]
    exact ⟨⟨by omega, by omega⟩, fin _ _ _ _ _ _ _ _ rfl rfl ⟨hS.1, hl⟩⟩
  by_cases c12 : o = 12
  · subst c12
    rw [show swT 12 = 1007 from rfl, l_no_audit rfl rfl hS hM hG (fun z => hno _ z.2)]
    exact ⟨⟨by omega, by omega⟩, fin _ _ _ _ _ _ _ _ rfl rfl ⟨hS.1, hl⟩⟩
  by_cases c13 : o = 13
  · subst c13
    rw [show swT 13 = 1063 from rfl, l_no_repair rfl rfl hS hM hG (fun z => hno _ z.2)]
    exact ⟨⟨by omega, by omega⟩, fin _ _ _ _ _ _ _ _ rfl rfl ⟨hS.1, hl⟩⟩
  by_cases c14 : o = 14
  · subst c14
    rw [show swT 14 = 1119 from rfl, l_no_restore rfl rfl hS hM hG (fun z => hno _ z.2)]
    exact ⟨⟨by omega, by omega⟩, fin _ _ _ _ _ _ _ _ rfl rfl ⟨hS.1, hl⟩⟩
  by_cases c15 : o = 15
  · subst c15
    rw [show swT 15 = 1199 from rfl, l_restored rfl rfl hS hM hG]
    exact fin _ _ _ _ _ _ _ _ rfl rfl ⟨hS.1, hl⟩
  by_cases c16 : o = 16
  · subst c16
    rw [show swT 16 = 1224 from rfl, l_no_forget rfl rfl hS hM hG (fun z => hno _ z.2)]
    exact ⟨⟨by omega, by omega⟩, fin _ _ _ _ _ _ _ _ rfl rfl ⟨hS.1, hl⟩⟩
  by_cases c17 : o = 17
  · subst c17
    rw [show swT 17 = 1292 from rfl, l_no_health rfl rfl hS hM hG (fun j => by rw [j20]; omega) (fun z => hno _ z.2)]
    exact ⟨⟨by omega, by omega⟩, fin _ _ _ _ _ _ _ _ rfl rfl ⟨hS.1, hl⟩⟩
  by_cases c18 : o = 18
  · subst c18
    rw [show swT 18 = 1360 from rfl, l_no_keeper rfl rfl hS hM hG (fun j => by rw [j20]; omega) (fun z => hno _ z.2)]
    exact ⟨⟨by omega, by omega⟩, fin _ _ _ _ _ _ _ _ rfl rfl ⟨hS.1, hl⟩⟩
  by_cases c19 : o = 19
  · subst c19
    rw [show swT 19 = 1440 from rfl, l_no_count rfl rfl hS hM hG (fun z => hno _ z.2)]
    exact ⟨⟨by omega, by omega⟩, fin _ _ _ _ _ _ _ _ rfl rfl ⟨hS.1, hl⟩⟩
  by_cases c20 : o = 20
  · subst c20
    rw [show swT 20 = 1508 from rfl, l_no_stored rfl rfl hS hM hG (fun z => hno _ z.2)]
    exact ⟨⟨by omega, by omega⟩, fin _ _ _ _ _ _ _ _ rfl rfl ⟨hS.1, hl⟩⟩
  by_cases c21 : o = 21
  · subst c21
    rw [show swT 21 = 1576 from rfl, l_settle rfl rfl hS hM hG (fun a _ _ z => absurd z (hno a)) (fun j => by rw [j11]; omega) (fun j => by rw [j10]; omega)]
    split
    · exact fin _ _ _ _ _ _ _ _ rfl rfl ⟨hS.1, hl⟩
    · exact ⟨⟨by omega, by omega⟩, fin _ _ _ _ _ _ _ _ rfl rfl ⟨hS.1, hl⟩⟩
  by_cases c22 : o = 22
  · subst c22
    rw [show swT 22 = 1612 from rfl, l_no_balance rfl rfl hS hM hG (fun z => hno _ z.2)]
    exact ⟨⟨by omega, by omega⟩, fin _ _ _ _ _ _ _ _ rfl rfl ⟨hS.1, hl⟩⟩
  have e : swT o = 1680 := by
    have : ∀ o : Nat, o < 32 → 23 ≤ o → swT o = 1680 := by decide +kernel
    exact this o o1 (by omega)
  rw [e]
  exact fin _ _ _ _ _ _ _ _ rfl rfl ⟨hS.1, hl⟩
