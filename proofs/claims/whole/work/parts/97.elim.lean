/-! ===== the coder solves ===== -/
theorem CV.o {I I' : Nm → Int → Int} (h : CV I) (e : ∀ n x, (∀ r, n ≠ [17, 2, r]) → n ≠ [17] → hd n = 17 → I' n x = I n x) : CV I' :=
  ⟨fun i a b => by rw [e _ _ (fun r z => by simp at z) (by simp) rfl]; exact h.1 i a b, fun i a b => by rw [e _ _ (fun r z => by simp at z) (by simp) rfl]; exact h.2.1 i a b, fun j i a b x y => by rw [e _ _ (fun r z => by simp at z) (by simp) rfl]; exact h.2.2 j i a b x y⟩
theorem kl60 {k l : Int} (hk : 2 ≤ k ∧ k ≤ 6) (hl : l = 60 / k) : k * l = 60 := by
  have : k = 2 ∨ k = 3 ∨ k = 4 ∨ k = 5 ∨ k = 6 := by omega
  rcases this with rfl | rfl | rfl | rfl | rfl <;> (rw [hl]; rfl)
theorem dv60 {k l x : Int} (hk : 2 ≤ k ∧ k ≤ 6) (hl : l = 60 / k) (hx : 0 ≤ x ∧ x < 60) : (0 ≤ x / l ∧ x / l < k) ∧ (0 ≤ x % l ∧ x % l < l) ∧ x / l * l + x % l = x := by
  have e := kl60 hk hl
  have lr := l_rg hk hl
  refine ⟨⟨Int.ediv_nonneg hx.1 (by omega), Int.ediv_lt_of_lt_mul (by omega) (by omega)⟩, ⟨Int.emod_nonneg _ (by omega), Int.emod_lt_of_pos _ (by omega)⟩, ?_⟩
  have := Int.mul_ediv_add_emod x l
  rw [Int.mul_comm] at this
  exact this
theorem y_inv {d : Nat} {K : Kt} {X : Xt} {x : Int} {ty : Nm → Nat} {ln : Nm → Int} {I : Nm → Int → Int} {R : Nm → Int → Option Nm} {c w : Nat} (hC : CdS ty ln R) (hV : CV I) (hx : 1 ≤ x ∧ x < 256) : Mth (d + 1) M_Field_inverse [vR (some [17, 0]), vI x] (ty, ln, I, R, c, w) K X = K (some (vI (invZ x))) (ty, ln, I, R, c, w) := by
  obtain ⟨s1, s2, s3, s4, s5, s6, s7, s8, s9, s10, s11, s12, s13⟩ := hC
  have q := lgZ_r (a := x) (by omega) hx.2
  rw [s_Field_inverse s5 s7 s9.1 s9.2 s6 s8.1 s8.2 (by omega) hx.2 (by rw [hV.2.1 x (by omega) hx.2]; omega) (by rw [hV.2.1 x (by omega) hx.2]; omega), hV.2.1 x (by omega) hx.2, hV.1 _ (by omega) (by omega), inv_z hx]
theorem s_scale {d : Nat} {K : Kt} {X : Xt} {ty : Nm → Nat} {ln : Nm → Int} {I : Nm → Int → Int} {R : Nm → Int → Option Nm} {c w : Nat} {k l : Int} (hC : CdS ty ln R) (hV : CV I) (hk : 2 ≤ k ∧ k ≤ 6) (hl : l = 60 / k) (k3 : I [17] 3 = k) (k5 : I [17] 5 = l) {i : Nat} (hi : (i : Int) < k) (hp : I [17, 2, i] i ≠ 0) (hb : ∀ c : Int, i ≤ c → c < k + l → 0 ≤ I [17, 2, i] c ∧ I [17, 2, i] c < 256) :
    Mth (d + 2) M_Coder_scale [vR (some [17]), vR (some [17, 2, i]), vI (i : Int)] (ty, ln, I, R, c, w) K X = K none (ty, ln, wI I [17, 2, i] i (k + l) (fun c => mulZ (invZ (I [17, 2, i] i)) (I [17, 2, i] c)), R, c, w) := by
  obtain ⟨s1, s2, s3, s4, s5, s6, s7, s8, s9, s10, s11, s12, s13⟩ := id hC
  have lr := l_rg hk hl
  obtain ⟨q1, q2, q3⟩ := s13 i (by omega) (by omega)
  have p0 := hb i (by omega) (by omega)
  have p1 := invZ_r (a := I [17, 2, i] i)
  have key : ∀ q t : Nat, t + q = (k + l).toNat → i ≤ t → Rn (d + 1) M_Coder_scale K X 14 [vR (some [17]), vR (some [17, 2, i]), vI (i : Int), vI (invZ (I [17, 2, i] i)), vI (t : Int)] [] (ty, ln, wI I [17, 2, i] i t (fun c => mulZ (invZ (I [17, 2, i] i)) (I [17, 2, i] c)), R, c, w) = K none (ty, ln, wI I [17, 2, i] i (k + l) (fun c => mulZ (invZ (I [17, 2, i] i)) (I [17, 2, i] c)), R, c, w) := by
    intro q
    induction q with
    | zero =>
      intro t ht hit
      rw [b_Coder_scale_14, and_t s1, and_t s1, wI_ne (by simp), k3, k5, w32_id (by omega) (by omega), if_pos (by omega), show (t : Int) = k + l by omega]
    | succ q ih =>
      intro t ht hit
      have hV' : CV (wI I [17, 2, i] i t (fun c => mulZ (invZ (I [17, 2, i] i)) (I [17, 2, i] c))) := hV.o (fun n x h1 _ _ => by rw [wI_ne (h1 _)])
      rw [b_Coder_scale_14, and_t s1, and_t s1, wI_ne (by simp), k3, k5, w32_id (by omega) (by omega), if_neg (by omega), and_t s1, ex_some, and_t ⟨Or.inl q2, by omega, by omega⟩, s2, ex_some, and_t s5, wI_out (by omega), s_times hC hV' (by omega) (hb t (by omega) (by omega))]
      show Rn (d + 1) M_Coder_scale K X 43 _ [_, _, _] _ = _
      rw [b_Coder_scale_43, ex_some, and_t ⟨q2, rfl, by omega, by omega⟩, w32_id (by omega) (by omega), wI_up (by omega) rfl]
      exact ih (t + 1) (by omega) (by omega)
  rw [in_Coder_scale, b_Coder_scale_0, and_t s1, ex_some, and_t ⟨Or.inl q2, by omega, by omega⟩, s2, ex_some, and_t s5, y_inv hC hV (by omega)]
  show Rn (d + 1) M_Coder_scale K X 10 _ [_] _ = _
  rw [b_Coder_scale_10]
  have := key ((k + l).toNat - i) i (by omega) (Nat.le_refl _)
  rw [wI_nil (by omega)] at this
  exact this
theorem s_clear {d : Nat} {K : Kt} {X : Xt} {ty : Nm → Nat} {ln : Nm → Int} {I : Nm → Int → Int} {R : Nm → Int → Option Nm} {c w : Nat} {k l : Int} (hC : CdS ty ln R) (hV : CV I) (hk : 2 ≤ k ∧ k ≤ 6) (hl : l = 60 / k) (k3 : I [17] 3 = k) (k5 : I [17] 5 = l) {i r : Nat} (hi : (i : Int) < k) (hr : (r : Int) < k) (hne : r ≠ i) (hb : ∀ c : Int, i ≤ c → c < k + l → (0 ≤ I [17, 2, r] c ∧ I [17, 2, r] c < 256) ∧ 0 ≤ I [17, 2, i] c ∧ I [17, 2, i] c < 256) :
    Mth (d + 2) M_Coder_clearColumn [vR (some [17]), vR (some [17, 2, r]), vR (some [17, 2, i]), vI (i : Int)] (ty, ln, I, R, c, w) K X = K none (ty, ln, wI I [17, 2, r] i (k + l) (fun c => xorZ (I [17, 2, r] c) (mulZ (I [17, 2, r] i) (I [17, 2, i] c))), R, c, w) := by
  obtain ⟨s1, s2, s3, s4, s5, s6, s7, s8, s9, s10, s11, s12, s13⟩ := id hC
  have lr := l_rg hk hl
  obtain ⟨q1, q2, q3⟩ := s13 i (by omega) (by omega)
  obtain ⟨q4, q5, q6⟩ := s13 r (by omega) (by omega)
  have p0 := hb i (by omega) (by omega)
  have hn : ([17, 2, (i : Int)] : Nm) ≠ [17, 2, (r : Int)] := fun z => hne (by simp at z; omega)
  have key : ∀ q t : Nat, t + q = (k + l).toNat → i ≤ t → Rn (d + 1) M_Coder_clearColumn K X 8 [vR (some [17]), vR (some [17, 2, r]), vR (some [17, 2, i]), vI (i : Int), vI (I [17, 2, r] i), vI (t : Int)] [] (ty, ln, wI I [17, 2, r] i t (fun c => xorZ (I [17, 2, r] c) (mulZ (I [17, 2, r] i) (I [17, 2, i] c))), R, c, w) = K none (ty, ln, wI I [17, 2, r] i (k + l) (fun c => xorZ (I [17, 2, r] c) (mulZ (I [17, 2, r] i) (I [17, 2, i] c))), R, c, w) := by
    intro q
    induction q with
    | zero =>
      intro t ht hit
      rw [b_Coder_clearColumn_8, and_t s1, and_t s1, wI_ne (by simp), k3, k5, w32_id (by omega) (by omega), if_pos (by omega), show (t : Int) = k + l by omega]
    | succ q ih =>
      intro t ht hit
      have hV' : CV (wI I [17, 2, r] i t (fun c => xorZ (I [17, 2, r] c) (mulZ (I [17, 2, r] i) (I [17, 2, i] c)))) := hV.o (fun n x h1 _ _ => by rw [wI_ne (h1 _)])
      have p2 := hb t (by omega) (by omega)
      have p3 := mulZ_r (a := I [17, 2, r] i) (b := I [17, 2, i] t) p0.1
      rw [b_Coder_clearColumn_8, and_t s1, and_t s1, wI_ne (n := [17]) (by simp), k3, k5, w32_id (by omega) (by omega), if_neg (by omega), ex_some, and_t ⟨Or.inl q5, by omega, by omega⟩, and_t s1, ex_some, and_t ⟨Or.inl q2, by omega, by omega⟩, s2, ex_some, and_t s5, wI_ne hn, wI_out (by omega), s_times hC hV' p0.1 p2.2]
      show Rn (d + 1) M_Coder_clearColumn K X 40 _ [_, _, _, _] _ = _
      rw [b_Coder_clearColumn_40, ex_some, and_t ⟨q5, rfl, by omega, by omega⟩, w32_id (by omega) (by omega), xor32_z (by omega) (by omega), wI_up (by omega) rfl]
      exact ih (t + 1) (by omega) (by omega)
  rw [in_Coder_clearColumn, b_Coder_clearColumn_0, ex_some, and_t ⟨Or.inl q5, by omega, by omega⟩]
  have := key ((k + l).toNat - i) i (by omega) (Nat.le_refl _)
  rw [wI_nil (by omega)] at this
  exact this
theorem s_solveInto {d : Nat} {K : Kt} {X : Xt} {ty : Nm → Nat} {ln : Nm → Int} {I : Nm → Int → Int} {R : Nm → Int → Option Nm} {c w : Nat} {k l : Int} (hC : CdS ty ln R) (hV : CV I) (hk : 2 ≤ k ∧ k ≤ 6) (hl : l = 60 / k) (k3 : I [17] 3 = k) (k5 : I [17] 5 = l) {A : Int → Int → Int} {t : Nm} (hA : rg8 A k l) (hp : ∀ i : Nat, (i : Int) < k → elA A i i i ≠ 0) (eA : ∀ r c : Int, 0 ≤ r → r < k → 0 ≤ c → c < k + l → I [17, 2, r] c = A r c) (t1 : ty t = 1) (t2 : ln t = 60) (t3 : wr t = true) (t4 : hd t ≠ 17)
    (kk : ∀ I' : Nm → Int → Int, (∀ n x, (∀ r, n ≠ [17, 2, r]) → (n ≠ t ∨ x < 0 ∨ 60 ≤ x) → I' n x = I n x) → (∀ x : Int, 0 ≤ x → x < 60 → I' t x = elA A k.toNat (x / l) (k + x % l)) → K none (ty, ln, I', R, c, w)) :
    Mth (d + 3) M_Coder_solveInto [vR (some [17]), vR (some t)] (ty, ln, I, R, c, w) K X := by
  obtain ⟨s1, s2, s3, s4, s5, s6, s7, s8, s9, s10, s11, s12, s13⟩ := id hC
  have lr := l_rg hk hl
  have tn : ∀ r : Int, t ≠ [17, 2, r] := fun r z => t4 (by rw [z]; rfl)
  -- the answers
  have k67 : ∀ (I1 : Nm → Int → Int), (∀ n x, (∀ r, n ≠ [17, 2, r]) → I1 n x = I n x) → (∀ r c : Int, 0 ≤ r → r < k → k ≤ c → c < k + l → I1 [17, 2, r] c = elA A k.toNat r c) → ∀ q i : Nat, i + q = k.toNat → ∀ (I' : Nm → Int → Int) (u3 : Vl), isLg u3 = false → (∀ n x, (n ≠ t ∨ x < 0 ∨ 60 ≤ x) → I' n x = I1 n x) → (∀ x : Int, 0 ≤ x → x < i * l → I' t x = elA A k.toNat (x / l) (k + x % l)) → Rn (d + 2) M_Coder_solveInto K X 67 [vR (some [17]), vR (some t), vI (i : Int), u3] [] (ty, ln, I', R, c, w) := by
    intro I1 f1 e1 q
    induction q with
    | zero =>
      intro i hi I' u3 hu fo fi
      have e60 : (i : Int) * l = 60 := by rw [show (i : Int) = k by omega]; exact kl60 hk hl
      rw [b_Coder_solveInto_67 hu, and_t s1, fo _ _ (Or.inl (fun z => t4 (by rw [← z]; rfl))), f1 _ _ (fun r z => by simp at z), k3, if_pos (by omega)]
      exact kk I' (fun n x n1 n2 => (fo n x n2).trans (f1 n x n1)) (fun x x0 x1 => fi x x0 (by omega))
    | succ q ih =>
      intro i hi I' u3 hu fo fi
      have r1 := il_r (i := i) hk hl (by omega)
      obtain ⟨q1, q2, q3⟩ := s13 i (by omega) (by omega)
      have g3 : I' [17] 3 = k := by rw [fo _ _ (Or.inl (fun z => t4 (by rw [← z]; rfl))), f1 _ _ (fun r z => by simp at z), k3]
      have g5 : I' [17] 5 = l := by rw [fo _ _ (Or.inl (fun z => t4 (by rw [← z]; rfl))), f1 _ _ (fun r z => by simp at z), k5]
      rw [b_Coder_solveInto_67 hu, and_t s1, g3, if_neg (by omega), and_t s1, s4, ex_some, and_t ⟨by omega, by omega, by omega⟩, and_t s1, and_t s1, and_t s1, ex_some, q1, ex_some, g5, w32_id (by omega) (by omega), and_t ⟨by rw [q2, t1], t3, by omega, by omega, by omega, by omega, by omega⟩, if_pos t1, w32_id (by omega) (by omega)]
      refine ih (i + 1) (by omega) _ _ hu (fun n x hn => ?_) (fun x x0 x1 => ?_)
      · by_cases z : n = t
        · rw [z, upN_self]
          unfold cpyI
          rw [if_neg (by have := hn.elim (fun y => absurd z y) id; omega)]
          exact fo t x (Or.inr (hn.elim (fun y => absurd z y) id))
        · rw [upN_ne _ _ z]; exact fo n x hn
      rw [upN_self]
      unfold cpyI
      have x1' : x < i * l + l := by rw [show (((i + 1 : Nat) : Int)) * l = i * l + l by rw [Int.natCast_add, Int.add_mul]; omega] at x1; exact x1
      by_cases z : (i : Int) * l ≤ x
      · have d1 : x / l = i := by
          rw [show x = (x - i * l) + i * l by omega, Int.add_mul_ediv_right _ _ (by omega), Int.ediv_eq_zero_of_lt (by omega) (by omega)]; omega
        have d2 : x % l = x - i * l := by
          rw [show x = (x - i * l) + i * l by omega, Int.add_mul_emod_self_right, Int.emod_eq_of_lt (by omega) (by omega)]; omega
        rw [if_pos (by omega), fo _ _ (Or.inl (fun z => tn _ z.symm)), e1 i _ (by omega) (by omega) (by omega) (by omega), d1, d2]
      · rw [if_neg (by omega)]
        exact fi x x0 (by omega)
  -- the steps
  have k2 : ∀ q i : Nat, i + q = k.toNat → ∀ (I' : Nm → Int → Int) (u3 : Vl), isLg u3 = false → (∀ n x, (∀ r, n ≠ [17, 2, r]) → I' n x = I n x) → (∀ r c : Int, 0 ≤ r → r < k → (i : Int) ≤ c → c < k + l → I' [17, 2, r] c = elA A i r c) → Rn (d + 2) M_Coder_solveInto K X 2 [vR (some [17]), vR (some t), vI (i : Int), u3] [] (ty, ln, I', R, c, w) := by
    intro q
    induction q with
    | zero =>
      intro i hi I' u3 hu fo fi
      rw [b_Coder_solveInto_2 hu, and_t s1, fo _ _ (fun r z => by simp at z), k3, if_pos (by omega)]
      have ei : i = k.toNat := by omega
      exact k67 I' (fun n x n1 => fo n x n1) (fun r c r0 r1 c0 c1 => by rw [← ei]; exact fi r c r0 r1 (by omega) c1) k.toNat 0 (Nat.zero_add _) I' u3 hu (fun _ _ _ => rfl) (fun x x0 x1 => by simp at x1; omega)
    | succ q ih =>
      intro i hi I' u3 hu fo fi
      have gA := elA_g (by omega) hA i (by omega)
      have pi := hp i (by omega)
      obtain ⟨q1, q2, q3⟩ := s13 i (by omega) (by omega)
      have hV' : CV I' := hV.o (fun n x n1 _ _ => fo n x n1)
      have g3 : I' [17] 3 = k := by rw [fo _ _ (fun r z => by simp at z), k3]
      have g5 : I' [17] 5 = l := by rw [fo _ _ (fun r z => by simp at z), k5]
      have fii : I' [17, 2, (i : Int)] i = elA A i i i := fi _ _ (by omega) (by omega) (by omega) (by omega)
      rw [b_Coder_solveInto_2 hu, and_t s1, g3, if_neg (by omega), and_t s1, s4, ex_some, and_t ⟨by omega, by omega, by omega⟩, and_t s1, q1, s_scale hC hV' hk hl g3 g5 (by omega) (by rw [fii]; exact pi) (fun c c0 c1 => by rw [fi _ _ (by omega) (by omega) c0 c1]; exact gA i c (by omega) (by omega) (by omega) (by omega))]
      show Rn (d + 2) M_Coder_solveInto K X 21 _ [] _
      rw [b_Coder_solveInto_21 hu]
      have fs : ∀ r c : Int, 0 ≤ r → r < k → (i : Int) ≤ c → c < k + l → wI I' [17, 2, (i : Int)] i (k + l) (fun c => mulZ (invZ (I' [17, 2, (i : Int)] i)) (I' [17, 2, (i : Int)] c)) [17, 2, r] c = if r < 0 ∨ r = i then stepA (elA A i) i r c else elA A i r c := by
        intro r c r0 r1 c0 c1
        by_cases z : r = i
        · rw [if_pos (Or.inr z), z, wI_in ⟨c0, c1⟩, fii, fi _ _ (by omega) (by omega) c0 c1]
          unfold stepA
          rw [if_pos rfl]
        · rw [if_neg (by omega), wI_ne (fun e => z (by simp at e; omega)), fi _ _ r0 r1 c0 c1]
      have inner : ∀ q r : Nat, r + q = k.toNat → ∀ (I2 : Nm → Int → Int), (∀ n x, (∀ r, n ≠ [17, 2, r]) → I2 n x = I n x) → (∀ r' c : Int, 0 ≤ r' → r' < k → (i : Int) ≤ c → c < k + l → I2 [17, 2, r'] c = if r' < r ∨ r' = i then stepA (elA A i) i r' c else elA A i r' c) → Rn (d + 2) M_Coder_solveInto K X 23 [vR (some [17]), vR (some t), vI (i : Int), vI (r : Int)] [] (ty, ln, I2, R, c, w) := by
        intro q
        induction q with
        | zero =>
          intro r hr I2 fo2 fi2
          rw [b_Coder_solveInto_23, and_t s1, fo2 _ _ (fun r z => by simp at z), k3, if_pos (by omega), w32_id (by omega) (by omega)]
          exact ih (i + 1) (by omega) I2 _ rfl fo2 (fun r' c r0 r1 c0 c1 => by rw [fi2 r' c r0 r1 (by omega) c1, if_pos (by omega)]; rfl)
        | succ q ih2 =>
          intro r hr I2 fo2 fi2
          have h3 : I2 [17] 3 = k := by rw [fo2 _ _ (fun r z => by simp at z), k3]
          have h5 : I2 [17] 5 = l := by rw [fo2 _ _ (fun r z => by simp at z), k5]
          obtain ⟨q4, q5, q6⟩ := s13 r (by omega) (by omega)
          by_cases z : r = i
          · rw [b_Coder_solveInto_23, and_t s1, h3, if_neg (by omega), if_pos (by omega), b_Coder_solveInto_53, w32_id (by omega) (by omega)]
            exact ih2 (r + 1) (by omega) I2 fo2 (fun r' c r0 r1 c0 c1 => by
              rw [fi2 r' c r0 r1 c0 c1]
              by_cases y : r' < r ∨ r' = i
              · rw [if_pos y, if_pos (by omega)]
              · rw [if_neg y, if_neg (by omega)])
          · have hV2 : CV I2 := hV.o (fun n x n1 _ _ => fo2 n x n1)
            have gS := stepA_g (by omega) gA (i := (i : Int)) (by omega)
            have frr : ∀ c : Int, (i : Int) ≤ c → c < k + l → I2 [17, 2, (r : Int)] c = elA A i r c := fun c c0 c1 => by rw [fi2 _ _ (by omega) (by omega) c0 c1, if_neg (by omega)]
            have fri : ∀ c : Int, (i : Int) ≤ c → c < k + l → I2 [17, 2, (i : Int)] c = stepA (elA A i) i i c := fun c c0 c1 => by rw [fi2 _ _ (by omega) (by omega) c0 c1, if_pos (by omega)]
            rw [b_Coder_solveInto_23, and_t s1, h3, if_neg (by omega), if_neg (by omega), and_t s1, s4, ex_some, and_t ⟨by omega, by omega, by omega⟩, and_t s1, ex_some, and_t ⟨by omega, by omega, by omega⟩, and_t s1, q1, q4, s_clear hC hV2 hk hl h3 h5 (by omega) (by omega) z (fun c c0 c1 => ⟨by rw [frr c c0 c1]; exact gA r c (by omega) (by omega) (by omega) (by omega), by rw [fri c c0 c1]; exact gS i c (by omega) (by omega) (by omega) (by omega)⟩)]
            show Rn (d + 2) M_Coder_solveInto K X 53 _ [] _
            rw [b_Coder_solveInto_53, w32_id (by omega) (by omega)]
            refine ih2 (r + 1) (by omega) _ (fun n x n1 => by rw [wI_ne (n1 _)]; exact fo2 n x n1) (fun r' c r0 r1 c0 c1 => ?_)
            by_cases y : r' = r
            · rw [if_pos (by omega), y, wI_in ⟨c0, c1⟩, frr c c0 c1, frr i (by omega) (by omega), fri c c0 c1]
              unfold stepA
              rw [if_pos rfl, if_neg (by omega)]
            · rw [wI_ne (fun e => y (by simp at e; omega)), fi2 r' c r0 r1 c0 c1]
              by_cases y2 : r' < r ∨ r' = i
              · rw [if_pos y2, if_pos (by omega)]
              · rw [if_neg y2, if_neg (by omega)]
      exact inner k.toNat 0 (Nat.zero_add _) _ (fun n x n1 => by rw [wI_ne (n1 _)]; exact fo n x n1) fs
  rw [in_Coder_solveInto, b_Coder_solveInto_0]
  exact k2 k.toNat 0 (Nat.zero_add _) I _ rfl (fun _ _ _ => rfl) (fun r c r0 r1 c0 c1 => eA r c r0 r1 c0 c1)
