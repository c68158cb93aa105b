/-! ===== Draft.lay ===== -/
theorem alJ_m {J : Int → Int → Int} {sl : Int} {n : Nat} : ∀ m : Nat, n ≤ m → alJ J sl n ≤ alJ J sl m := by
  intro m
  induction m with
  | zero => intro h; rw [show n = 0 by omega]; exact Int.le_refl _
  | succ m ih =>
    intro h
    by_cases z : n = m + 1
    · rw [z]; exact Int.le_refl _
    · have := ih (by omega)
      show _ ≤ alJ J sl m + _
      split <;> omega
/-- how many chunks the last q tags may give -/
def rmA (J : Int → Int → Int) (a : Int) : Nat → Int
  | 0 => 0
  | q + 1 => rmA J a q + rmQ (J 13 (10 * a + (9 - q))) 0
theorem rmA_0 {J : Int → Int → Int} {a : Int} (h : MR J) : ∀ q : Nat, 0 ≤ rmA J a q
  | 0 => Int.le_refl _
  | q + 1 => by
    have := rmA_0 (a := a) h q
    have := h.k13 (10 * a + (9 - q))
    show 0 ≤ rmA J a q + _
    unfold rmQ
    omega
theorem tgL_0 {J : Int → Int → Int} {a sl : Int} {t : Nat} (h : (tgL J a sl t).1 = 0) : ∀ n : Nat, tgL J a sl (t + n) = tgL J a sl t
  | 0 => rfl
  | n + 1 => by
    have e := tgL_0 h n
    have e1 : (tgL J a sl (t + n)).1 = 0 := by rw [e]; exact h
    rw [show tgL J a sl (t + (n + 1)) = tgL J a sl (t + n) from if_pos (Or.inl e1), e]
theorem MID.st {J0 J1 : Int → Int → Int} {a sl : Int} {L0 Nw : List Ck} {ty : Nm → Nat} {ln : Nm → Int} {I I' : Nm → Int → Int} {R : Nm → Int → Option Nm} {c : Nat} (h : MID J0 J1 a sl L0 Nw ty ln I R c) (hR0 : MR J0) (ha : hsJ J0 a) (i : ∀ n x, n ≠ [16, 1] → I' n x = I n x) : MID J0 J1 a sl L0 Nw ty ln I' R c := by
  obtain ⟨hS, h7, hN, hV, hQ, hD⟩ := h
  have d7n : la R a 7 ≠ nE → ty (la R a 7) = 8 := fun z => h7.1.2.2.2.2.1.elim (fun u => absurd u.1 z) (fun u => u.1)
  refine ⟨hS.step hR0 ha h7.2.2.1 h7.2.2.2.1 h7.2.2.2.2 d7n (fun _ _ => ⟨rfl, rfl⟩) (fun n x _ _ u => i n x (fun y => u (by rw [y]; rfl))) (fun _ _ _ _ _ _ => rfl) hS.2.2.2.2.2, h7.fr (fun _ _ => ⟨rfl, rfl⟩) (fun _ => rfl) (i _ _ (by simp)) (fun _ => rfl), fun f hf => ?_, hV, hQ, ⟨by rw [i _ _ (by simp)]; exact hD.1, by rw [i _ _ (by simp)]; exact hD.2.1, by rw [i _ _ (by simp)]; exact hD.2.2.1, hD.2.2.2⟩⟩
  obtain ⟨⟨c1, c2, c3', c4, c5, c6, c7, c8, c9⟩, cu⟩ := hN f hf
  have k1 : f.1 ≠ [16, 1] := fun y => by have := n12_hd c1; rw [y] at this; simp [hd] at this
  have k2 : f.2.1 ≠ [16, 1] := fun y => by have := n12_hd c2; rw [y] at this; simp [hd] at this
  exact ⟨⟨c1, c2, c3', c4, c5, c6, by rw [i _ _ k1]; exact c7, by rw [i _ _ k1]; exact c8, fun x x0 x1 => by rw [i _ _ k2]; exact c9 x x0 x1⟩, by rw [i _ _ k1]; exact cu⟩
theorem al_z {J : Int → Int → Int} {sl s' : Int} {t : Nat} (h : J 17 (10 * sl + t) ≤ 0) (n : Nat) : alJ (uJ J 17 (10 * sl + t) 0) s' n = alJ J s' n := by
  induction n with
  | zero => rfl
  | succ n ih =>
    show alJ _ s' n + _ = alJ J s' n + _
    rw [ih, uJ_self]
    by_cases z : 10 * s' + (n : Int) = 10 * sl + t
    · rw [z, upI_self, if_pos (Int.le_refl _), if_pos h]
    · rw [upI_ne _ _ z]
theorem MID.z {J0 J1 : Int → Int → Int} {a sl : Int} {L0 Nw : List Ck} {t : Nat} {ty : Nm → Nat} {ln : Nm → Int} {I : Nm → Int → Int} {R : Nm → Int → Option Nm} {c : Nat} (h : MID J0 J1 a sl L0 Nw ty ln I R c) (ht : t < 10) (h17 : J1 17 (10 * sl + t) ≤ 0) : MID J0 (uJ J1 17 (10 * sl + t) 0) a sl L0 Nw ty ln I R c := by
  obtain ⟨hS, h7, hN, hV, hQ, hD⟩ := h
  have ne : ∀ k x, k ≠ 17 → uJ J1 17 (10 * sl + t) 0 k x = J1 k x := fun k x hk => by rw [uJ_ne hk]
  have al := fun s' n => al_z (s' := s') h17 n
  refine ⟨hS, h7, fun f hf => ?_, ?_, ?_, ?_⟩
  · obtain ⟨⟨c1, c2, c3', c4, c5, c6, c7, c8, c9⟩, cu⟩ := hN f hf
    exact ⟨⟨c1, c2, c3', c4, c5, c6, c7, c8, fun x x0 x1 => by rw [ne 23 _ (by decide)]; exact c9 x x0 x1⟩, cu⟩
  · obtain ⟨v1, v2, v3, v4⟩ := hV
    have ee : ∀ k i : Nat, enJ (uJ J1 17 (10 * sl + t) 0) a sl k i ↔ enJ J1 a sl k i := fun k i => by
      unfold enJ lvJ
      rw [ne 16 _ (by decide), al]
    refine ⟨v1.imp ?_, by rw [ne 20 _ (by decide)]; exact v2, fun k i hk => ?_, fun e he => ?_⟩
    · intro e f d
      refine ⟨d.1, d.2.1, fun z => d.2.2 ⟨z.1, fun x x0 x1 => ?_⟩⟩
      have := z.2 x x0 x1
      rw [ne 23 _ (by decide), ne 23 _ (by decide)] at this
      exact this
    · rw [ne 18 _ (by decide), ne 19 _ (by decide)]; exact v3 k i ((ee k i).mp hk)
    · obtain ⟨k, i, u1, u2⟩ := v4 e he
      exact ⟨k, i, (ee k i).mpr u1, by rw [ne 18 _ (by decide)]; exact u2⟩
  · obtain ⟨⟨q1, q2⟩, q3, q4, q5, q6, q7, q8, q9, q10, q11⟩ := hQ
    refine ⟨⟨fun k x k1 k2 k3 k4 k5 k6 k7 k8 => by rw [ne k x k2]; exact q1 k x k1 k2 k3 k4 k5 k6 k7 k8, fun x hx => by rw [ne _ _ (by decide)]; exact q2 x hx⟩, fun x hx => by rw [uJ_self, upI_ne _ _ (by omega)]; exact q3 x hx, fun x hx => by rw [ne _ _ (by decide), ne _ _ (by decide)]; exact q4 x hx, fun x hx => by rw [ne _ _ (by decide)]; exact q5 x hx, fun x hx => by rw [ne _ _ (by decide), ne _ _ (by decide)]; exact q6 x hx, fun x hx => by rw [ne _ _ (by decide)]; exact q7 x hx, fun s s0 s1 => by rw [ne _ _ (by decide)] at s1; rw [ne _ _ (by decide), ne _ _ (by decide)]; exact q8 s s0 s1, by rw [ne _ _ (by decide), ne _ _ (by decide)]; exact q9, fun e he => by unfold pcJ; rw [ne _ _ (by decide), ne _ _ (by decide)]; exact q10 e he, fun p p0 p1 hp => by rw [ne _ _ (by decide)] at p1; rw [ne _ _ (by decide)]; exact q11 p p0 p1 hp⟩
  · obtain ⟨d1, d2, d3, d4⟩ := hD
    exact ⟨by rw [al]; exact d1, by rw [ne _ _ (by decide)]; exact d2, by rw [ne _ _ (by decide)]; exact d3, fun i hi => by rw [al] at hi; rw [ne _ _ (by decide), ne _ _ (by decide)]; exact d4 i hi⟩
theorem CVR.ini {J0 : Int → Int → Int} {a sl : Int} {ks : Nat} {L0 : List Ck} (h : CVR J0 a (-1) L0) (a0 : 0 ≤ a) (hks : sl = 6 * a + ks ∧ ks < 6) (hf : J0 16 sl < 0) : CVR (wJ (uJ J0 (-1) 30 60) 17 (10 * sl) (10 * sl + 10) (fun _ => -1)) a sl L0 := by
  obtain ⟨v1, v2, v3, v4⟩ := h
  have ne : ∀ k x, k ≠ 17 → k ≠ -1 → (wJ (uJ J0 (-1) 30 60) 17 (10 * sl) (10 * sl + 10) (fun _ => -1)) k x = J0 k x := fun k x h1 h2 => by rw [wJ_ne h1, uJ_ne h2]
  have als : alJ (wJ (uJ J0 (-1) 30 60) 17 (10 * sl) (10 * sl + 10) (fun _ => -1)) sl 10 = 0 := by
    have s : ∀ n : Nat, n ≤ 10 → alJ (wJ (uJ J0 (-1) 30 60) 17 (10 * sl) (10 * sl + 10) (fun _ => -1)) sl n = 0 := by
      intro n
      induction n with
      | zero => intro _; rfl
      | succ n ih =>
        intro hn
        show alJ _ sl n + _ = 0
        rw [ih (by omega), wJ_in (by omega), if_pos (by decide)]; rfl
    exact s 10 (Nat.le_refl _)
  have alo : ∀ k : Nat, k ≠ ks → alJ (wJ (uJ J0 (-1) 30 60) 17 (10 * sl) (10 * sl + 10) (fun _ => -1)) (6 * a + k) 10 = alJ J0 (6 * a + k) 10 := fun k hk => alJ_c 10 (fun x hx => by rw [wJ_out (by omega), uJ_ne (by decide)])
  have ee : ∀ k i : Nat, enJ (wJ (uJ J0 (-1) 30 60) 17 (10 * sl) (10 * sl + 10) (fun _ => -1)) a sl k i ↔ enJ J0 a (-1) k i := fun k i => by
    unfold enJ lvJ
    rw [ne 16 _ (by decide) (by decide)]
    constructor
    · rintro ⟨x, y, z⟩
      by_cases u : k = ks
      · rw [u, ← hks.1, als] at z; omega
      · rw [alo k u] at z
        exact ⟨x, Or.inl (y.elim id (fun w => by omega)), z⟩
    · rintro ⟨x, y, z⟩
      have y1 : 0 ≤ J0 16 (6 * a + k) := y.elim id (fun w => by omega)
      have u : k ≠ ks := fun u => by rw [u, ← hks.1] at y1; omega
      exact ⟨x, Or.inl y1, by rw [alo k u]; exact z⟩
  refine ⟨v1.imp ?_, by rw [ne 20 _ (by decide) (by decide)]; exact v2, fun k i hk => ?_, fun e he => ?_⟩
  · intro e f d
    refine ⟨d.1, d.2.1, fun z => d.2.2 ⟨z.1, fun x x0 x1 => ?_⟩⟩
    have := z.2 x x0 x1
    rw [ne 23 _ (by decide) (by decide), ne 23 _ (by decide) (by decide)] at this
    exact this
  · rw [ne 18 _ (by decide) (by decide), ne 19 _ (by decide) (by decide)]; exact v3 k i ((ee k i).mp hk)
  · obtain ⟨k, i, u1, u2⟩ := v4 e he
    exact ⟨k, i, (ee k i).mpr u1, by rw [ne 18 _ (by decide) (by decide)]; exact u2⟩
set_option maxHeartbeats 8000000 in
theorem y_lay {d : Nat} {K : Kt} {X : Xt} {ty : Nm → Nat} {ln : Nm → Int} {I : Nm → Int → Int} {R : Nm → Int → Option Nm} {c w : Nat} {a sl : Int} {J0 : Int → Int → Int} {L0 : List Ck} {ks : Nat} {C0 W0 : Int} (hS : MS J0 a L0 ty ln I R c) (h7 : HL7 I ty ln R a L0) (hR0 : MR J0) (hP0 : PL J0) (ha : hsJ J0 a) (hks : sl = 6 * a + ks ∧ ks < 6) (hf : J0 16 sl < 0) (hC : C0 + 3 * rmA J0 a 10 ≤ c) (hW : W0 + 64 * rmA J0 a 10 ≤ w + 4 * ln (la R a 7)) (hC0 : 0 ≤ C0) (hW0 : 24000 ≤ W0)
    (k0 : (tgL (wJ (uJ J0 (-1) 30 60) 17 (10 * sl) (10 * sl + 10) (fun _ => -1)) a sl 10).1 = 0 → ∀ (ty' : Nm → Nat) (ln' : Nm → Int) (I' : Nm → Int → Int) (R' : Nm → Int → Option Nm) (c' w' : Nat) (Nw' : List Ck), FRM a ty ln I R ty' ln' I' R' → MS J0 a L0 ty' ln' I' R' c' → HL7 I' ty' ln' R' a (L0 ++ Nw') → QRs J0 (tgL (wJ (uJ J0 (-1) 30 60) 17 (10 * sl) (10 * sl + 10) (fun _ => -1)) a sl 10).2.2 a sl Nw' → (∀ e ∈ Nw', ty' e.1 = 101) → C0 ≤ c' → W0 ≤ w' + 4 * ln' (la R' a 7) → K (some (vI 0)) (ty', ln', I', R', c', w'))
    (k1 : (tgL (wJ (uJ J0 (-1) 30 60) 17 (10 * sl) (10 * sl + 10) (fun _ => -1)) a sl 10).1 = 1 → (∀ x : Nat, x < 10 → lnS (tgL (wJ (uJ J0 (-1) 30 60) 17 (10 * sl) (10 * sl + 10) (fun _ => -1)) a sl 10).2.2 (500 * sl + alJ (tgL (wJ (uJ J0 (-1) 30 60) 17 (10 * sl) (10 * sl + 10) (fun _ => -1)) a sl 10).2.2 sl x) ((tgL (wJ (uJ J0 (-1) 30 60) 17 (10 * sl) (10 * sl + 10) (fun _ => -1)) a sl 10).2.2 17 (10 * sl + x)).toNat ≤ 200) → (∀ x : Nat, x < 10 → (0 ≤ (tgL (wJ (uJ J0 (-1) 30 60) 17 (10 * sl) (10 * sl + 10) (fun _ => -1)) a sl 10).2.2 17 (10 * sl + x) ↔ J0 12 (10 * a + x) ≠ 0)) → ∀ (ty' : Nm → Nat) (ln' : Nm → Int) (I' : Nm → Int → Int) (R' : Nm → Int → Option Nm) (c' w' : Nat) (Nw' : List Ck), FRM a ty ln I R ty' ln' I' R' → MID J0 (tgL (wJ (uJ J0 (-1) 30 60) 17 (10 * sl) (10 * sl + 10) (fun _ => -1)) a sl 10).2.2 a sl L0 Nw' ty' ln' I' R' c' → C0 ≤ c' → W0 ≤ w' + 4 * ln' (la R' a 7) → (∀ x : Nat, x ≤ 10 → I' [16, 1] x = alJ (tgL (wJ (uJ J0 (-1) 30 60) 17 (10 * sl) (10 * sl + 10) (fun _ => -1)) a sl 10).2.2 sl x) → K (some (vI 1)) (ty', ln', I', R', c', w')) :
    Mth (d + 9) M_Draft_lay [vR (some [16]), vR (some [4, a])] (ty, ln, I, R, c, w) K X := by
  obtain ⟨Js, eJs⟩ : ∃ Js, Js = (wJ (uJ J0 (-1) 30 60) 17 (10 * sl) (10 * sl + 10) (fun _ => -1)) := ⟨_, rfl⟩
  rw [← eJs] at k0 k1
  obtain ⟨m1, m2, mY, m4, m5, m6⟩ := id hS
  obtain ⟨f1, fr0, fr1, fr2, fr3, fr4, fr5, ⟨ft0, fl0⟩, ⟨ft3, fl3⟩, ⟨ft4, fl4⟩, ⟨ft5, fl5⟩, ft16, fr160, fr161, ⟨ft160, fl160⟩, ⟨ft161, fl161⟩⟩ := id m1.g.1
  obtain ⟨t0, ⟨r2, t2, ll2⟩, ⟨r3, t3, ll3⟩, ⟨r4, t4, ll4⟩, ⟨r5, t5, ll5⟩, rw5, ⟨r6, t6, ll6⟩, ⟨r7, t7⟩, ⟨r8, t8⟩, ⟨r9, t9⟩⟩ := m1.hs a ha
  have a0 := ha.1
  have b20 := hR0.k20 a
  have ne : ∀ k x, k ≠ 17 → k ≠ -1 → Js k x = J0 k x := fun k x h1 h2 => by rw [eJs, wJ_ne h1, uJ_ne h2]
  have j30 : Js (-1) 30 = 60 := by rw [eJs, wJ_ne (by decide), uJ_self, upI_self]
  have jm : ∀ x, x ≠ 30 → Js (-1) x = J0 (-1) x := fun x hx => by rw [eJs, wJ_ne (by decide), uJ_self, upI_ne _ _ hx]
  have j17 : ∀ x : Nat, x < 10 → Js 17 (10 * sl + x) = -1 := fun x hx => by rw [eJs, wJ_in (by omega)]
  have hSIs : SI Js a := by
    refine ⟨?_, fun x => by rw [ne _ _ (by decide) (by decide), ne _ _ (by decide) (by decide)]; exact hP0 x, by rw [j30]; omega, Or.inl j30⟩
    rw [eJs]
    exact (hR0.u (Or.inl rfl)).w (fun _ _ _ => ⟨by decide, by decide⟩)
  have tg := fun t ht => tgL_i (J := Js) (a := a) (sl := sl) hSIs a0 t ht
  obtain ⟨P0, eP0⟩ : ∃ P0 : (Nm → Nat) → (Nm → Int) → (Nm → Int → Int) → (Nm → Int → Option Nm) → Prop, P0 = fun ty' ln' I' R' => FRM a ty ln I R ty' ln' I' R' := ⟨_, rfl⟩
  have P0t : ∀ {ty ty' : Nm → Nat} {ln ln' : Nm → Int} {I I' : Nm → Int → Int} {R R' : Nm → Int → Option Nm}, P0 ty ln I R → FRM a ty ln I R ty' ln' I' R' → P0 ty' ln' I' R' := fun h g => by rw [eP0] at h ⊢; exact FRM.trans h g
  have P0o : ∀ {ty' : Nm → Nat} {ln' : Nm → Int} {I' : Nm → Int → Int} {R' : Nm → Int → Option Nm}, P0 ty' ln' I' R' → FRM a ty ln I R ty' ln' I' R' := fun h => by rw [eP0] at h; exact h
  have f16 : ∀ {n : Nm}, fxh n → n ≠ [16, 1] ∧ n ≠ [16] := fun {n} hx => ⟨fun y => by rw [y] at hx; simp [fxh, hd] at hx, fun y => by rw [y] at hx; simp [fxh, hd] at hx⟩
  -- the tags
  have key : ∀ (q t : Nat) (Nw : List Ck) (ty : Nm → Nat) (ln : Nm → Int) (I : Nm → Int → Int) (R : Nm → Int → Option Nm) (c w : Nat), P0 ty ln I R → t + q = 10 → (tgL Js a sl t).1 = 1 → (tgL Js a sl t).2.1 = 500 * sl + alJ (tgL Js a sl t).2.2 sl 10 → MID J0 (tgL Js a sl t).2.2 a sl L0 Nw ty ln I R c → (∀ x : Nat, t ≤ x → x < 10 → (tgL Js a sl t).2.2 17 (10 * sl + x) = -1) → (∀ x : Nat, x < t → I [16, 1] x = alJ (tgL Js a sl t).2.2 sl x) → (∀ x : Nat, x < t → lnS (tgL Js a sl t).2.2 (500 * sl + alJ (tgL Js a sl t).2.2 sl x) ((tgL Js a sl t).2.2 17 (10 * sl + x)).toNat ≤ 200) → (∀ x : Nat, x < t → (0 ≤ (tgL Js a sl t).2.2 17 (10 * sl + x) ↔ J0 12 (10 * a + x) ≠ 0)) → C0 + 3 * rmA J0 a q ≤ c → W0 + 64 * rmA J0 a q ≤ w + 4 * ln (la R a 7) → Rn (d + 8) M_Draft_lay K X 26 [vR (some [16]), vR (some [4, a]), vI (t : Int)] [] (ty, ln, I, R, c, w) := by
    intro q
    induction q with
    | zero =>
      intro t Nw ty ln I R c w hP0 hq h1 hcc hM hl hst hln hh hC hW
      have ht : t = 10 := by omega
      subst ht
      obtain ⟨f1, fr0, fr1, fr2, fr3, fr4, fr5, ⟨ft0, fl0⟩, ⟨ft3, fl3⟩, ⟨ft4, fl4⟩, ⟨ft5, fl5⟩, ft16, fr160, fr161, ⟨ft160, fl160⟩, ⟨ft161, fl161⟩⟩ := id hM.1.1.g.1
      have hD := hM.2.2.2.2.2
      rw [b_Draft_lay_26, if_pos (by omega), and_t ft16, and_t ft16, fr161, ex_some, and_t ⟨ft161, rfl, by omega, by omega⟩, and_t (Or.inr rfl), hD.1]
      have hC' : C0 ≤ c := by have : C0 + 3 * (0 : Int) ≤ c := hC; omega
      have hW' : W0 ≤ w + 4 * ln (la R a 7) := by have : W0 + 64 * (0 : Int) ≤ w + 4 * ln (la R a 7) := hW; omega
      refine k1 h1 (fun x hx => hln x hx) (fun x hx => hh x hx) ty ln _ R c w Nw (P0o (P0t hP0 (FRM.of (fun n x hx => by rw [up2_ne (f16 hx).1]) (fun _ _ _ _ => rfl)))) (hM.st hR0 ha (fun n x hn => by rw [up2_ne hn])) hC' hW' (fun x hx => ?_)
      by_cases y : x = 10
      · rw [y, up2_self]; exact upI_self _ _ _
      · rw [up2_self, upI_ne _ _ (by omega)]; exact hst x (by omega)
    | succ q ih =>
      intro t Nw ty ln I R c w hP0 hq h1 hcc hM hl hst hln hh hC hW
      have tg1 := tg t (by omega)
      have tg2 := tg (t + 1) (by omega)
      obtain ⟨J1, eJ1⟩ : ∃ J1, J1 = (tgL Js a sl t).2.2 := ⟨_, rfl⟩
      rw [← eJ1] at hcc hM hl hst hln hh tg1
      obtain ⟨hS, h7, hN, hV, hQ, hD⟩ := id hM
      obtain ⟨m1, m2, mY, m4, m5, m6⟩ := id hS
      obtain ⟨f1, fr0, fr1, fr2, fr3, fr4, fr5, ⟨ft0, fl0⟩, ⟨ft3, fl3⟩, ⟨ft4, fl4⟩, ⟨ft5, fl5⟩, ft16, fr160, fr161, ⟨ft160, fl160⟩, ⟨ft161, fl161⟩⟩ := id m1.g.1
      obtain ⟨t0, ⟨r2, t2, ll2⟩, ⟨r3, t3, ll3⟩, ⟨r4, t4, ll4⟩, ⟨r5, t5, ll5⟩, rw5, ⟨r6, t6, ll6⟩, ⟨r7, t7⟩, ⟨r8, t8⟩, ⟨r9, t9⟩⟩ := m1.hs a ha
      obtain ⟨rt, tt, ltt⟩ := rw5 t (by omega) (by omega)
      have e12 : J1 12 (10 * a + t) = J0 12 (10 * a + t) := hQ.1.1 12 _ (by decide) (by decide) (by decide) (by decide) (by decide) (by decide) (by decide) (by decide)
      have alt : alJ J1 sl 10 = alJ J1 sl t := alJ_neg (fun x h1 h2 => by rw [hl x h1 h2]; decide) 10 (by omega) (Nat.le_refl _)
      have rf := m1.rf a t ha (by omega) (by omega)
      have rmq : rmA J0 a (q + 1) = rmA J0 a q + rmQ (J0 13 (10 * a + t)) 0 := by show rmA J0 a q + rmQ (J0 13 (10 * a + (9 - q))) 0 = _; rw [show 9 - (q : Int) = t by omega]
      rw [rmq] at hC hW
      have b13 := hR0.k13 (10 * a + t)
      have rmp : 0 ≤ rmQ (J0 13 (10 * a + t)) 0 := by unfold rmQ; omega
      have rm0 := rmA_0 (a := a) hR0 q
      obtain ⟨I1, eI1⟩ : ∃ I1, I1 = up2 I [16, 1] (t : Int) (I [16] 2) := ⟨_, rfl⟩
      have i1o : ∀ n x, n ≠ [16, 1] → I1 n x = I n x := fun n x hn => by rw [eI1, up2_ne hn]
      have hM1 : MID J0 J1 a sl L0 Nw ty ln I1 R c := hM.st hR0 ha i1o
      have hP1 : P0 ty ln I1 R := P0t hP0 (FRM.of (fun n x hx => i1o n x (f16 hx).1) (fun _ _ _ _ => rfl))
      have st1 : ∀ x : Nat, x < t + 1 → I1 [16, 1] x = alJ J1 sl x := fun x hx => by
        rw [eI1, up2_self]
        by_cases y : x = t
        · rw [y, upI_self, hD.1, alt]
        · rw [upI_ne _ _ (by omega)]; exact hst x (by omega)
      rw [b_Draft_lay_26, if_neg (by omega), and_t ft16, and_t ft16, fr161, ex_some, and_t ⟨ft161, rfl, by omega, by omega⟩, ex_some, and_t t0, r5, ex_some, and_t ⟨⟨by omega, by omega⟩, by omega, by omega⟩, ex_some, and_t t0, r6, ex_some, and_t ⟨Or.inl t6, by omega, by omega⟩, and_t ft16, rt, up2_ne (by simp), rf, ← eI1]
      by_cases c12 : J0 12 (10 * a + t) = 0
      · have etg : tgL Js a sl (t + 1) = tgL Js a sl t := if_pos (Or.inr (by rw [← eJ1, e12]; exact c12))
        rw [if_pos c12, in_Draft_cut, b_Draft_cut_0, b_Draft_cut_6, if_pos (by decide), and_t (Or.inr rfl)]
        show Rn (d + 8) M_Draft_lay K X 59 _ [vI 1] _
        rw [b_Draft_lay_59, if_pos (by decide), w32_id (by omega) (by omega)]
        refine ih (t + 1) Nw ty ln I1 R c w hP1 (by omega) (by rw [etg]; exact h1) ?_ ?_ ?_ ?_ ?_ ?_ (by omega) (by omega) <;> rw [etg, ← eJ1]
        · exact hcc
        · exact hM1
        · intro x x1 x2; exact hl x (by omega) x2
        · exact st1
        · intro x hx
          by_cases y : x = t
          · subst y
            rw [hl x (Nat.le_refl _) (by omega)]
            show (0 : Int) ≤ 200
            decide
          · exact hln x (by omega)
        · intro x hx
          by_cases y : x = t
          · subst y
            rw [hl x (Nat.le_refl _) (by omega)]
            exact ⟨fun z => absurd z (by decide), fun z => absurd c12 z⟩
          · exact hh x (by omega)
      · rw [if_neg c12]
        have etg : tgL Js a sl (t + 1) = fiL a sl t 200 (500 * sl + alJ (uJ J1 17 (10 * sl + t) 0) sl 10) 0 (uJ J1 17 (10 * sl + t) 0) := by
          rw [show tgL Js a sl (t + 1) = fiL a sl t 200 (tgL Js a sl t).2.1 0 (uJ (tgL Js a sl t).2.2 17 (10 * sl + t) 0) from if_neg (fun z => z.elim (fun u => by omega) (fun u => c12 (by rw [← e12, eJ1]; exact u))), hcc, ← eJ1, al_z (by rw [hl t (Nat.le_refl _) (by omega)]; decide)]
        have l17 : J1 17 (10 * sl + t) ≤ 0 := by rw [hl t (Nat.le_refl _) (by omega)]; decide
        have e13 : J1 13 (10 * a + t) = J0 13 (10 * a + t) := hQ.1.1 13 _ (by decide) (by decide) (by decide) (by decide) (by decide) (by decide) (by decide) (by decide)
        have al5 := alJ_50 (J := J1) (sl := sl) (fun x => (tg1.2.1.1.k17 x).2) t
        have al0 := alJ_0 (J := J1) (sl := sl) t
        have hz17 : uJ J1 17 (10 * sl + t) 0 17 (10 * sl + t) = 0 := by rw [uJ_self, upI_self]
        have hzo : ∀ x : Nat, x ≠ t → uJ J1 17 (10 * sl + t) 0 17 (10 * sl + x) = J1 17 (10 * sl + x) := fun x hx => by rw [uJ_self, upI_ne _ _ (by omega)]
        have hz : ∀ k x, k ≠ 17 → uJ J1 17 (10 * sl + t) 0 k x = J1 k x := fun k x hk => by rw [uJ_ne hk]
        have alz := fun n => al_z (s' := sl) l17 n
        have hF : FI (uJ J1 17 (10 * sl + t) 0) a sl t (500 * sl + alJ (uJ J1 17 (10 * sl + t) 0) sl 10) 0 := by
          refine ⟨⟨tg1.2.1.1.u (Or.inr ⟨by decide, by decide⟩), fun x => by rw [hz _ _ (by decide), hz _ _ (by decide)]; exact tg1.2.1.2.1 x, by rw [hz _ _ (by decide)]; exact tg1.2.1.2.2.1, by rw [hz _ _ (by decide), hz _ _ (by decide)]; exact tg1.2.1.2.2.2⟩, ?_, ?_, ?_, ?_, ?_⟩
          · rw [hz _ _ (by decide), e13]; omega
          · intro _; rw [hz17]; decide
          · rw [hz17]; decide
          · rw [alz, alt]; omega
          · rw [hz17, alz, alt]; omega
        refine y_cut (V := fun x => I1 [16, 1] x) (hM1.z (by omega) l17) hR0 ha hks (by omega) hF c12 hz17 (fun x x1 x2 => by rw [hzo x (by omega)]; exact hl x (by omega) x2) (C0 := C0 + 3 * rmA J0 a q) (W0 := W0 + 64 * rmA J0 a q) (by omega) (by omega) (by omega) (by omega) (fun _ => rfl) ?_ ?_
        · rw [← etg]
          intro hz0 ty' ln' I' R' c' w' Nw' hFR hS' h7' hQ' hty' hC' hW'
          show Rn (d + 8) M_Draft_lay K X 59 _ [vI 0] _
          rw [b_Draft_lay_59, if_neg (fun z => z rfl), and_t (Or.inl rfl)]
          have t10 := tgL_0 hz0 (10 - (t + 1))
          rw [show t + 1 + (10 - (t + 1)) = 10 by omega] at t10
          rw [t10] at k0
          exact k0 hz0 ty' ln' I' R' c' w' Nw' (P0o (P0t hP1 hFR)) hS' h7' hQ' hty' (by omega) (by omega)
        · rw [← etg]
          intro hz1 hc1 hl1 h19 h170 ty' ln' I' R' c' w' Nw' hFR hM' hC' hW' hv'
          show Rn (d + 8) M_Draft_lay K X 59 _ [vI 1] _
          rw [b_Draft_lay_59, if_pos (by decide), w32_id (by omega) (by omega)]
          obtain ⟨fi1, fi2, fi3, fi4, fi5, fi6, fi7, fi8⟩ := fiL_i (a := a) (sl := sl) (t := t) a0 200 _ 0 _ hF (by rw [hz _ _ (by decide), e13]; omega)
          rw [← etg] at fi5
          have s17 : ∀ x : Nat, x ≠ t → (tgL Js a sl (t + 1)).2.2 17 (10 * sl + x) = J1 17 (10 * sl + x) := fun x hx => by rw [fi5 _ (by omega), hzo x hx]
          have alx : ∀ x : Nat, x ≤ t → alJ (tgL Js a sl (t + 1)).2.2 sl x = alJ J1 sl x := fun x hx => alJ_c x (fun y hy => s17 y (by omega))
          refine ih (t + 1) Nw' ty' ln' I' R' c' w' (P0t hP1 hFR) (by omega) hz1 hc1 hM' (fun x x1 x2 => by rw [s17 x (by omega)]; exact hl x (by omega) x2) (fun x hx => by rw [hv', alx x (by omega)]; exact st1 x hx) (fun x hx => ?_) (fun x hx => ?_) hC' hW'
          · by_cases y : x = t
            · subst y
              rw [alx x (Nat.le_refl _)]
              rw [alz] at hl1
              exact hl1
            · have lx := hln x (by omega)
              have am := alJ_m (J := J1) (sl := sl) (n := x + 1) 10 (by omega)
              have ax : alJ J1 sl (x + 1) = alJ J1 sl x + (if J1 17 (10 * sl + x) ≤ 0 then 0 else J1 17 (10 * sl + x)) := rfl
              rw [alx x (by omega), s17 x y, lnS_c2 (J := J1) _ (fun i hi => ?_)]
              · exact lx
              · rw [h19 _ (by
                  rw [alz]
                  by_cases u : J1 17 (10 * sl + x) ≤ 0
                  · omega
                  · rw [if_neg u] at ax; omega), hz _ _ (by decide)]
          · by_cases y : x = t
            · subst y
              exact ⟨fun _ => c12, fun _ => h170⟩
            · rw [s17 x y]; exact hh x (by omega)
  -- the start
  have b15 := hS.2.2.1
  rw [in_Draft_lay, b_Draft_lay_0, and_t ⟨ft16, rfl⟩, ex_some, and_t t0, r8, ex_some, and_t t8, s_AL_size t8, up2_ne (by simp), mY.2.2.2.2.2.2.1.2.2.1]
  show Rn (d + 8) M_Draft_lay K X 13 _ [vI (J0 20 a), vR (some [16])] _
  rw [b_Draft_lay_13, and_t ⟨ft16, rfl⟩, and_t ⟨ft16, rfl⟩, w32_id (by omega) (by omega)]
  obtain ⟨I1, eI1⟩ : ∃ I1, I1 = up2 (up2 (up2 I [16] 2 0) [16] 3 (J0 20 a - 1)) [16] 4 60 := ⟨_, rfl⟩
  rw [← eI1]
  have i1o : ∀ n x, n ≠ [16] → I1 n x = I n x := fun n x hn => by rw [eI1, up2_ne hn, up2_ne hn, up2_ne hn]
  have d7n : la R a 7 ≠ nE → ty (la R a 7) = 8 := fun z => h7.1.2.2.2.2.1.elim (fun u => absurd u.1 z) (fun u => u.1)
  have al00 : alJ Js sl 10 = 0 := by
    rw [alJ_neg (t := 0) (fun x _ h2 => by rw [j17 x h2]; decide) 10 (by omega) (Nat.le_refl _)]; rfl
  have hMi : MID J0 Js a sl L0 [] ty ln I1 R c := by
    refine ⟨hS.step hR0 ha h7.2.2.1 h7.2.2.2.1 h7.2.2.2.2 d7n (fun _ _ => ⟨rfl, rfl⟩) (fun n x _ _ u => i1o n x (fun y => u (by rw [y]; rfl))) (fun _ _ _ _ _ _ => rfl) m6, ?_, fun e he => absurd he List.not_mem_nil, ?_, ?_, ?_⟩
    · rw [List.append_nil]; exact h7.fr (fun _ _ => ⟨rfl, rfl⟩) (fun _ => rfl) (i1o _ _ (by simp)) (fun _ => rfl)
    · rw [List.append_nil, eJs]; exact m5.ini a0.1 hks hf
    · refine ⟨⟨fun k x k1 k2 _ _ _ _ _ _ => ne k x k2 k1, jm⟩, fun x hx => by rw [eJs, wJ_out (by omega), uJ_ne (by decide)], fun x _ => ⟨ne _ _ (by decide) (by decide), ne _ _ (by decide) (by decide)⟩, fun x _ => ne _ _ (by decide) (by decide), fun x _ => ⟨ne _ _ (by decide) (by decide), ne _ _ (by decide) (by decide)⟩, fun x _ => ne _ _ (by decide) (by decide), fun s s0 s1 => by rw [ne 20 _ (by decide) (by decide)] at s1; omega, by rw [ne 20 _ (by decide) (by decide)]; exact ⟨Int.le_refl _, Or.inl ⟨rfl, j30, rfl⟩⟩, fun e he => absurd he List.not_mem_nil, fun p p0 p1 _ => by rw [ne 20 _ (by decide) (by decide)] at p1; omega⟩
    · refine ⟨?_, ?_, ?_, fun i hi => ?_⟩
      · rw [al00, eI1, up2_self, upI_ne _ _ (by decide), up2_self, upI_ne _ _ (by decide), up2_self, upI_self]
      · rw [ne 20 _ (by decide) (by decide), eI1, up2_self, upI_ne _ _ (by decide), up2_self, upI_self]
      · rw [j30, eI1, up2_self, upI_self]
      · rw [al00] at hi; omega
  exact key 10 0 [] ty ln I1 R c w (by rw [eP0]; exact FRM.of (fun n x hx => i1o n x (f16 hx).2) (fun _ _ _ _ => rfl)) rfl rfl (by show 500 * sl = 500 * sl + alJ Js sl 10; rw [al00]; omega) hMi (fun x _ h2 => j17 x h2) (fun x hx => by omega) (fun x hx => by omega) (fun x hx => by omega) hC hW
