/-! ===== Draft.cut ===== -/
theorem nxJ_17 {J : Int → Int → Int} {a sl t f fr c x : Int} : nxJ J a sl t f fr c 17 x = if x = 10 * sl + t then J 17 x + 1 else J 17 x := by
  unfold nxJ
  rw [uJ_self]
  by_cases q : x = 10 * sl + t
  · rw [if_pos q, q, upI_self, chJ_o (by decide)]
  · rw [if_neg q, upI_ne _ _ q, uJ_ne (by decide), uJ_ne (by decide), chJ_o (by decide)]
theorem nxJ_19 {J : Int → Int → Int} {a sl t f fr c x : Int} : nxJ J a sl t f fr c 19 x = if x = c then ceJ J f fr - fr else J 19 x := by
  unfold nxJ
  rw [uJ_ne (by decide), uJ_self]
  by_cases q : x = c
  · rw [if_pos q, q, upI_self]
  · rw [if_neg q, upI_ne _ _ q, uJ_ne (by decide), chJ_o (by decide)]
theorem alJ_neg {J : Int → Int → Int} {sl : Int} {t : Nat} (h : ∀ x : Nat, t ≤ x → x < 10 → J 17 (10 * sl + x) ≤ 0) : ∀ n : Nat, t ≤ n → n ≤ 10 → alJ J sl n = alJ J sl t := by
  intro n
  induction n with
  | zero => intro h1 _; rw [show t = 0 by omega]
  | succ n ih =>
    intro h1 h2
    by_cases z : t = n + 1
    · rw [z]
    · show alJ J sl n + _ = _
      rw [ih (by omega) (by omega), if_pos (h n (by omega) (by omega))]; omega
theorem ceR_s {f : Int → Int} {n fr i : Int} (h : i < n) : ceR f n fr (n - i).toNat = if i + 1 - fr = 16 then i + 1 else if 4 ≤ i + 1 - fr ∧ (f i + 3 * f (i - 1) + 5 * f (i - 2) + 7 * f (i - 3)) % 11 = 0 then i + 1 else ceR f n fr (n - (i + 1)).toNat := by
  rw [show (n - i).toNat = (n - (i + 1)).toNat + 1 by omega]
  show (if _ then _ else _) = _
  rw [show n - ((n - (i + 1)).toNat : Int) = i + 1 by omega, show i + 1 - 1 = i by omega, show i + 1 - 2 = i - 1 by omega, show i + 1 - 3 = i - 2 by omega, show i + 1 - 4 = i - 3 by omega]
/-- how many chunks may come yet of n bytes from fr on -/
abbrev rmQ (n fr : Int) : Int := (n - fr + 3) / 4
set_option maxHeartbeats 4000000 in
theorem y_cut {d : Nat} {K : Kt} {X : Xt} {ty : Nm → Nat} {ln : Nm → Int} {I : Nm → Int → Int} {R : Nm → Int → Option Nm} {c w : Nat} {a sl : Int} {J0 Ji : Int → Int → Int} {L0 Nw : List Ck} {t ks : Nat} {C0 W0 : Int} {V : Int → Int} (hM : MID J0 Ji a sl L0 Nw ty ln I R c) (hR0 : MR J0) (ha : hsJ J0 a) (hks : sl = 6 * a + ks ∧ ks < 6) (ht : t < 10) (hF : FI Ji a sl t (500 * sl + alJ Ji sl 10) 0) (h12 : J0 12 (10 * a + t) ≠ 0) (hm0 : Ji 17 (10 * sl + t) = 0) (hlt : ∀ x : Nat, t < x → x < 10 → Ji 17 (10 * sl + x) = -1) (hC : C0 + 3 * rmQ (J0 13 (10 * a + t)) 0 ≤ c) (hW : W0 + 64 * rmQ (J0 13 (10 * a + t)) 0 ≤ w + 4 * ln (la R a 7)) (hC0 : 0 ≤ C0) (hW0 : 24000 ≤ W0) (hv : ∀ x, I [16, 1] x = V x)
    (k0 : (fiL a sl t 200 (500 * sl + alJ Ji sl 10) 0 Ji).1 = 0 → ∀ (ty' : Nm → Nat) (ln' : Nm → Int) (I' : Nm → Int → Int) (R' : Nm → Int → Option Nm) (c' w' : Nat) (Nw' : List Ck), FRM a ty ln I R ty' ln' I' R' → MS J0 a L0 ty' ln' I' R' c' → HL7 I' ty' ln' R' a (L0 ++ Nw') → QRs J0 (fiL a sl t 200 (500 * sl + alJ Ji sl 10) 0 Ji).2.2 a sl Nw' → (∀ e ∈ Nw', ty' e.1 = 101) → C0 ≤ c' → W0 ≤ w' + 4 * ln' (la R' a 7) → K (some (vI 0)) (ty', ln', I', R', c', w'))
    (k1 : (fiL a sl t 200 (500 * sl + alJ Ji sl 10) 0 Ji).1 = 1 → (fiL a sl t 200 (500 * sl + alJ Ji sl 10) 0 Ji).2.1 = 500 * sl + alJ (fiL a sl t 200 (500 * sl + alJ Ji sl 10) 0 Ji).2.2 sl 10 → lnS (fiL a sl t 200 (500 * sl + alJ Ji sl 10) 0 Ji).2.2 (500 * sl + alJ Ji sl t) ((fiL a sl t 200 (500 * sl + alJ Ji sl 10) 0 Ji).2.2 17 (10 * sl + t)).toNat ≤ 200 → (∀ x, x < 500 * sl + alJ Ji sl 10 → (fiL a sl t 200 (500 * sl + alJ Ji sl 10) 0 Ji).2.2 19 x = Ji 19 x) → 0 ≤ (fiL a sl t 200 (500 * sl + alJ Ji sl 10) 0 Ji).2.2 17 (10 * sl + t) → ∀ (ty' : Nm → Nat) (ln' : Nm → Int) (I' : Nm → Int → Int) (R' : Nm → Int → Option Nm) (c' w' : Nat) (Nw' : List Ck), FRM a ty ln I R ty' ln' I' R' → MID J0 (fiL a sl t 200 (500 * sl + alJ Ji sl 10) 0 Ji).2.2 a sl L0 Nw' ty' ln' I' R' c' → C0 ≤ c' → W0 ≤ w' + 4 * ln' (la R' a 7) → (∀ x, I' [16, 1] x = V x) → K (some (vI 1)) (ty', ln', I', R', c', w')) :
    Mth (d + 8) M_Draft_cut [vR (some [16]), vR (some [4, a]), vR (some [4, a, 5, (t : Int)]), vI (J0 13 (10 * a + t))] (ty, ln, I, R, c, w) K X := by
  have b13 := hR0.k13 (10 * a + t)
  obtain ⟨P0, eP0⟩ : ∃ P0 : (Nm → Nat) → (Nm → Int) → (Nm → Int → Int) → (Nm → Int → Option Nm) → Prop, P0 = fun ty' ln' I' R' => FRM a ty ln I R ty' ln' I' R' := ⟨_, rfl⟩
  have P0t : ∀ {ty ty' : Nm → Nat} {ln ln' : Nm → Int} {I I' : Nm → Int → Int} {R R' : Nm → Int → Option Nm}, P0 ty ln I R → FRM a ty ln I R ty' ln' I' R' → P0 ty' ln' I' R' := fun h g => by rw [eP0] at h ⊢; exact FRM.trans h g
  have P0o : ∀ {ty' : Nm → Nat} {ln' : Nm → Int} {I' : Nm → Int → Int} {R' : Nm → Int → Option Nm}, P0 ty' ln' I' R' → FRM a ty ln I R ty' ln' I' R' := fun h => by rw [eP0] at h; exact h
  have key : ∀ (q : Nat) (i fr : Int) (m : Nat) (J1 : Int → Int → Int) (Nw : List Ck) (ty : Nm → Nat) (ln : Nm → Int) (I : Nm → Int → Int) (R : Nm → Int → Option Nm) (c w : Nat), P0 ty ln I R → i + q = J0 13 (10 * a + t) → fr ≤ i → (i < J0 13 (10 * a + t) ∨ fr = i) → J0 13 (10 * a + t) - fr ≤ m → MID J0 J1 a sl L0 Nw ty ln I R c → FI J1 a sl t (500 * sl + alJ J1 sl 10) fr → (fr < J0 13 (10 * a + t) → ceJ J1 (10 * a + t) fr = ceR (fun x => J1 14 (200 * (10 * a + t) + x)) (J0 13 (10 * a + t)) fr (J0 13 (10 * a + t) - i).toNat) → (∀ x : Nat, t < x → x < 10 → J1 17 (10 * sl + x) = -1) → (∀ x : Nat, x < t → J1 17 (10 * sl + x) = Ji 17 (10 * sl + x)) → lnS J1 (500 * sl + alJ Ji sl t) (J1 17 (10 * sl + t)).toNat = fr → (∀ x, x < 500 * sl + alJ Ji sl 10 → J1 19 x = Ji 19 x) → alJ Ji sl 10 ≤ alJ J1 sl 10 → C0 + 3 * rmQ (J0 13 (10 * a + t)) fr ≤ c → W0 + 64 * rmQ (J0 13 (10 * a + t)) fr ≤ w + 4 * ln (la R a 7) → (∀ x, I [16, 1] x = V x) → fiL a sl t m (500 * sl + alJ J1 sl 10) fr J1 = fiL a sl t 200 (500 * sl + alJ Ji sl 10) 0 Ji → Rn (d + 7) M_Draft_cut K X 6 [vR (some [16]), vR (some [4, a]), vR (some [4, a, 5, (t : Int)]), vI (J0 13 (10 * a + t)), vI fr, vI i] [] (ty, ln, I, R, c, w) := by
    intro q
    induction q with
    | zero =>
      intro i fr m J1 Nw ty ln I R c w hP0 hi h1 h2 hm hM hF hce hl hl2 hln h19 hal hC hW hv hfi
      obtain ⟨hSI, fI1, fI2, fI3, fI4, fI5⟩ := id hF
      have e13 : J1 13 (10 * a + t) = J0 13 (10 * a + t) := hM.2.2.2.2.1.1.1 13 _ (by decide) (by decide) (by decide) (by decide) (by decide) (by decide) (by decide) (by decide)
      have efi : fiL a sl t m (500 * sl + alJ J1 sl 10) fr J1 = (1, 500 * sl + alJ J1 sl 10, J1) := by
        cases m with
        | zero => rfl
        | succ m => exact if_pos (by omega)
      rw [efi] at hfi
      rw [b_Draft_cut_6, if_pos (by omega), and_t (Or.inr rfl)]
      rw [← hfi] at k1
      refine k1 rfl rfl ?_ h19 fI3 ty ln I R c w Nw (P0o hP0) hM (by unfold rmQ at hC; omega) (by unfold rmQ at hW; omega) hv
      show lnS J1 (500 * sl + alJ Ji sl t) (J1 17 (10 * sl + t)).toNat ≤ 200
      rw [hln]; omega
    | succ q ih =>
      intro i fr m J1 Nw ty ln I R c w hP0 hi h1 h2 hm hM hF hce hl hl2 hln h19 hal hC hW hv hfi
      obtain ⟨hSI, fI1, fI2, fI3, fI4, fI5⟩ := id hF
      obtain ⟨hS, h7, hN, hV, hQ, hD⟩ := id hM
      obtain ⟨m1, m2, mY, m4, m5, m6⟩ := id hS
      have e13 : J1 13 (10 * a + t) = J0 13 (10 * a + t) := hQ.1.1 13 _ (by decide) (by decide) (by decide) (by decide) (by decide) (by decide) (by decide) (by decide)
      have e14 : ∀ x, J1 14 x = J0 14 x := fun x => hQ.1.1 14 _ (by decide) (by decide) (by decide) (by decide) (by decide) (by decide) (by decide) (by decide)
      have fr0 := fI1.1
      obtain ⟨rt, tt, lt⟩ := (m1.hs a ha).2.2.2.2.2.1 t (by omega) (by omega)
      have hil : i < J0 13 (10 * a + t) := by omega
      have fb : ∀ x, 0 ≤ x → x < J0 13 (10 * a + t) → I [4, a, 5, (t : Int)] x = J1 14 (200 * (10 * a + t) + x) := fun x x0 x1 => by
        rw [e14]
        exact m1.ri _ _ _ _ (Or.inr (Or.inr (Or.inl ⟨a, t, ha, rfl, ⟨by omega, by omega⟩, ⟨by omega, by omega, by omega, h12⟩, rfl, rfl⟩)))
      have hce' := hce (by omega)
      have cel := ceJ_r (J := J1) (f := 10 * a + t) (fr := fr) ⟨fr0, by omega⟩
      have ln7 := h7.1.2.2.2.1
      -- a chunk ends here
      have en : ceJ J1 (10 * a + t) fr = i + 1 → Rn (d + 7) M_Draft_cut K X 31 [vR (some [16]), vR (some [4, a]), vR (some [4, a, 5, (t : Int)]), vI (J0 13 (10 * a + t)), vI fr, vI i] [] (ty, ln, I, R, c, w) := by
        intro hz
        have cb := cel.2.2.2
        have rm1 : 1 ≤ rmQ (J0 13 (10 * a + t)) fr := by unfold rmQ; omega
        rw [b_Draft_cut_31, and_t (m1.g.1.2.2.2.2.2.2.2.2.2.2.2.1), w32_id (x := i + 1) (by omega) (by omega), w32_id (by omega) (by omega)]
        obtain ⟨m', em⟩ : ∃ m', m = m' + 1 := ⟨m - 1, by omega⟩
        subst em
        have efi : fiL a sl t (m' + 1) (500 * sl + alJ J1 sl 10) fr J1 = if (chJ J1 a sl (10 * a + t) fr).1 < 0 then (0, 500 * sl + alJ J1 sl 10, (chJ J1 a sl (10 * a + t) fr).2) else fiL a sl t m' (500 * sl + alJ J1 sl 10 + 1) (ceJ J1 (10 * a + t) fr) (nxJ J1 a sl t (10 * a + t) fr (500 * sl + alJ J1 sl 10)) := by
          show (if _ then _ else _) = _
          rw [if_neg (by omega)]
        refine y_add hM hR0 ha hks ht hF h12 (by omega) (by omega) (by omega) (by omega) (fun hch hch2 I' hFR hS' h7' => ?_) (fun hch ty' ln' I' R' c' w' Nw' hFR hM' hb hk16 hv' => ?_)
        · show Rn (d + 7) M_Draft_cut K X 46 _ [vI 0] _
          rw [b_Draft_cut_46, if_neg (fun z => z rfl), and_t (Or.inl rfl)]
          rw [efi, if_pos hch] at hfi
          rw [← hfi] at k0
          exact k0 rfl ty ln I' R c w Nw (P0o (P0t hP0 hFR)) hS' h7' (by show QRs J0 (chJ J1 a sl (10 * a + t) fr).2 a sl Nw; rw [hch2]; exact hQ) (fun e he => (hN e he).1.2.2.1) (by omega) (by omega)
        · show Rn (d + 7) M_Draft_cut K X 46 _ [vI 1] _
          rw [b_Draft_cut_46, if_pos (by decide), b_Draft_cut_57, w32_id (x := i + 1) (by omega) (by omega)]
          rw [efi, if_neg (by omega)] at hfi
          obtain ⟨n1, n2, n3, n4, n5⟩ := nxJ_i hF ha.1 (by omega) hch
          have x13 : nxJ J1 a sl t (10 * a + t) fr (500 * sl + alJ J1 sl 10) 13 (10 * a + t) = J0 13 (10 * a + t) := by rw [n2 13 _ (by decide) (by decide) (by decide) (by decide) (by decide) (by decide) (by decide) (by decide)]; exact e13
          have s1 : nxJ J1 a sl t (10 * a + t) fr (500 * sl + alJ J1 sl 10) 17 (10 * sl + t) = J1 17 (10 * sl + t) + 1 := by rw [nxJ_17, if_pos rfl]
          have sx : ∀ x : Nat, x ≠ t → nxJ J1 a sl t (10 * a + t) fr (500 * sl + alJ J1 sl 10) 17 (10 * sl + x) = J1 17 (10 * sl + x) := fun x hx => by rw [nxJ_17, if_neg (by omega)]
          have at1 : alJ J1 sl t = alJ Ji sl t := alJ_c t (fun x hx => hl2 x hx)
          have at2 : alJ J1 sl 10 = alJ J1 sl t + J1 17 (10 * sl + t) := by
            rw [alJ_neg (t := t + 1) (fun x h1 h2 => by rw [hl x (by omega) h2]; decide) 10 (by omega) (Nat.le_refl _)]
            show alJ J1 sl t + _ = _
            by_cases y : J1 17 (10 * sl + t) ≤ 0
            · rw [if_pos y]; omega
            · rw [if_neg y]
          have at3 : alJ (nxJ J1 a sl t (10 * a + t) fr (500 * sl + alJ J1 sl 10)) sl 10 = alJ J1 sl 10 + 1 := by
            rw [alJ_neg (t := t + 1) (fun x h1 h2 => by rw [sx x (by omega), hl x (by omega) h2]; decide) 10 (by omega) (Nat.le_refl _)]
            show alJ (nxJ J1 a sl t (10 * a + t) fr (500 * sl + alJ J1 sl 10)) sl t + _ = _
            rw [s1, if_neg (by omega), alJ_c (J := J1) t (fun x hx => sx x (by omega)), at2]; omega
          rw [show 500 * sl + alJ J1 sl 10 + 1 = 500 * sl + alJ (nxJ J1 a sl t (10 * a + t) fr (500 * sl + alJ J1 sl 10)) sl 10 by rw [at3]; omega, hz] at hfi
          rw [hz, show 500 * sl + alJ J1 sl 10 + 1 = 500 * sl + alJ (nxJ J1 a sl t (10 * a + t) fr (500 * sl + alJ J1 sl 10)) sl 10 by rw [at3]; omega] at n1
          refine ih (i + 1) (i + 1) m' _ Nw' ty' ln' I' R' c' w' (P0t hP0 hFR) (by omega) (Int.le_refl _) (Or.inr rfl) (by omega) hM' n1 (fun _ => ?_) (fun x h1 h2 => by rw [sx x (by omega)]; exact hl x h1 h2) (fun x h1 => by rw [sx x (by omega)]; exact hl2 x h1) ?_ (fun x hx => ?_) (by omega) (by unfold rmQ at hC ⊢; omega) (by unfold rmQ at hW ⊢; omega) (fun x => by rw [hv']; exact hv x) hfi
          · unfold ceJ
            rw [x13]
          · rw [s1, show (J1 17 (10 * sl + t) + 1).toNat = (J1 17 (10 * sl + t)).toNat + 1 by omega]
            show lnS _ _ (J1 17 (10 * sl + t)).toNat + _ = _
            rw [lnS_c2 (J := J1) _ (fun x hx => by rw [nxJ_19, if_neg (by omega)]), hln, nxJ_19, if_pos (by omega)]; omega
          · rw [nxJ_19, if_neg (by omega)]; exact h19 x hx
      rw [b_Draft_cut_6, if_neg (by omega), w32_id (x := J0 13 (10 * a + t) - 1) (by omega) (by omega)]
      rw [ceR_s hil] at hce'
      by_cases c1 : i = J0 13 (10 * a + t) - 1
      · rw [if_pos c1]
        refine en ?_
        rw [hce']
        rw [show (J0 13 (10 * a + t) - (i + 1)).toNat = 0 by omega]
        split
        · rfl
        · split
          · rfl
          · show J0 13 (10 * a + t) = _
            omega
      · rw [if_neg c1, s_isCutBehind tt ⟨fr0, h1, by omega⟩ (by omega) (fun x x0 x1 => by rw [fb x x0 (by omega)]; have := hSI.1.k14 (200 * (10 * a + t) + x); omega)]
        show Rn (d + 7) M_Draft_cut K X 28 _ [vI _] _
        rw [b_Draft_cut_28]
        by_cases c2 : 4 ≤ i + 1 - fr
        · rw [fb i (by omega) (by omega), fb (i - 1) (by omega) (by omega), fb (i - 2) (by omega) (by omega), fb (i - 3) (by omega) (by omega)]
          by_cases c3 : i + 1 - fr = 16 ∨ (J1 14 (200 * (10 * a + t) + i) + 3 * J1 14 (200 * (10 * a + t) + (i - 1)) + 5 * J1 14 (200 * (10 * a + t) + (i - 2)) + 7 * J1 14 (200 * (10 * a + t) + (i - 3))) % 11 = 0
          · rw [if_neg (by rw [if_pos ⟨c2, c3⟩]; decide)]
            refine en ?_
            rw [hce']
            by_cases c4 : i + 1 - fr = 16
            · rw [if_pos c4]
            · rw [if_neg c4, if_pos ⟨c2, c3.elim (fun y => absurd y c4) id⟩]
          · rw [if_pos (by rw [if_neg (fun y => c3 y.2)]), b_Draft_cut_57, w32_id (by omega) (by omega)]
            rw [if_neg (fun y => c3 (Or.inl y)), if_neg (fun y => c3 (Or.inr y.2))] at hce'
            exact ih (i + 1) fr m J1 Nw ty ln I R c w hP0 (by omega) (by omega) (Or.inl (by omega)) hm hM hF (fun _ => hce') hl hl2 hln h19 hal hC hW hv hfi
        · rw [if_pos (by rw [if_neg (fun y => c2 y.1)]), b_Draft_cut_57, w32_id (by omega) (by omega)]
          rw [if_neg (fun y => by omega), if_neg (fun y => c2 y.1)] at hce'
          exact ih (i + 1) fr m J1 Nw ty ln I R c w hP0 (by omega) (by omega) (Or.inl (by omega)) hm hM hF (fun _ => hce') hl hl2 hln h19 hal hC hW hv hfi
  rw [in_Draft_cut, b_Draft_cut_0]
  refine key (J0 13 (10 * a + t)).toNat 0 0 200 Ji Nw ty ln I R c w (by rw [eP0]; exact FRM.refl) (by omega) (Int.le_refl _) (Or.inr rfl) (by omega) hM hF (fun _ => ?_) hlt (fun _ _ => rfl) (by rw [hm0]; rfl) (fun _ _ => rfl) (Int.le_refl _) hC hW hv rfl
  unfold ceJ
  rw [hM.2.2.2.2.1.1.1 13 _ (by decide) (by decide) (by decide) (by decide) (by decide) (by decide) (by decide) (by decide)]
