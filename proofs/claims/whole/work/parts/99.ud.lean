/-! ===== the state between two calls ===== -/
theorem RC.ee {J : Int → Int → Int} {E : Nm → Int → Int} {ty : Nm → Nat} {ln : Nm → Int} {I I' : Nm → Int → Int} {R : Nm → Int → Option Nm} (h : RC J E ty ln I R) (i : ∀ n x, hd n ≠ 2 → hd n ≠ 3 → hd n ≠ 18 → I' n x = I n x) : RC J I' ty ln I' R := by
  have i4 : ∀ l x, I' (4 :: l) x = I (4 :: l) x := fun l x => i _ x (by simp [hd]) (by simp [hd]) (by simp [hd])
  refine ⟨h.g.cg (fun n hn _ _ _ x _ => i n x (by omega) (by omega) (by omega)) (fun _ _ _ => rfl) (fun _ => rfl) (fun _ => rfl), h.hs, fun a ha => ?_, fun a ha => ?_, h.sr, h.sg, fun n x k y hl => ?_, fun a t ha t0 t1 => ?_, fun _ _ _ => rfl⟩
  · rw [i4]; exact h.nm a ha
  · rw [i4]; exact h.sn a ha
  · have := hl.hd4
    rw [i n x (by omega) (by omega) (by omega)]; exact h.ri n x k y hl
  · rw [i4]; exact h.rf a t ha t0 t1
theorem RLs.go {J J' : Int → Int → Int} {E E' E0 : Nm → Int → Int} {ty : Nm → Nat} {ln : Nm → Int} {I0 : Nm → Int → Int} {R : Nm → Int → Option Nm} (h : RLs J E ty ln R) (hc : RC J E0 ty ln I0 R) (hR : MR J) (e : ∀ n x, (hd n = 4 ∨ hd n = 12) → evC n x → E' n x = E n x) (j : ∀ k x, k = 5 ∨ k = 15 ∨ k = 16 ∨ k = 17 ∨ k = 18 ∨ k = 19 ∨ k = 20 ∨ k = 23 → J' k x = J k x) : RLs J' E' ty ln R := by
  intro b hb
  have hb1 : hsJ J b := by unfold hsJ at hb ⊢; rw [j 5 _ (by decide)] at hb; exact hb
  obtain ⟨L, hL⟩ := h b hb1
  refine ⟨L, hL.cg ⟨fun _ _ => ⟨rfl, rfl⟩, fun n x hn _ he => e n x ?_ he, fun _ _ _ _ => rfl⟩ (JB.same (fun k x hk => j k x (by omega))) hb1.1.1 (fun s s0 s1 => ?_) (by rw [(hc.hs b hb1).1]; decide) hR⟩
  · rcases hn with z | ⟨l, rfl⟩
    · exact Or.inr (n12_hd z)
    · exact Or.inl rfl
  · have := hR.k20 b
    rw [(hc.sg b s ⟨hb1, s0, by omega, s1⟩).1]; decide
def ro3 (ln : Nm → Int) (R : Nm → Int → Option Nm) (a : Int) : Int := ln (la R a 7) + ln (la R a 8) + ln (la R a 9)
/-- what a house may still make: cells, slots -/
def hcB (J : Int → Int → Int) (a : Int) : Int := if 0 < J 5 a then 41 * (40 - J 20 a) else 1659
def hwB (J : Int → Int → Int) (ln : Nm → Int) (R : Nm → Int → Option Nm) (a : Int) : Int := if 0 < J 5 a then 706 * (40 - J 20 a) + 4 * (10860 - ro3 ln R a) else 73753
/-- what the calls behind the first t may make -/
def bC (t : Int) : Int := if t < 256 then 107160 + 218 * (256 - t) else 2200 + 410 * (512 - t)
def bW (t : Int) : Int := 200000 + 9244 * (512 - t)
def SX (S : Int → Int) (L : Int) (J : Int → Int → Int) (ty : Nm → Nat) (ln : Nm → Int) (I : Nm → Int → Int) : Prop := (ty [18] = 3 ∧ ln [18] = 1) ∧ (ty [-3] = 20 ∧ ln [-3] = L) ∧ (∀ x, I [-3] x = S x) ∧ I [2] = J (-1) ∧ ∀ k, k ≠ -1 → I [3, k] = J k
def FX (J : Int → Int → Int) (ty : Nm → Nat) (c : Nat) : Prop := FR9 ty c ∧ (∀ a s t, hsJ J a → J 20 a ≤ s → ty (4 :: a :: 8 :: s :: t) = 0) ∧ (∀ a l, 0 ≤ a → a ≤ 9 → ¬ 0 < J 5 a → ty (4 :: a :: l) = 0)
def EX (ty : Nm → Nat) (ln : Nm → Int) (R : Nm → Int → Option Nm) : Prop := ty nE = 20 ∧ ln nE = 0 ∧ ∀ j, R nE j = none
def BX (t : Int) (J : Int → Int → Int) (ln : Nm → Int) (R : Nm → Int → Option Nm) (c w : Nat) : Prop := (∀ a, 0 ≤ a → a ≤ 9 → s10 (fun x => J 13 (10 * a + x)) ≤ t) ∧ bC t + s10 (hcB J) ≤ c ∧ bW t + s10 (hwB J ln R) ≤ w
def LV (S : Int → Int) (L t : Int) (J : Int → Int → Int) (ty : Nm → Nat) (ln : Nm → Int) (I : Nm → Int → Int) (R : Nm → Int → Option Nm) (c w : Nat) : Prop :=
  JI J ∧ NH J ∧ RC J I ty ln I R ∧ RLs J I ty ln R ∧ MOk ty ln R ∧ SX S L J ty ln I ∧ FX J ty c ∧ EX ty ln R ∧ BX t J ln R c w
theorem s10_0 {f : Int → Int} (h : ∀ a, 0 ≤ a → a ≤ 9 → 0 ≤ f a) : 0 ≤ s10 f := by
  have e0 := h 0 (by decide) (by decide)
  have e1 := h 1 (by decide) (by decide)
  have e2 := h 2 (by decide) (by decide)
  have e3 := h 3 (by decide) (by decide)
  have e4 := h 4 (by decide) (by decide)
  have e5 := h 5 (by decide) (by decide)
  have e6 := h 6 (by decide) (by decide)
  have e7 := h 7 (by decide) (by decide)
  have e8 := h 8 (by decide) (by decide)
  have e9 := h 9 (by decide) (by decide)
  unfold s10
  omega
theorem s10_ge {f : Int → Int} (h : ∀ a, 0 ≤ a → a ≤ 9 → 0 ≤ f a) {a : Int} (ha : 0 ≤ a ∧ a ≤ 9) : f a ≤ s10 f := by
  have := s10_one (f := fun b => if b = a then 0 else f b) (g := f) ha (fun b _ _ hb => (if_neg hb).symm)
  have z := s10_0 (f := fun b => if b = a then 0 else f b) (fun b b0 b1 => by
    show 0 ≤ if b = a then 0 else f b
    split
    · exact Int.le_refl _
    · exact h b b0 b1)
  rw [if_pos rfl] at this
  omega
theorem hcB_0 {J : Int → Int → Int} (h : MR J) (a : Int) : 0 ≤ hcB J a := by
  have := h.k20 a
  unfold hcB
  split <;> omega
theorem ro3_r {J : Int → Int → Int} {E : Nm → Int → Int} {ty : Nm → Nat} {ln : Nm → Int} {R : Nm → Int → Option Nm} {a : Int} (h : RLs J E ty ln R) (ha : hsJ J a) : 0 ≤ ro3 ln R a ∧ ro3 ln R a ≤ 10860 := by
  obtain ⟨L, hL⟩ := h a ha
  have a7 := hL.1.2.2.2.1
  have a9 := hL.2.2.2.2.1.2.2.2.1
  have a8 := hL.2.2.2.2.2.2.2.2.2.2.1.2.2.2.1
  unfold ro3
  omega
theorem hwB_0 {J : Int → Int → Int} {E : Nm → Int → Int} {ty : Nm → Nat} {ln : Nm → Int} {R : Nm → Int → Option Nm} (hR : MR J) (h : RLs J E ty ln R) {a : Int} (ha : 0 ≤ a ∧ a ≤ 9) : 0 ≤ hwB J ln R a := by
  have := hR.k20 a
  unfold hwB
  split
  · rename_i q
    have := ro3_r h ⟨ha, q⟩
    omega
  · omega
theorem bC_s {t : Int} (h : t < 512) : bC (t + 1) + 218 ≤ bC t ∧ (256 ≤ t → bC (t + 1) + 410 ≤ bC t) ∧ 2200 ≤ bC (t + 1) := by
  unfold bC
  split <;> split <;> omega
/-- a call that makes nothing but an exception -/
theorem LV.go {S : Int → Int} {L t : Int} {J J' : Int → Int → Int} {ty : Nm → Nat} {ln : Nm → Int} {I I1 I3 : Nm → Int → Int} {R : Nm → Int → Option Nm} {c w c' w' : Nat} (h : LV S L t J ty ln I R c w) (hJ : JI J') (hN : NH J') (hC : RC J' I ty ln I1 R) (i : ∀ n x, hd n ≠ 2 → hd n ≠ 3 → hd n ≠ 18 → I3 n x = I1 n x) (m : I3 [2] = J' (-1) ∧ ∀ k, k ≠ -1 → I3 [3, k] = J' k) (j : ∀ k x, k = 5 ∨ k = 15 ∨ k = 16 ∨ k = 17 ∨ k = 18 ∨ k = 19 ∨ k = 20 ∨ k = 23 → J' k x = J k x) (b : ∀ a, 0 ≤ a → a ≤ 9 → s10 (fun x => J' 13 (10 * a + x)) ≤ t + 1) (hc : c' = c ∨ c' = c - 1) (hw : w' = w ∨ w' = w - 6) (ht : t < 512) : LV S L (t + 1) J' ty ln I3 R c' w' := by
  obtain ⟨l1, l2, l3, l4, l5, ⟨x1, x2, x3, x4, x5⟩, ⟨f1, f2, f3⟩, l8, ⟨b1, b2, b3⟩⟩ := h
  have ev : ∀ n x, evC n x → I1 n x = I n x := hC.ev
  refine ⟨hJ, hN, hC.ee i, l4.go l3 l1.1.1 (fun n x hn he => ?_) j, l5, ⟨x1, x2, fun x => ?_, m⟩, ⟨fun a q hq => f1 a q (by omega), fun a s u ha hs => ?_, fun a l a0 a1 ha => ?_⟩, l8, b, ?_, ?_⟩
  · rw [i n x (by omega) (by omega) (by omega)]; exact ev n x he
  · rw [i _ _ (by decide) (by decide) (by decide), ev _ _ (Or.inl (by decide))]; exact x3 x
  · rw [j 20 _ (by decide)] at hs
    unfold hsJ at ha
    rw [j 5 _ (by decide)] at ha
    exact f2 a s u ha hs
  · rw [j 5 _ (by decide)] at ha; exact f3 a l a0 a1 ha
  · have e : s10 (hcB J') = s10 (hcB J) := s10_eq (fun a _ _ => by unfold hcB; rw [j 5 _ (by decide), j 20 _ (by decide)])
    have := bC_s ht
    rw [e]
    omega
  · have e : s10 (hwB J' ln R) = s10 (hwB J ln R) := s10_eq (fun a _ _ => by unfold hwB; rw [j 5 _ (by decide), j 20 _ (by decide)])
    rw [e]
    unfold bW at b3 ⊢
    omega
/-- a refused call -/
theorem LV.no {S : Int → Int} {L t v : Int} {J : Int → Int → Int} {ty : Nm → Nat} {ln : Nm → Int} {I : Nm → Int → Int} {R : Nm → Int → Option Nm} {c w : Nat} (h : LV S L t J ty ln I R c w) (ht : t < 512) : LV S L (t + 1) (uJ J (-1) 0 v) ty ln (pJ I (uJ J (-1) 0 v)) R (c - 1) (w - 6) := by
  have e : ∀ k x, k ≠ -1 → uJ J (-1) 0 v k x = J k x := fun k x hk => by rw [uJ_ne hk]
  refine h.go (I1 := I) h.1.rf (h.2.1.same (fun k x hk => e k x (by omega))) (h.2.2.1.eqv (fun k x hk => e k x (by omega)) (fun x hx _ => by rw [uJ_self, upI_ne _ _ hx]) (fun n x k y hl => ?_)) (fun n x h2 h3 _ => by rw [pJ_o h2 h3]) ⟨pJ_m, fun k hk => pJ_a hk⟩ (fun k x hk => e k x (by omega)) (fun a a0 a1 => ?_) (Or.inr rfl) (Or.inr rfl) ht
  · refine e k y (fun z => ?_)
    subst z
    unfold LK at hl
    rcases hl with ⟨a, h1, rfl, h3, h4⟩ | ⟨a, b, h1, rfl, h3, h4, h5, h6⟩ | ⟨a, t, h1, rfl, h3, h4, h5, h6⟩ | ⟨a, s, h1, rfl, h3, h4⟩ | ⟨a, s, b, h1, rfl, h3, h4, h5, h6⟩ | ⟨a, s, j, h1, rfl, h3, h4⟩ | ⟨a, s, j, h1, rfl, h3, h4, h5⟩ | ⟨a, s, j, h1, rfl, h3, h4, h5⟩ <;> omega
  · have := h.2.2.2.2.2.2.2.2.1 a a0 a1
    rw [s10_eq (f := fun x => J 13 (10 * a + x)) (fun b _ _ => e 13 _ (by decide))]
    omega
/-- a call that changes the cells of house a -/
theorem LV.hp {S : Int → Int} {L t a : Int} {J J' : Int → Int → Int} {ty ty' : Nm → Nat} {ln ln' : Nm → Int} {I I1 I3 : Nm → Int → Int} {R R' : Nm → Int → Option Nm} {c w c' w' : Nat} (h : LV S L t J ty ln I R c w) (ha : hsJ J a) (hJ : JI J') (hN : NH J') (hC : RC J' I1 ty' ln' I1 R') (hL : RLs J' I1 ty' ln' R') (i : ∀ n x, hd n ≠ 2 → hd n ≠ 3 → hd n ≠ 18 → I3 n x = I1 n x) (m : I3 [2] = J' (-1) ∧ ∀ k, k ≠ -1 → I3 [3, k] = J' k)
    (tt : ∀ n, ty n ≠ 0 → ty' n = ty n ∧ ln' n = ln n) (t0 : ∀ n, ty n = 0 → ¬ n12 a n → (∀ s t, s < J' 20 a → n ≠ 4 :: a :: 8 :: s :: t) → ty' n = 0) (fi : ∀ n x, fxh n → I1 n x = I n x) (fr : ∀ n x, fxS a n → ty n ≠ 0 → R' n x = R n x) (f9 : FR9 ty' c') (j5 : ∀ x, J' 5 x = J 5 x) (j13 : ∀ x, J' 13 x = J 13 x) (j20 : ∀ x, x ≠ a → J' 20 x = J 20 x) (j20a : J 20 a ≤ J' 20 a) (hc : bC (t + 1) + c ≤ bC t + c' + 41 * (J' 20 a - J 20 a)) (hw : bW (t + 1) + w + 4 * ro3 ln R a ≤ bW t + w' + 4 * ro3 ln' R' a + 706 * (J' 20 a - J 20 a)) : LV S L (t + 1) J' ty' ln' I3 R' c' w' := by
  obtain ⟨l1, l2, l3, l4, l5, ⟨x1, x2, x3, x4, x5⟩, ⟨f1, f2, f3⟩, l8, ⟨b1, b2, b3⟩⟩ := h
  have t18 := tt [18] (by rw [x1.1]; decide)
  have ts := tt [-3] (by rw [x2.1]; decide)
  have tE := tt nE (by rw [l8.1]; decide)
  refine ⟨hJ, hN, hC.ee i, hL.go hC hJ.1.1 (fun n x hn he => i n x (by omega) (by omega) (by omega)) (fun _ _ _ => rfl), ?_, ⟨by rw [t18.1, t18.2]; exact x1, by rw [ts.1, ts.2]; exact x2, fun x => ?_, m⟩, ⟨f9, fun b s u hb hs => ?_, fun b l b0 b1 hb => ?_⟩, ⟨by rw [tE.1]; exact l8.1, by rw [tE.2]; exact l8.2.1, fun j => ?_⟩, fun b b0 b1' => ?_, ?_, ?_⟩
  · have t2 := tt [2] (by rw [l5.1]; decide)
    refine ⟨t2.1.trans l5.1, fun k k1 k2 k3 k4 => ?_⟩
    obtain ⟨m1, m2, m3⟩ := l5.2 k k1 k2 k3 k4
    have mk : mK k ≠ 0 := by
      unfold mK
      split <;> (try split) <;> decide
    have t3 := tt [3, k] (by rw [m2]; exact mk)
    rw [fr [2] k (Or.inl (Or.inl (Or.inl rfl))) (by rw [l5.1]; decide), t3.1, t3.2]
    exact ⟨m1, m2, m3⟩
  · rw [i _ _ (by decide) (by decide) (by decide), fi _ _ (by decide)]; exact x3 x
  · have hb' : hsJ J b := by unfold hsJ at hb ⊢; rw [j5] at hb; exact hb
    by_cases q : b = a
    · subst q
      refine t0 _ (f2 b s u hb' (by omega)) (fun ⟨q, e⟩ => by simp at e) (fun s' u' hs' e => ?_)
      simp at e
      omega
    · rw [j20 b q] at hs
      exact t0 _ (f2 b s u hb' hs) (fun ⟨q, e⟩ => by simp at e) (fun s' u' _ e => by simp at e; exact q e.1)
  · rw [j5] at hb
    have q : b ≠ a := fun q => hb (by rw [q]; exact ha.2)
    exact t0 _ (f3 b l b0 b1 hb) (fun ⟨q, e⟩ => by simp at e) (fun s' u' _ e => by simp at e; exact q e.1)
  · rw [fr nE j (Or.inl (Or.inr rfl)) (by rw [l8.1]; decide)]; exact l8.2.2 j
  · have := b1 b b0 b1'
    rw [s10_eq (f := fun x => J 13 (10 * b + x)) (fun x _ _ => j13 _)]
    omega
  · have e := s10_one (f := hcB J) (g := hcB J') ha.1 (fun b _ _ hb => by unfold hcB; rw [j5, j20 b hb])
    have e1 : hcB J a = 41 * (40 - J 20 a) := if_pos ha.2
    have e2 : hcB J' a = 41 * (40 - J' 20 a) := if_pos (by rw [j5]; exact ha.2)
    omega
  · have e := s10_one (f := hwB J ln R) (g := hwB J' ln' R') ha.1 (fun b b0 b1' hb => by
      unfold hwB
      rw [j5, j20 b hb]
      by_cases q : 0 < J 5 b
      · rw [if_pos q, if_pos q]
        obtain ⟨Lb, hLb⟩ := l4 b ⟨⟨b0, b1'⟩, q⟩
        have z7 := hLb.1
        have z9 := hLb.2.2.2.2.1
        have z8 := hLb.2.2.2.2.2.2.2.2.2.2.1
        have g : ∀ k n, LQ ty ln I R [4, b, k] (la R b k) n → ln' (la R' b k) = ln (la R b k) := fun k n z => by
          have : la R' b k = la R b k := by unfold la; rw [fr _ _ (Or.inr ⟨b, [k], hb, rfl⟩) (by rw [z.1.1]; decide)]
          rw [this]
          exact (tt _ (rw12_ty (a := b) z)).2
        unfold ro3
        rw [g 7 _ z7, g 8 _ z8, g 9 _ z9]
      · rw [if_neg q, if_neg q])
    have e1 : hwB J ln R a = 706 * (40 - J 20 a) + 4 * (10860 - ro3 ln R a) := if_pos ha.2
    have e2 : hwB J' ln' R' a = 706 * (40 - J' 20 a) + 4 * (10860 - ro3 ln' R' a) := if_pos (by rw [j5]; exact ha.2)
    omega
