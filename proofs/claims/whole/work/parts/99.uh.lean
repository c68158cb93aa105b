/-! ===== the law's roads where the house is there: common rows ===== -/
def NX (d : Nat) (K : Kt) (X : Xt) (S : Int → Int) (L t i : Int) : Prop := ∀ (J : Int → Int → Int) (ty : Nm → Nat) (ln : Nm → Int) (I : Nm → Int → Int) (R : Nm → Int → Option Nm) (c w : Nat) (u5 u6 : Vl), isLg u5 = false → isLg u6 = false → LV S L (t + 1) J ty ln I R c w → Rn (d + 11) M_La_law K X 1680 [vR (some [-3]), vR (some [1]), vR (some [2]), vR (some [18]), vI i, u5, u6] [] (ty, ln, I, R, c, w)
abbrev HI (t i L : Int) : Prop := (0 ≤ t ∧ t < 512) ∧ i = 6 * t ∧ i + 6 ≤ L ∧ L ≤ 3072
theorem LV.cw {S : Int → Int} {L t : Int} {J : Int → Int → Int} {ty : Nm → Nat} {ln : Nm → Int} {I : Nm → Int → Int} {R : Nm → Int → Option Nm} {c w : Nat} (h : LV S L t J ty ln I R c w) (hi : 0 ≤ t ∧ t < 512) : 1 ≤ c ∧ 6 ≤ w := by
  obtain ⟨l1, l2, l3, l4, l5, l6, l7, l8, ⟨b1, b2, b3⟩⟩ := h
  have z1 := s10_0 (f := hcB J) (fun a _ _ => hcB_0 l1.1.1 a)
  have z2 := s10_0 (f := hwB J ln R) (fun a a0 a1 => hwB_0 l1.1.1 l4 ⟨a0, a1⟩)
  have z3 := bC_s hi.2
  unfold bW at b3
  omega
theorem LV.j1 {S : Int → Int} {L t : Int} {J : Int → Int → Int} {ty : Nm → Nat} {ln : Nm → Int} {I : Nm → Int → Int} {R : Nm → Int → Option Nm} {c w : Nat} (h : LV S L t J ty ln I R c w) : RC (uJ J (-1) 0 0) I ty ln I R := by
  have e : ∀ k x, k ≠ -1 → uJ J (-1) 0 0 k x = J k x := fun k x hk => by rw [uJ_ne hk]
  refine h.2.2.1.eqv (fun k x hk => e k x (by omega)) (fun x hx _ => by rw [uJ_self, upI_ne _ _ hx]) (fun n x k y hl => e k y (fun z => ?_))
  subst z
  unfold LK at hl
  rcases hl with ⟨a, h1, rfl, h3, h4⟩ | ⟨a, b, h1, rfl, h3, h4, h5, h6⟩ | ⟨a, t, h1, rfl, h3, h4, h5, h6⟩ | ⟨a, s, h1, rfl, h3, h4⟩ | ⟨a, s, b, h1, rfl, h3, h4, h5, h6⟩ | ⟨a, s, j, h1, rfl, h3, h4⟩ | ⟨a, s, j, h1, rfl, h3, h4, h5⟩ | ⟨a, s, j, h1, rfl, h3, h4, h5⟩ <;> omega
theorem LV.r1 {S : Int → Int} {L t : Int} {J : Int → Int → Int} {ty : Nm → Nat} {ln : Nm → Int} {I : Nm → Int → Int} {R : Nm → Int → Option Nm} {c w : Nat} (h : LV S L t J ty ln I R c w) : RLs (uJ J (-1) 0 0) I ty ln R :=
  h.2.2.2.1.go h.2.2.1 h.1.1.1 (fun _ _ _ _ => rfl) (fun k x hk => by rw [uJ_ne (by omega)])
theorem ipJ {I : Nm → Int → Int} {J : Int → Int → Int} {y : Int} : ∀ n x, hd n ≠ 2 → hd n ≠ 3 → hd n ≠ 18 → pJ (up2 I [18] 0 y) J n x = I n x := fun n x h2 h3 h18 => by rw [pJ_o h2 h3, up2_ne (fun z => h18 (by rw [z]; rfl))]
theorem pJ_e {J : Int → Int → Int} {I I1 : Nm → Int → Int} {y : Int} (x4 : I [2] = J (-1)) (x5 : ∀ k, k ≠ -1 → I [3, k] = J k) (ev : ∀ n x, evC n x → I1 n x = I n x) : up2 I1 [18] 0 y = pJ (up2 I1 [18] 0 y) J := by
  refine pJ_of ?_ (fun k hk => ?_)
  · rw [up2_ne (by decide), ← x4]
    funext x
    exact ev _ _ (Or.inl (by decide))
  · rw [up2_ne (by simp), ← x5 k hk]
    funext x
    exact ev _ _ (Or.inl (Or.inr (Or.inl rfl)))
theorem yS {I I1 : Nm → Int → Int} {x y a : Int} (ev : ∀ n x, evC n x → I1 n x = I n x) (h : I [-3] x = a) : up2 I1 [18] 0 y [-3] x = a := by
  rw [up2_ne (by decide), ev _ _ (Or.inl (by decide))]; exact h
theorem LV.b13 {S : Int → Int} {L t : Int} {J : Int → Int → Int} {ty : Nm → Nat} {ln : Nm → Int} {I : Nm → Int → Int} {R : Nm → Int → Option Nm} {c w : Nat} {J' : Int → Int → Int} (h : LV S L t J ty ln I R c w) (e : ∀ x, J' 13 x = J 13 x) : ∀ a, 0 ≤ a → a ≤ 9 → s10 (fun x => J' 13 (10 * a + x)) ≤ t + 1 := fun a a0 a1 => by
  have := h.2.2.2.2.2.2.2.2.1 a a0 a1
  rw [s10_eq (f := fun x => J 13 (10 * a + x)) (fun b _ _ => e _)]
  omega
theorem LV.b13u {S : Int → Int} {L t : Int} {J : Int → Int → Int} {ty : Nm → Nat} {ln : Nm → Int} {I : Nm → Int → Int} {R : Nm → Int → Option Nm} {c w : Nat} {J' : Int → Int → Int} {a u : Int} (h : LV S L t J ty ln I R c w) (hu : 0 ≤ u ∧ u ≤ 9) (e : ∀ x, x ≠ 10 * a + u → J' 13 x = J 13 x) (e' : J' 13 (10 * a + u) ≤ J 13 (10 * a + u) + 1) : ∀ a, 0 ≤ a → a ≤ 9 → s10 (fun x => J' 13 (10 * a + x)) ≤ t + 1 := fun b b0 b1 => by
  have := h.2.2.2.2.2.2.2.2.1 b b0 b1
  by_cases q : b = a
  · subst q
    have z := s10_one (f := fun x => J 13 (10 * b + x)) (g := fun x => J' 13 (10 * b + x)) hu (fun x _ _ hx => e _ (by omega))
    omega
  · rw [s10_eq (f := fun x => J 13 (10 * b + x)) (fun x x0 x1 => e _ (by omega))]
    omega
theorem LV.ok {S : Int → Int} {L t : Int} {J : Int → Int → Int} {ty : Nm → Nat} {ln : Nm → Int} {I : Nm → Int → Int} {R : Nm → Int → Option Nm} {c w : Nat} {J' : Int → Int → Int} {I1 : Nm → Int → Int} {y : Int} (h : LV S L t J ty ln I R c w) (hJ : JI J') (hN : NH J') (hC : RC J' I ty ln I1 R) (j : ∀ k x, k = 5 ∨ k = 15 ∨ k = 16 ∨ k = 17 ∨ k = 18 ∨ k = 19 ∨ k = 20 ∨ k = 23 → J' k x = J k x) (b : ∀ a, 0 ≤ a → a ≤ 9 → s10 (fun x => J' 13 (10 * a + x)) ≤ t + 1) (ht : t < 512) : LV S L (t + 1) J' ty ln (pJ (up2 I1 [18] 0 y) J') R c w :=
  h.go hJ hN hC ipJ ⟨pJ_m, fun k hk => pJ_a hk⟩ j b (Or.inl rfl) (Or.inl rfl) ht
theorem KW.u {J : Int → Int → Int} {a k y v : Int} (h : k ≠ 5 ∧ (k = 7 ∨ k = 8 ∨ k = 15 → y = a) ∧ (k = 9 ∨ k = 11 ∨ k = 12 → 10 * a ≤ y ∧ y < 10 * a + 10) ∧ (k = 16 → 6 * a ≤ y ∧ y < 6 * a + 6)) : KW J (uJ J k y v) a := by
  have q : ∀ k' x, (k' = k → x ≠ y) → uJ J k y v k' x = J k' x := fun k' x hx => by
    by_cases z : k' = k
    · rw [z, uJ_self, upI_ne _ _ (hx z)]
    · rw [uJ_ne z]
  exact ⟨fun x => q 5 x (fun z => absurd z.symm h.1), fun k' x hk hx => q k' x (fun z z' => hx (by rw [z']; exact h.2.1 (by omega))), fun k' x hk hx => q k' x (fun z z' => hx (by rw [z']; exact h.2.2.1 (by omega))), fun x hx => q 16 x (fun z z' => hx (by rw [z']; exact h.2.2.2 z.symm))⟩
theorem hmJ_b {J : Int → Int → Int} {k o s b x : Int} {n : Nat} : ∀ q : Nat, (hmJ J k o s b x n q).1 = 0 ∨ (hmJ J k o s b x n q).1 = 1
  | 0 => Or.inl rfl
  | q + 1 => by
    unfold hmJ
    split
    · exact Or.inr rfl
    · exact hmJ_b q
theorem HLL.rs {J : Int → Int → Int} {E : Nm → Int → Int} {ty : Nm → Nat} {ln : Nm → Int} {R : Nm → Int → Option Nm} {a n : Int} {L : List Ck} (hL : HLL J E ty ln R a L) (hR : MR J) (a0 : 0 ≤ a) : 0 ≤ slotJ J a n → ∀ t : Nat, t < 10 → lnS J (500 * slotJ J a n + alJ J (slotJ J a n) t) (J 17 (10 * slotJ J a n + t)).toNat ≤ 200 ∧ ∀ i : Int, 0 ≤ i → i < J 17 (10 * slotJ J a n + t) → J 18 (500 * slotJ J a n + alJ J (slotJ J a n) t + i) % 60 + J 19 (500 * slotJ J a n + alJ J (slotJ J a n) t + i) ≤ 60 := by
  intro hs t ht
  obtain ⟨m0, k, hk, ek, e16⟩ := slot_k a0 hs
  rw [ek]
  obtain ⟨n1, n2, n3⟩ := hL.2.2.2.2.2.2.2.2.2.1
  have h4 := hL.2.2.2.1
  refine ⟨n3 k t hk ht (by omega), fun i i0 i1 => ?_⟩
  have al0 := alJ_0 (J := J) (sl := 6 * a + k) t
  have als : alJ J (6 * a + k) (t + 1) = alJ J (6 * a + k) t + J 17 (10 * (6 * a + k) + t) := by
    show alJ J (6 * a + k) t + _ = _
    rw [if_neg (by omega)]
  have al10 := alJ_m (J := J) (sl := 6 * a + k) (n := t + 1) 10 (by omega)
  obtain ⟨e, he, p1, p2⟩ := h4.2.2.1 k (alJ J (6 * a + k) t + i).toNat ⟨hk, Or.inl (by omega), by omega⟩
  rw [show 500 * (6 * a + (k : Int)) + (((alJ J (6 * a + k) t + i).toNat : Nat) : Int) = 500 * (6 * a + k) + alJ J (6 * a + k) t + i by omega] at p1 p2
  rw [← p1, ← p2]
  exact (h4.2.1 e he).2.2.2
