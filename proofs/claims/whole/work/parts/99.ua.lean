/-! ===== what is always true of the reference's words ===== -/
/-- pieces' words change only in segments lo to hi - 1 -/
def TC (lo hi : Int) (J J' : Int → Int → Int) : Prop := (∀ k x, (k = 25 ∨ k = 26 ∨ k = 28) → (x < 12 * lo ∨ 12 * hi ≤ x) → J' k x = J k x) ∧ (∀ x, (x < 360 * lo ∨ 360 * hi ≤ x) → J' 27 x = J 27 x) ∧ (∀ x, (x < 96 * lo ∨ 96 * hi ≤ x) → J' 29 x = J 29 x)
theorem TC.none {lo hi : Int} {J J' : Int → Int → Int} (h : ∀ k x, k = 25 ∨ k = 26 ∨ k = 27 ∨ k = 28 ∨ k = 29 → J' k x = J k x) : TC lo hi J J' := ⟨fun k x hk _ => h k x (by omega), fun x _ => h 27 x (by decide), fun x _ => h 29 x (by decide)⟩
theorem TC.trans {lo hi : Int} {J J' J2 : Int → Int → Int} (h : TC lo hi J J') (g : TC lo hi J' J2) : TC lo hi J J2 := ⟨fun k x hk hx => (g.1 k x hk hx).trans (h.1 k x hk hx), fun x hx => (g.2.1 x hx).trans (h.2.1 x hx), fun x hx => (g.2.2 x hx).trans (h.2.2 x hx)⟩
theorem TC.mono {lo hi lo' hi' : Int} {J J' : Int → Int → Int} (h : TC lo hi J J') (h1 : lo' ≤ lo) (h2 : hi ≤ hi') : TC lo' hi' J J' := ⟨fun k x hk hx => h.1 k x hk (by omega), fun x hx => h.2.1 x (by omega), fun x hx => h.2.2 x (by omega)⟩
theorem TC.un {J J' : Int → Int → Int} {a b s n : Int} (h : TC (40 * a) (40 * a + n) J J') (ha : 0 ≤ a ∧ a ≤ 9) (hn : 0 ≤ n ∧ n ≤ 40) (hb : 0 ≤ b ∧ b ≤ 9) (hs : 0 ≤ s ∧ s < 40) (hz : b ≠ a ∨ n ≤ s) (u : UNs J b s) : UNs J' b s := fun j j0 j1 => by
  obtain ⟨u1, u2, u3, u4, u5⟩ := u j j0 j1
  exact ⟨by rw [h.1 25 _ (by decide) (by omega)]; exact u1, by rw [h.1 26 _ (by decide) (by omega)]; exact u2, by rw [h.1 28 _ (by decide) (by omega)]; exact u3, fun x x0 x1 => by rw [h.2.1 _ (by omega)]; exact u4 x x0 x1, fun x x0 x1 => by rw [h.2.2 _ (by omega)]; exact u5 x x0 x1⟩
theorem loseJ_26 {J : Int → Int → Int} {a p x : Int} (h : x ≠ p) : loseJ J a p 26 x = J 26 x := by
  unfold loseJ
  split
  · rw [uJ_ne (by decide), uJ_self, upI_ne _ _ h]
  · rfl
theorem TC.lo {J : Int → Int → Int} {a S j : Int} (hj : 0 ≤ j ∧ j < 12) : TC S (S + 1) J (loseJ J a (12 * S + j)) := ⟨fun k x hk hx => by
    rcases hk with rfl | rfl | rfl
    · exact loseJ_o (by decide)
    · exact loseJ_26 (by omega)
    · exact loseJ_o (by decide), fun x _ => loseJ_o (by decide), fun x _ => loseJ_o (by decide)⟩
theorem TC.u1 {J : Int → Int → Int} {S j k v : Int} (hj : 0 ≤ j ∧ j < 12) (hk : k = 25 ∨ k = 26 ∨ k = 28) : TC S (S + 1) J (uJ J k (12 * S + j) v) := ⟨fun q x hq hx => by
    by_cases e : q = k
    · rw [e, uJ_self, upI_ne _ _ (by omega)]
    · rw [uJ_ne e], fun x _ => by rw [uJ_ne (by omega)], fun x _ => by rw [uJ_ne (by omega)]⟩
theorem TC.pl {J : Int → Int → Int} {a S j : Int} (hS : SC J) (hj : 0 ≤ j ∧ j < 12) : TC S (S + 1) J (plJ J a S j) := by
  have lk := lK hS.1
  unfold plJ
  split
  · exact TC.none (fun _ _ _ => rfl)
  · obtain ⟨p25, p26, po⟩ := putP_25 (J := J) (a := a) (s := S) (j := j) (b := bestJ J a S 10)
    refine ⟨fun k x hk hx => ?_, fun x hx => ?_, fun x hx => ?_⟩
    · rcases hk with rfl | rfl | rfl
      · rw [p25, upI_ne _ _ (by omega)]
      · rw [p26, upI_ne _ _ (by omega)]
      · unfold putP
        rw [uJ_ne (by decide), uJ_ne (by decide), uJ_ne (by decide), uJ_ne (by decide), uJ_self, upI_ne _ _ (by omega), wJ_ne (by decide), wJ_ne (by decide), mpJ_o (by decide)]
    · unfold putP
      rw [uJ_ne (by decide), uJ_ne (by decide), uJ_ne (by decide), uJ_ne (by decide), uJ_ne (by decide), wJ_ne (by decide), wJ_out (by omega), mpJ_o (by decide)]
    · unfold putP
      rw [uJ_ne (by decide), uJ_ne (by decide), uJ_ne (by decide), uJ_ne (by decide), uJ_ne (by decide), wJ_out (by omega), wJ_ne (by decide), mpJ_o (by decide)]
theorem TC.pA {J : Int → Int → Int} {a S : Int} (h : MR J) (hS : SC J) : ∀ n : Nat, n ≤ 12 → TC S (S + 1) J (plA J a S n).2
  | 0, _ => TC.none (fun _ _ _ => rfl)
  | n + 1, hn => by
    have ih := TC.pA (a := a) (S := S) h hS n (by omega)
    have sc := hS.m (plA_i (a := a) (s := S) h hS n).2.1
    by_cases q : (plA J a S n).2 25 (12 * S + n) < 0
    · rw [show plA J a S (n + 1) = ((plA J a S n).1 + (if bestJ (plA J a S n).2 a S 10 < 0 then 0 else 1), plJ (plA J a S n).2 a S n) from if_pos q]
      exact ih.trans (TC.pl sc (by omega))
    · rw [show plA J a S (n + 1) = plA J a S n from if_neg q]; exact ih
theorem TC.pu {J : Int → Int → Int} {a : Int} (h : MR J) (hS : SC J) : ∀ n : Nat, TC (40 * a) (40 * a + n) J (puA J a n).2
  | 0 => TC.none (fun _ _ _ => rfl)
  | n + 1 => by
    have ih := (TC.pu (a := a) h hS n).mono (lo' := 40 * a) (hi' := 40 * a + ((n + 1 : Nat) : Int)) (Int.le_refl _) (by omega)
    obtain ⟨i1, i2, i3, i4⟩ := puA_i (a := a) h hS n
    have hN := hS.2.1
    by_cases q : (puA J a n).2 22 (40 * a + n) = 0
    · rw [show puA J a (n + 1) = puA J a n from if_pos q]; exact ih
    · rw [show puA J a (n + 1) = ((puA J a n).1 + (plA (puA J a n).2 a (40 * a + n) (J (-1) 3).toNat).1, (plA (puA J a n).2 a (40 * a + n) (J (-1) 3).toNat).2) from if_neg q]
      exact ih.trans ((TC.pA i1 (hS.m i2) _ (by omega)).mono (by omega) (by omega))
theorem TC.au {J : Int → Int → Int} {a S j : Int} (hj : 0 ≤ j ∧ j < 12) : TC S (S + 1) J (auP J a S j).2 := by
  have hm : TC S (S + 1) J (mpJ J 24 S j) := TC.none (fun k x hk => mpJ_o (by omega))
  unfold auP
  split
  · split
    · exact (TC.lo hj).trans (TC.u1 hj (by decide))
    · split
      · exact hm
      · exact hm.trans ((TC.lo hj).trans (TC.u1 hj (by decide)))
  · exact TC.none (fun _ _ _ => rfl)
theorem TC.aA {J : Int → Int → Int} {a S : Int} : ∀ n : Nat, n ≤ 12 → TC S (S + 1) J (auA J a S n).2
  | 0, _ => TC.none (fun _ _ _ => rfl)
  | n + 1, hn => (TC.aA n (by omega)).trans (TC.au (by omega))
theorem TC.aB {J : Int → Int → Int} {a : Int} (hN : J (-1) 3 ≤ 12) : ∀ n : Nat, TC (40 * a) (40 * a + n) J (auB J a n).2
  | 0 => TC.none (fun _ _ _ => rfl)
  | n + 1 => by
    have ih := (TC.aB (a := a) hN n).mono (lo' := 40 * a) (hi' := 40 * a + ((n + 1 : Nat) : Int)) (Int.le_refl _) (by omega)
    by_cases q : J 22 (40 * a + n) = 0
    · rw [show auB J a (n + 1) = auB J a n from if_pos q]; exact ih
    · rw [show auB J a (n + 1) = ((auB J a n).1 + (auA (auB J a n).2 a (40 * a + n) (J (-1) 3).toNat).1, (auA (auB J a n).2 a (40 * a + n) (J (-1) 3).toNat).2) from if_neg q]
      exact ih.trans ((TC.aA _ (by omega)).mono (by omega) (by omega))
theorem TC.unA {J : Int → Int → Int} {S : Int} : ∀ n : Nat, n ≤ 12 → TC S (S + 1) J (unJ J S n)
  | 0, _ => TC.none (fun _ _ _ => rfl)
  | n + 1, hn => by
    have ih := TC.unA (J := J) (S := S) n (by omega)
    by_cases q : 0 ≤ unJ J S n 25 (12 * S + n) ∧ unJ J S n 6 (unJ J S n 25 (12 * S + n)) ≠ 0 ∧ unJ J S n 26 (12 * S + n) = 0
    · rw [show unJ J S (n + 1) = uJ (unJ J S n) 25 (12 * S + n) (-1) from if_pos q]
      exact ih.trans (TC.u1 (by omega) (by decide))
    · rw [show unJ J S (n + 1) = unJ J S n from if_neg q]; exact ih
theorem TC.ro {J : Int → Int → Int} {a s : Int} (h : GI J) (ha : 0 ≤ a ∧ a ≤ 9) (hs : 40 * a ≤ s ∧ s < 40 * a + 40) : TC s (s + 1) J (roJ J a s).2 := by
  have hN := h.2.1.2.1
  have hr : TC s (s + 1) J (reJ J s) := TC.none (fun k x hk => reJ_o (by omega))
  unfold roJ
  split
  · exact hr
  · obtain ⟨u1, u2, u3⟩ := unJ_i (a := a) (s := s) (h.re (s := s)) ha hs (J (-1) 3).toNat (by omega)
    exact hr.trans ((TC.unA _ (by omega)).trans (TC.pA u1.1 u1.2.1 _ (by omega)))
theorem TC.rp {J : Int → Int → Int} {a : Int} (h : GI J) (ha : 0 ≤ a ∧ a ≤ 9) : ∀ n : Nat, n ≤ 40 → TC (40 * a) (40 * a + n) J (rpA J a n).2
  | 0, _ => TC.none (fun _ _ _ => rfl)
  | n + 1, hn => by
    have ih := (TC.rp (a := a) h ha n (by omega)).mono (lo' := 40 * a) (hi' := 40 * a + ((n + 1 : Nat) : Int)) (Int.le_refl _) (by omega)
    have i1 := (rpA_i h ha n (by omega)).1
    by_cases q : J 21 (40 * a + n) = 0
    · rw [show rpA J a (n + 1) = ((rpA J a n).1 + (roJ (rpA J a n).2 a (40 * a + n)).1, (roJ (rpA J a n).2 a (40 * a + n)).2) from if_pos q]
      exact ih.trans ((TC.ro i1 ha (by omega)).mono (by omega) (by omega))
    · rw [show rpA J a (n + 1) = rpA J a n from if_neg q]; exact ih
theorem TC.fr {J : Int → Int → Int} {a s : Int} : ∀ n : Nat, n ≤ 12 → TC s (s + 1) J (frP J a s n)
  | 0, _ => TC.none (fun k x hk => by show uJ (uJ J 21 s 1) 22 s 0 k x = _; rw [uJ_ne (by omega), uJ_ne (by omega)])
  | n + 1, hn => (TC.fr n (by omega)).trans ((TC.lo (by omega)).trans (TC.u1 (by omega) (by decide)))
theorem TC.fo {J : Int → Int → Int} {a : Int} : ∀ n : Nat, TC (40 * a) (40 * a + n) J (foA J a n).2
  | 0 => TC.none (fun _ _ _ => rfl)
  | n + 1 => by
    have ih := (TC.fo (J := J) (a := a) n).mono (lo' := 40 * a) (hi' := 40 * a + ((n + 1 : Nat) : Int)) (Int.le_refl _) (by omega)
    by_cases q : (foA J a n).2 21 (40 * a + n) ≠ 0 ∨ usJ (foA J a n).2 a (40 * a + n) 6 ≠ 0
    · rw [show foA J a (n + 1) = foA J a n from if_pos q]; exact ih
    · rw [show foA J a (n + 1) = ((foA J a n).1 + 1, frP (foA J a n).2 a (40 * a + n) 12) from if_neg q]
      exact ih.trans ((TC.fr 12 (Nat.le_refl _)).mono (by omega) (by omega))
theorem TC.hm {J : Int → Int → Int} {k o s b x : Int} {n : Nat} (hn : n ≤ 12) (hb : 0 ≤ b ∧ b < 30) : ∀ q : Nat, q ≤ n → TC s (s + 1) J (hmJ J k o s b x n q).2
  | 0, _ => TC.none (fun _ _ _ => rfl)
  | q + 1, hq => by
    by_cases c : J 25 (12 * s + ((n : Int) - (q + 1))) = k ∧ J 26 (12 * s + ((n : Int) - (q + 1))) ≠ 0
    · rw [show hmJ J k o s b x n (q + 1) = (1, if x = 0 then loseJ J o (12 * s + ((n : Int) - (q + 1))) else uJ J 27 (30 * (12 * s + ((n : Int) - (q + 1))) + b) (xorZ (J 27 (30 * (12 * s + ((n : Int) - (q + 1))) + b)) x)) from if_pos c]
      show TC s (s + 1) J (if x = 0 then _ else _)
      split
      · exact TC.lo (by omega)
      · exact ⟨fun k' x' hk _ => by rw [uJ_ne (by omega)], fun x' hx => by rw [uJ_self, upI_ne _ _ (by omega)], fun x' _ => by rw [uJ_ne (by decide)]⟩
    · rw [show hmJ J k o s b x n (q + 1) = hmJ J k o s b x n q from if_neg c]
      exact TC.hm hn hb q (by omega)
theorem hmJ_gi {J : Int → Int → Int} {k o s b x : Int} {n : Nat} (h : GI J) (ho : 0 ≤ o ∧ o ≤ 9) (hs : 40 * o ≤ s ∧ s < 40 * o + 40) (hn : n ≤ 12) (hx : 0 ≤ x ∧ x ≤ 255) : ∀ q : Nat, q ≤ n → GI (hmJ J k o s b x n q).2 ∧ (∀ m y, m ≠ 26 → m ≠ 10 → m ≠ 27 → (hmJ J k o s b x n q).2 m y = J m y)
  | 0, _ => ⟨h, fun _ _ _ _ _ => rfl⟩
  | q + 1, hq => by
    by_cases c : J 25 (12 * s + ((n : Int) - (q + 1))) = k ∧ J 26 (12 * s + ((n : Int) - (q + 1))) ≠ 0
    · rw [show hmJ J k o s b x n (q + 1) = (1, if x = 0 then loseJ J o (12 * s + ((n : Int) - (q + 1))) else uJ J 27 (30 * (12 * s + ((n : Int) - (q + 1))) + b) (xorZ (J 27 (30 * (12 * s + ((n : Int) - (q + 1))) + b)) x)) from if_pos c]
      show GI (if x = 0 then _ else _) ∧ _
      by_cases z : x = 0
      · rw [if_pos z]
        exact ⟨(loseJ_g h ho (by omega)).1, fun m y m1 m2 _ => loseJ_o ⟨m1, m2⟩⟩
      · rw [if_neg z]
        have b27 := h.1.k27 (30 * (12 * s + ((n : Int) - (q + 1))) + b)
        have xr := xorZ_r (a := J 27 (30 * (12 * s + ((n : Int) - (q + 1))) + b)) (b := x) (by omega) (by omega)
        exact ⟨h.u (Or.inr ⟨xr.1, by show _ ≤ (255 : Int); omega⟩) (Or.inl (by decide)) (by decide), fun m y _ _ m3 => congrFun (uJ_ne m3) y⟩
    · rw [show hmJ J k o s b x n (q + 1) = hmJ J k o s b x n q from if_neg c]
      exact hmJ_gi h ho hs hn hx q (by omega)
/-- what is always true -/
abbrev JI (J : Int → Int → Int) : Prop := GI J ∧ VI J ∧ PL J ∧ (∀ a s, 0 ≤ a → a ≤ 9 → J 20 a ≤ s → s < 40 → UNs J a s) ∧ (∀ j, J 11 j ≤ 100 * J (-1) 1)
theorem JI.of {J J' : Int → Int → Int} {a n : Int} (h : JI J) (g : GI J') (v : VI J') (e : ∀ k x, k = 11 ∨ k = 18 ∨ k = 19 ∨ k = 20 → J' k x = J k x) (em : J' (-1) 1 = J (-1) 1) (t : TC (40 * a) (40 * a + n) J J') (ha : 0 ≤ a ∧ a ≤ 9) (hn : 0 ≤ n ∧ n ≤ J 20 a) : JI J' := by
  obtain ⟨h1, h2, h3, h4, h5⟩ := h
  have k20 := h1.1.k20 a
  refine ⟨g, v, fun c => by rw [e 18 _ (by decide), e 19 _ (by decide)]; exact h3 c, fun b s b0 b1 s0 s1 => ?_, fun j => by rw [e 11 _ (by decide), em]; exact h5 j⟩
  rw [e 20 _ (by decide)] at s0
  have k20b := h1.1.k20 b
  refine t.un ha (by omega) ⟨b0, b1⟩ ⟨by omega, s1⟩ ?_ (h4 b s b0 b1 s0 s1)
  by_cases z : b = a
  · subst z; right; omega
  · exact Or.inl z
theorem JI.same {J J' : Int → Int → Int} (h : JI J) (g : GI J') (v : VI J') (e : ∀ k x, k = 11 ∨ k = 18 ∨ k = 19 ∨ k = 20 ∨ k = 25 ∨ k = 26 ∨ k = 27 ∨ k = 28 ∨ k = 29 → J' k x = J k x) (em : J' (-1) 1 = J (-1) 1) : JI J' := by
  have k20 := h.1.1.k20 0
  exact h.of (a := 0) (n := 0) g v (fun k x hk => e k x (by omega)) em (TC.none (fun k x hk => e k x (by omega))) (by decide) (by omega)
theorem JI.rf {J : Int → Int → Int} {v : Int} (h : JI J) : JI (uJ J (-1) 0 v) :=
  h.same (h.1.u (Or.inl rfl) (Or.inr (Or.inl rfl)) (by decide)) (h.2.1.lost (fun k x hk => by rw [uJ_ne (by omega)]) (fun x hx => by rw [uJ_self, upI_ne _ _ (by omega)]) (fun p _ _ => Or.inl ⟨by rw [uJ_ne (by decide)], by rw [uJ_ne (by decide)]⟩)) (fun k x hk => by rw [uJ_ne (by omega)]) (by rw [uJ_self, upI_ne _ _ (by decide)])
theorem JI.pu {J : Int → Int → Int} {a : Int} (h : JI J) (ha : 0 ≤ a ∧ a ≤ 9) : JI (puA J a (J 20 a).toNat).2 := by
  have k20 := h.1.1.k20 a
  obtain ⟨g, v, e⟩ := puA_v h.1 h.2.1 ha (J 20 a).toNat (by omega) (by omega)
  have t := TC.pu (a := a) h.1.1 h.1.2.1 (J 20 a).toNat
  exact h.of (n := ((J 20 a).toNat : Int)) g v (fun k x hk => e k x (by omega) (by omega) (by omega) (by omega) (by omega) (by omega) (by omega) (by omega)) (e _ _ (by decide) (by decide) (by decide) (by decide) (by decide) (by decide) (by decide) (by decide)) t ha (by omega)
theorem JI.aB {J : Int → Int → Int} {a : Int} (h : JI J) (ha : 0 ≤ a ∧ a ≤ 9) : JI (auB J a (J 20 a).toNat).2 := by
  have k20 := h.1.1.k20 a
  obtain ⟨g, gm, e, _, _⟩ := auB_i h.1 ha (J 20 a).toNat (by omega)
  exact h.of (n := ((J 20 a).toNat : Int)) g (auB_v h.2.1 _) (fun k x hk => e k x (by omega) (by omega) (by omega) (by omega)) (by rw [gm]) (TC.aB h.1.2.1.2.1.2 _) ha (by omega)
theorem roJ_11 {J : Int → Int → Int} {a s k x : Int} (h : GI J) (ha : 0 ≤ a ∧ a ≤ 9) (hs : 40 * a ≤ s ∧ s < 40 * a + 40) (hk : k = 11 ∨ k = 18 ∨ k = 19 ∨ k = 20 ∨ k = 13) : (roJ J a s).2 k x = J k x := by
  have hN := h.2.1.2.1
  unfold roJ
  split
  · exact reJ_o (by omega)
  · obtain ⟨u1, u2, u3⟩ := unJ_i (a := a) (s := s) (h.re (s := s)) ha hs (J (-1) 3).toNat (by omega)
    rw [plA_o (by omega), u3 k x (by omega), reJ_o (by omega)]
theorem rpA_11 {J : Int → Int → Int} {a k x : Int} (h : GI J) (ha : 0 ≤ a ∧ a ≤ 9) (hk : k = 11 ∨ k = 18 ∨ k = 19 ∨ k = 20 ∨ k = 13) : ∀ n : Nat, n ≤ 40 → (rpA J a n).2 k x = J k x
  | 0, _ => rfl
  | n + 1, hn => by
    have ih := rpA_11 (x := x) h ha hk n (by omega)
    have i1 := (rpA_i h ha n (by omega)).1
    by_cases q : J 21 (40 * a + n) = 0
    · rw [show rpA J a (n + 1) = ((rpA J a n).1 + (roJ (rpA J a n).2 a (40 * a + n)).1, (roJ (rpA J a n).2 a (40 * a + n)).2) from if_pos q]
      exact (roJ_11 i1 ha (by omega) hk).trans ih
    · rw [show rpA J a (n + 1) = rpA J a n from if_neg q]; exact ih
theorem JI.rp {J : Int → Int → Int} {a : Int} (h : JI J) (ha : 0 ≤ a ∧ a ≤ 9) : JI (rpA J a (J 20 a).toNat).2 := by
  have k20 := h.1.1.k20 a
  obtain ⟨g, gm, _, _, _⟩ := rpA_i h.1 ha (J 20 a).toNat (by omega)
  exact h.of (n := ((J 20 a).toNat : Int)) g (rpA_v h.1 h.2.1 ha _ (by omega) (by omega)) (fun k x hk => rpA_11 h.1 ha (by omega) _ (by omega)) (by rw [gm]) (TC.rp h.1 ha _ (by omega)) ha (by omega)
theorem JI.fo {J : Int → Int → Int} {a s : Int} (h : JI J) (ha : 0 ≤ a ∧ a ≤ 9) : JI (foA (uJ J 16 s (-1)) a (J 20 a).toNat).2 := by
  have k20 := h.1.1.k20 a
  have g1 : GI (uJ J 16 s (-1)) := h.1.u (Or.inr ⟨by decide, by decide⟩) (Or.inl (by decide)) (by decide)
  have v1 : VI (uJ J 16 s (-1)) := h.2.1.lost (fun k x hk => by rw [uJ_ne (by omega)]) (fun x _ => by rw [uJ_ne (by decide)]) (fun p _ _ => Or.inl ⟨by rw [uJ_ne (by decide)], by rw [uJ_ne (by decide)]⟩)
  obtain ⟨g, gm, e, _, _⟩ := foA_i g1 ha (J 20 a).toNat (by omega)
  have t : TC (40 * a) (40 * a + ((J 20 a).toNat : Int)) J (foA (uJ J 16 s (-1)) a (J 20 a).toNat).2 := (TC.none (fun k x hk => by rw [uJ_ne (by omega)])).trans (TC.fo _)
  exact h.of (n := ((J 20 a).toNat : Int)) g (foA_v g1 v1 ha _ (by omega)) (fun k x hk => by rw [e k x (by omega) (by omega) (by omega) (by omega) (by omega), uJ_ne (by omega)]) (by rw [gm, uJ_ne (by decide)]) t ha (by omega)
theorem JI.hm {J : Int → Int → Int} {k o s b x : Int} (h : JI J) (ho : 0 ≤ o ∧ o ≤ 9) (hs : 0 ≤ s ∧ s < J 20 o) (hb : 0 ≤ b ∧ b < 60 / J (-1) 2) (hx : 0 ≤ x ∧ x ≤ 255) : JI (hmJ J k o (40 * o + s) b x (J (-1) 3).toNat (J (-1) 3).toNat).2 := by
  have k20 := h.1.1.k20 o
  have sc := h.1.2.1
  have lk := lK sc.1
  have hN := sc.2.1
  obtain ⟨g, e⟩ := hmJ_gi (k := k) (b := b) (x := x) (s := 40 * o + s) (n := (J (-1) 3).toNat) h.1 ho (by omega) (by omega) hx (J (-1) 3).toNat (Nat.le_refl _)
  exact h.of (n := s + 1) g (h.2.1.hm _) (fun m y hm => e m y (by omega) (by omega) (by omega)) (e _ _ (by decide) (by decide) (by decide)) ((TC.hm (by omega) (by omega) _ (Nat.le_refl _)).mono (by omega) (by omega)) ho (by omega)
theorem JI.sm {J : Int → Int → Int} {a s j : Int} (h : JI J) (ha : 0 ≤ a ∧ a ≤ 9) (hs : 0 ≤ s ∧ s < J 20 a) (hj : 0 ≤ j ∧ j < J (-1) 3) (h8 : J 28 (12 * (40 * a + s) + j) ≠ 8) : JI (uJ J 28 (12 * (40 * a + s) + j) (J 28 (12 * (40 * a + s) + j) + 1)) := by
  have k20 := h.1.1.k20 a
  have hN := h.1.2.1.2.1
  have k28 := h.1.1.k28 (12 * (40 * a + s) + j)
  refine h.of (n := s + 1) (h.1.u (Or.inr ⟨by show (0 : Int) ≤ _; omega, by show _ ≤ (8 : Int); omega⟩) (Or.inl (by decide)) (by decide)) (h.2.1.lost (fun k x hk => by rw [uJ_ne (by omega)]) (fun x _ => by rw [uJ_ne (by decide)]) (fun p _ _ => Or.inl ⟨by rw [uJ_ne (by decide)], by rw [uJ_ne (by decide)]⟩)) (fun k x hk => by rw [uJ_ne (by omega)]) (by rw [uJ_ne (by decide)]) ((TC.u1 (by omega) (by decide)).mono (by omega) (by omega)) ha (by omega)
theorem JI.he {J : Int → Int → Int} {s : Int} {n : Nat} (h : JI J) : JI (heA J s n).2 := by
  obtain ⟨g, gm, e, _, _⟩ := heA_i (s := s) h.1.1 n
  have em : ∀ x, (heA J s n).2 (-1) x = J (-1) x := fun x => by rw [gm]
  exact h.same ⟨g, h.1.2.1.m gm, h.1.2.2.keep (fun x _ _ => e 10 x (by decide)) (fun p => ⟨e 25 p (by decide), e 26 p (by decide)⟩)⟩ (h.2.1.lost (fun k x hk => e k x (by omega)) (fun x _ => em x) (fun p _ _ => Or.inl ⟨e 25 p (by decide), e 26 p (by decide)⟩)) (fun k x hk => e k x (by omega)) (em 1)
theorem JI.one {J : Int → Int → Int} {k x v : Int} (h : JI J) (hk : k = 6 ∨ k = 7 ∨ k = 12 ∨ k = 13 ∨ k = 14) (hv : loK k ≤ v ∧ v ≤ hiK k) : JI (uJ J k x v) :=
  h.same (h.1.u (Or.inr hv) (Or.inl (by omega)) (by omega)) (h.2.1.lost (fun q y hq => by rw [uJ_ne (by omega)]) (fun y _ => by rw [uJ_ne (by omega)]) (fun p _ _ => Or.inl ⟨by rw [uJ_ne (by omega)], by rw [uJ_ne (by omega)]⟩)) (fun q y hq => by rw [uJ_ne (by omega)]) (by rw [uJ_ne (by omega)])
