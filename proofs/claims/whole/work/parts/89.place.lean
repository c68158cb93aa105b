/-! ===== the class on the relation: placing ===== -/
/-- what holds of the reference's words besides their bounds -/
abbrev VI (J : Int → Int → Int) : Prop :=
  (∀ p, 0 ≤ p → p < 4800 → (J 25 p < 0 → J 26 p = 0) ∧ (0 ≤ J 25 p → 0 < J 5 (J 25 p))) ∧
  (∀ a, 0 ≤ a → a ≤ 9 → J 9 (10 * a + a) = 0) ∧
  (∀ a b, 0 ≤ a → a ≤ 9 → 0 ≤ b → b ≤ 9 → J 9 (10 * a + b) = J 9 (10 * b + a)) ∧
  (∀ s j j', 0 ≤ s → s < 400 → 0 ≤ j → j < 12 → 0 ≤ j' → j' < 12 → J 25 (12 * s + j) = J 25 (12 * s + j') → 0 ≤ J 25 (12 * s + j) → j = j') ∧
  (∀ a s j, 0 ≤ a → a ≤ 9 → 0 ≤ s → s < 40 → 0 ≤ j → j < 12 → (J 20 a ≤ s ∨ J (-1) 3 ≤ j) → J 25 (12 * (40 * a + s) + j) < 0) ∧
  (∀ s, J 21 s ≠ 0 → J 22 s = 0) ∧
  (J (-1) 4 = 0 → ∀ a, 0 ≤ a → a ≤ 9 → J 20 a = 0) ∧
  (∀ a, 0 ≤ a → a ≤ 9 → ¬ 0 < J 5 a → J 20 a = 0)
theorem VI.pi {J : Int → Int → Int} (h : VI J) : ∀ p, 0 ≤ p → p < 4800 → (J 25 p < 0 → J 26 p = 0) ∧ (0 ≤ J 25 p → 0 < J 5 (J 25 p)) := h.1
theorem VI.li {J : Int → Int → Int} (h : VI J) : ∀ a, 0 ≤ a → a ≤ 9 → J 9 (10 * a + a) = 0 := h.2.1
theorem VI.sy {J : Int → Int → Int} (h : VI J) : ∀ a b, 0 ≤ a → a ≤ 9 → 0 ≤ b → b ≤ 9 → J 9 (10 * a + b) = J 9 (10 * b + a) := h.2.2.1
theorem VI.uq {J : Int → Int → Int} (h : VI J) : ∀ s j j', 0 ≤ s → s < 400 → 0 ≤ j → j < 12 → 0 ≤ j' → j' < 12 → J 25 (12 * s + j) = J 25 (12 * s + j') → 0 ≤ J 25 (12 * s + j) → j = j' := h.2.2.2.1
theorem VI.oi {J : Int → Int → Int} (h : VI J) : ∀ a s j, 0 ≤ a → a ≤ 9 → 0 ≤ s → s < 40 → 0 ≤ j → j < 12 → (J 20 a ≤ s ∨ J (-1) 3 ≤ j) → J 25 (12 * (40 * a + s) + j) < 0 := h.2.2.2.2.1
theorem VI.fh {J : Int → Int → Int} (h : VI J) : ∀ s, J 21 s ≠ 0 → J 22 s = 0 := h.2.2.2.2.2.1
theorem VI.se {J : Int → Int → Int} (h : VI J) : J (-1) 4 = 0 → ∀ a, 0 ≤ a → a ≤ 9 → J 20 a = 0 := h.2.2.2.2.2.2.1
theorem VI.nh {J : Int → Int → Int} (h : VI J) : ∀ a, 0 ≤ a → a ≤ 9 → ¬ 0 < J 5 a → J 20 a = 0 := h.2.2.2.2.2.2.2
theorem VI.pb {J : Int → Int → Int} (h : VI J) (hR : MR J) : ∀ p, 0 ≤ p → p < 4800 → J 25 p ≤ 9 ∧ (0 ≤ J 25 p → 0 < J 5 (J 25 p)) := fun p p0 p1 => ⟨(hR.k25 p).2, (h.pi p p0 p1).2⟩
theorem VI.lim {J : Int → Int → Int} (h : VI J) (hR : MR J) {a : Int} (ha : 0 ≤ a ∧ a ≤ 9) : ¬ J 10 (10 * a + a) < J 9 (10 * a + a) := by
  rw [h.li a ha.1 ha.2]
  have := hR.k10 (10 * a + a)
  omega
/-- pieces are lost, or struck out; nothing else that counts -/
theorem VI.lost {J J' : Int → Int → Int} (h : VI J) (e : ∀ k x, k = 5 ∨ k = 9 ∨ k = 20 ∨ k = 21 ∨ k = 22 → J' k x = J k x) (em : ∀ x, x = 3 ∨ x = 4 → J' (-1) x = J (-1) x) (hp : ∀ p, 0 ≤ p → p < 4800 → (J' 25 p = J 25 p ∧ J' 26 p = J 26 p) ∨ (J' 26 p = 0 ∧ (J' 25 p = J 25 p ∨ J' 25 p < 0))) : VI J' := by
  have c25 : ∀ p, 0 ≤ p → p < 4800 → J' 25 p = J 25 p ∨ J' 25 p < 0 := fun p p0 p1 => by
    rcases hp p p0 p1 with z | z
    · exact Or.inl z.1
    · exact z.2
  refine ⟨fun p p0 p1 => ⟨fun q => ?_, fun q => ?_⟩, fun a a0 a1 => by rw [e 9 _ (by omega)]; exact h.li a a0 a1, fun a b a0 a1 b0 b1 => by rw [e 9 _ (by omega), e 9 _ (by omega)]; exact h.sy a b a0 a1 b0 b1, fun s j j' s0 s1 j0 j1 j2 j3 q1 q2 => ?_, fun a s j a0 a1 s0 s1 j0 j1 q => ?_, fun s q => ?_, fun q a a0 a1 => ?_, fun a a0 a1 q => ?_⟩
  · rcases hp p p0 p1 with z | z
    · rw [z.2]; exact (h.pi p p0 p1).1 (by omega)
    · exact z.1
  · rw [e 5 _ (by omega)]
    rcases c25 p p0 p1 with z | z
    · rw [z] at q ⊢; exact (h.pi p p0 p1).2 q
    · omega
  · have z1 := c25 (12 * s + j) (by omega) (by omega)
    have z2 := c25 (12 * s + j') (by omega) (by omega)
    exact h.uq s j j' s0 s1 j0 j1 j2 j3 (by omega) (by omega)
  · rw [e 20 _ (by omega), em 3 (by omega)] at q
    have := h.oi a s j a0 a1 s0 s1 j0 j1 q
    have := c25 (12 * (40 * a + s) + j) (by omega) (by omega)
    omega
  · rw [e 21 _ (by omega)] at q; rw [e 22 _ (by omega)]; exact h.fh s q
  · rw [em 4 (by omega)] at q; rw [e 20 _ (by omega)]; exact h.se q a a0 a1
  · rw [e 5 _ (by omega)] at q; rw [e 20 _ (by omega)]; exact h.nh a a0 a1 q
theorem bestJ_may {J : Int → Int → Int} {a s : Int} : ∀ n : Nat, 0 ≤ bestJ J a s n → mayK J a s (bestJ J a s n)
  | 0, h => absurd h (by show ¬ (0 : Int) ≤ -1; decide)
  | n + 1, h => by
    by_cases c : mayK J a s n ∧ (bestJ J a s n < 0 ∨ sumR (fun i => J 10 (10 * (n : Int) + i)) 10 < sumR (fun i => J 10 (10 * bestJ J a s n + i)) 10)
    · rw [show bestJ J a s (n + 1) = n from if_pos c]; exact c.1
    · rw [show bestJ J a s (n + 1) = bestJ J a s n from if_neg c] at h ⊢; exact bestJ_may n h
theorem hasP_0 {J : Int → Int → Int} {k s : Int} : ∀ n : Nat, hasP J k s n = 0 → ∀ j : Nat, j < n → J 25 (12 * s + j) ≠ k
  | 0, _, j, hj => absurd hj (by omega)
  | n + 1, h, j, hj => by
    by_cases c : hasP J k s n ≠ 0 ∨ J 25 (12 * s + n) = k
    · rw [show hasP J k s (n + 1) = 1 from if_pos c] at h; omega
    · by_cases q : j = n
      · rw [q]; exact fun z => c (Or.inr z)
      · exact hasP_0 n (by
          by_cases z : hasP J k s n = 0
          · exact z
          · exact absurd (Or.inl z) c) j (by omega)
theorem uJ_comm {J : Int → Int → Int} {k y v k' y' v' : Int} (h : k ≠ k') : uJ (uJ J k y v) k' y' v' = uJ (uJ J k' y' v') k y v := by
  funext m x
  by_cases q : m = k
  · subst q
    rw [uJ_ne h, uJ_self, uJ_self, uJ_ne h]
  · rw [uJ_ne (J := uJ J k' y' v') q]
    by_cases q2 : m = k'
    · subst q2; rw [uJ_self, uJ_self, uJ_ne q]
    · rw [uJ_ne q2, uJ_ne q2, uJ_ne q]
theorem wI_c {I : Nm → Int → Int} {m : Nm} {lo hi : Int} {f g : Int → Int} (h : ∀ x, lo ≤ x → x < hi → f x = g x) : wI I m lo hi f = wI I m lo hi g := by
  funext n x
  unfold wI
  by_cases z : n = m ∧ lo ≤ x ∧ x < hi
  · rw [if_pos z, if_pos z, h x z.2.1 z.2.2]
  · rw [if_neg z, if_neg z]
theorem putP_25 {J : Int → Int → Int} {a s j b : Int} : (∀ x, putP J a s j b 25 x = upI (J 25) (12 * s + j) b x) ∧ (∀ x, putP J a s j b 26 x = upI (J 26) (12 * s + j) 1 x) ∧ (∀ k x, k ≠ 31 → k ≠ 27 → k ≠ 29 → k ≠ 28 → k ≠ 25 → k ≠ 26 → k ≠ 10 → k ≠ 8 → putP J a s j b k x = J k x) := by
  unfold putP
  refine ⟨fun x => ?_, fun x => ?_, fun k x k1 k2 k3 k4 k5 k6 k7 k8 => ?_⟩
  · rw [uJ_ne (by decide), uJ_ne (by decide), uJ_ne (by decide), uJ_self]
    by_cases q : x = 12 * s + j
    · rw [q, upI_self, upI_self]
    · rw [upI_ne _ _ q, upI_ne _ _ q, uJ_ne (by decide), wJ_ne (by decide), wJ_ne (by decide), mpJ_o (by decide)]
  · rw [uJ_ne (by decide), uJ_ne (by decide), uJ_self]
    by_cases q : x = 12 * s + j
    · rw [q, upI_self, upI_self]
    · rw [upI_ne _ _ q, upI_ne _ _ q, uJ_ne (by decide), uJ_ne (by decide), wJ_ne (by decide), wJ_ne (by decide), mpJ_o (by decide)]
  · rw [uJ_ne k8, uJ_ne k7, uJ_ne k6, uJ_ne k5, uJ_ne k4, wJ_ne k3, wJ_ne k2, mpJ_o k1]
theorem VI.pl {J : Int → Int → Int} {a s j : Int} (h : VI J) (ha : 0 ≤ a ∧ a ≤ 9) (hs : 0 ≤ s ∧ s < 40 ∧ s < J 20 a) (hj : 0 ≤ j ∧ j < 12 ∧ j < J (-1) 3) : VI (plJ J a (40 * a + s) j) := by
  unfold plJ
  by_cases q : bestJ J a (40 * a + s) 10 < 0
  · rw [if_pos q]; exact h
  · rw [if_neg q]
    have may := bestJ_may (J := J) (a := a) (s := 40 * a + s) 10 (by omega)
    have br := bestJ_r (J := J) (a := a) (s := 40 * a + s) 10
    obtain ⟨b, hb⟩ : ∃ b, b = bestJ J a (40 * a + s) 10 := ⟨_, rfl⟩
    rw [← hb] at q may br ⊢
    obtain ⟨-, m5, -, -, -, mh⟩ := may
    obtain ⟨p25, p26, po⟩ := putP_25 (J := J) (a := a) (s := 40 * a + s) (j := j) (b := b)
    have o : ∀ k x, k = 5 ∨ k = 9 ∨ k = 20 ∨ k = 21 ∨ k = 22 ∨ k = -1 → putP J a (40 * a + s) j b k x = J k x := fun k x hk => po k x (by omega) (by omega) (by omega) (by omega) (by omega) (by omega) (by omega) (by omega)
    have nb : ∀ x, 0 ≤ x → x < 12 → J 25 (12 * (40 * a + s) + x) ≠ b := by
      intro x x0 x1 e
      by_cases z : x < J (-1) 3
      · have := hasP_0 _ mh x.toNat (by omega)
        rw [show ((x.toNat : Nat) : Int) = x by omega] at this
        exact this e
      · have := h.oi a s x ha.1 ha.2 hs.1 hs.2.1 x0 x1 (Or.inr (by omega))
        omega
    refine ⟨fun p p0 p1 => ⟨fun z => ?_, fun z => ?_⟩, fun a a0 a1 => by rw [o 9 _ (by omega)]; exact h.li a a0 a1, fun a b a0 a1 b0 b1 => by rw [o 9 _ (by omega), o 9 _ (by omega)]; exact h.sy a b a0 a1 b0 b1, fun s' j1 j2 s0' s1' a1 a2 a3 a4 e z => ?_, fun a' s' j' a0 a1 s0 s1 j0 j1 z => ?_, fun s q => ?_, fun q a a0 a1 => ?_, fun a a0 a1 q => ?_⟩
    · rw [p25] at z
      rw [p26]
      by_cases e : p = 12 * (40 * a + s) + j
      · rw [e, upI_self] at z; omega
      · rw [upI_ne _ _ e] at z ⊢; exact (h.pi p p0 p1).1 z
    · rw [p25] at z ⊢
      rw [o 5 _ (by omega)]
      by_cases e : p = 12 * (40 * a + s) + j
      · rw [e, upI_self]; exact m5
      · rw [upI_ne _ _ e] at z ⊢; exact (h.pi p p0 p1).2 z
    · rw [p25, p25] at e
      rw [p25] at z
      by_cases e1 : 12 * s' + j1 = 12 * (40 * a + s) + j
      · by_cases e2 : 12 * s' + j2 = 12 * (40 * a + s) + j
        · omega
        · exfalso
          rw [e1, upI_self, upI_ne _ _ e2] at e
          have : s' = 40 * a + s := by omega
          rw [this] at e
          exact nb j2 a3 a4 e.symm
      · by_cases e2 : 12 * s' + j2 = 12 * (40 * a + s) + j
        · exfalso
          rw [e2, upI_self, upI_ne _ _ e1] at e
          have : s' = 40 * a + s := by omega
          rw [this] at e
          exact nb j1 a1 a2 e
        · rw [upI_ne _ _ e1] at e z
          rw [upI_ne _ _ e2] at e
          exact h.uq s' j1 j2 s0' s1' a1 a2 a3 a4 e z
    · rw [o 20 _ (by omega), o (-1) _ (by omega)] at z
      rw [p25, upI_ne]
      · exact h.oi a' s' j' a0 a1 s0 s1 j0 j1 z
      · intro e
        have e1 : a' = a := by omega
        have e2 : s' = s := by omega
        have e3 : j' = j := by omega
        subst e1; subst e2; subst e3
        omega
    · rw [o 21 _ (by omega)] at q; rw [o 22 _ (by omega)]; exact h.fh s q
    · rw [o (-1) _ (by omega)] at q; rw [o 20 _ (by omega)]; exact h.se q a a0 a1
    · rw [o 5 _ (by omega)] at q; rw [o 20 _ (by omega)]; exact h.nh a a0 a1 q
set_option maxHeartbeats 2000000 in
theorem y_place {d : Nat} {K : Kt} {X : Xt} {J : Int → Int → Int} {E : Nm → Int → Int} {ty : Nm → Nat} {ln : Nm → Int} {I : Nm → Int → Int} {R : Nm → Int → Option Nm} {c w : Nat} {a s j : Int} (h : RC J E ty ln I R) (hG : GI J) (hV : VI J) (hp : piJ J a s j) (k : ∀ I', RC (plJ J a (40 * a + s) j) E ty ln I' R → K (some (vI (if bestJ J a (40 * a + s) 10 < 0 then 0 else 1))) (ty, ln, I', R, c, w)) :
    Mth (d + 3) M_FB_place [vR (some [1]), vR (some [4, a]), vR (some [4, a, 8, s]), vI j] (ty, ln, I, R, c, w) K X := by
  have hs := hp.1
  have ha := hs.1
  obtain ⟨g0, ⟨gr0, gt0, gl0⟩, ⟨gr1, gt1, gl1⟩, ⟨gr2, gt2, gl2⟩, gp⟩ := h.sg a s hs
  obtain ⟨f1, fr0, fr1, fr2, fr3, fr4, fr5, ⟨ft0, fl0⟩, ⟨ft3, fl3⟩, ⟨ft4, fl4⟩, ⟨ft5, fl5⟩, ft16, fr160, fr161, ⟨ft160, fl160⟩, ⟨ft161, fl161⟩⟩ := id h.g.1
  obtain ⟨t0, ⟨r2, t2, ll2⟩, ⟨r3, t3, ll3⟩, ⟨r4, t4, ll4⟩, ⟨r5, t5, ll5⟩, rw5, ⟨r6, t6, ll6⟩, ⟨r7, t7⟩, ⟨r8, t8⟩, ⟨r9, t9⟩⟩ := h.hs a ha
  obtain ⟨pr, pt, ⟨pr0, pt0, pl0⟩, ⟨pr1, pt1, pl1⟩⟩ := gp j hp.2.1 hp.2.2.2
  have sc := h.g.2.2.2.2.2.2.2
  have h17 := h.g.2.1.1
  have lb := lK sc.1
  rw [in_FB_place, b_FB_place_0, and_t f1, y_bestKeeper h hs (hV.lim hG.1 ha.1)]
  show Rn (d + 2) M_FB_place K X 6 [vR (some [1]), vR (some [4, a]), vR (some [4, a, 8, s]), vI j, vJ, vJ] [vR (if bestJ J a (40 * a + s) 10 < 0 then none else some [4, bestJ J a (40 * a + s) 10])] (ty, ln, I, R, c, w)
  rw [b_FB_place_6]
  by_cases q : bestJ J a (40 * a + s) 10 < 0
  · rw [if_pos q, if_pos rfl, and_t (Or.inl rfl)]
    have z := k I (by unfold plJ; rw [if_pos q]; exact h)
    rw [if_pos q] at z
    exact z
  · have may := bestJ_may (J := J) (a := a) (s := 40 * a + s) 10 (by omega)
    have br := bestJ_r (J := J) (a := a) (s := 40 * a + s) 10
    have k' : ∀ I', RC (putP J a (40 * a + s) j (bestJ J a (40 * a + s) 10)) E ty ln I' R → K (some (vI 1)) (ty, ln, I', R, c, w) := fun I' z => by
      have y := k I' (by unfold plJ; rw [if_neg q]; exact z)
      rw [if_neg q] at y
      exact y
    clear k
    rw [if_neg q]
    obtain ⟨b, hb⟩ : ∃ b, b = bestJ J a (40 * a + s) 10 := ⟨_, rfl⟩
    rw [← hb] at q may br k' ⊢
    have hkb : hsJ J b := ⟨⟨by omega, by omega⟩, may.2.1⟩
    obtain ⟨tb, -, ⟨rb3, tb3, lb3⟩, -⟩ := h.hs b hkb
    rw [if_neg (by simp), ex_some, and_t g0, gr2, ex_some, and_t ⟨⟨by omega, by omega⟩, by omega, by omega⟩, and_t f1, ex_some, and_t g0, pr, ex_some, and_t pt, fr1, ex_some, and_t h17, gr1, pr0, y_encode h hG.1 hs (Or.inr rfl) ⟨hp.2.1, hp.2.2.1⟩ pt0 (by omega) rfl (by simp) (by show (4 : Int) ≠ 17; decide)]
    -- the bytes
    have h1 : RC (wJ (mpJ J 24 (40 * a + s) j) 27 (30 * (12 * (40 * a + s) + j)) (30 * (12 * (40 * a + s) + j) + 60 / J (-1) 2) (fun x => mpJ J 24 (40 * a + s) j 31 (x - 30 * (12 * (40 * a + s) + j)))) E ty ln (wI I [4, a, 8, s, 3, j, 0] 0 (60 / J (-1) 2) (fun t => enN (fun x => J (23 + 1) (60 * (40 * a + s) + x)) (60 / J (-1) 2) j t (J (-1) 2).toNat)) R := by
      have hm : RC (mpJ J 24 (40 * a + s) j) E ty ln I R := h.js (fun k x _ k1 _ _ _ _ => mpJ_o k1) (fun x _ _ => mpJ_o (by decide))
      have mm : ∀ k x, k ≠ 31 → mpJ J 24 (40 * a + s) j k x = J k x := fun k x hk => mpJ_o hk
      have z := hm.st (n := [4, a, 8, s, 3, j, 0]) (lo := 0) (hi := 60 / J (-1) 2) (k := 27) (B := 30 * (12 * (40 * a + s) + j)) (f := fun x => mpJ J 24 (40 * a + s) j 31 (x - 30 * (12 * (40 * a + s) + j))) (fun x x0 x1 => l27 ⟨by rw [piJ, mm 5 _ (by decide), mm 20 _ (by decide), mm (-1) _ (by decide)]; exact hp, x0, by omega, by rw [mm (-1) _ (by decide)]; exact x1⟩) (by decide)
      rw [show 30 * (12 * (40 * a + s) + j) + 0 = 30 * (12 * (40 * a + s) + j) by omega] at z
      rw [wI_c (g := fun x => mpJ J 24 (40 * a + s) j 31 (30 * (12 * (40 * a + s) + j) + x - 30 * (12 * (40 * a + s) + j))) (fun x x0 x1 => ?_)]
      · exact z
      · rw [show 30 * (12 * (40 * a + s) + j) + x - 30 * (12 * (40 * a + s) + j) = x by omega]
        unfold mpJ
        rw [wJ_in ⟨x0, x1⟩]
        rfl
    have v1 : ∀ x, 0 ≤ x → x < 60 / J (-1) 2 → wI I [4, a, 8, s, 3, j, 0] 0 (60 / J (-1) 2) (fun t => enN (fun x => J (23 + 1) (60 * (40 * a + s) + x)) (60 / J (-1) 2) j t (J (-1) 2).toNat) [4, a, 8, s, 3, j, 0] x = mpJ J 24 (40 * a + s) j 31 x := fun x x0 x1 => by
      rw [wI_in ⟨x0, x1⟩]
      unfold mpJ
      rw [wJ_in ⟨x0, x1⟩]
      rfl
    have j1 : ∀ k x, k ≠ 31 → k ≠ 27 → wJ (mpJ J 24 (40 * a + s) j) 27 (30 * (12 * (40 * a + s) + j)) (30 * (12 * (40 * a + s) + j) + 60 / J (-1) 2) (fun x => mpJ J 24 (40 * a + s) j 31 (x - 30 * (12 * (40 * a + s) + j))) k x = J k x := fun k x k1 k2 => by rw [wJ_ne k2, mpJ_o k1]
    unfold putP at k'
    have mb : ∀ x, 0 ≤ mpJ J 24 (40 * a + s) j 31 x ∧ mpJ J 24 (40 * a + s) j 31 x ≤ 255 := fun x => (hG.mp (a := 24) (s := 40 * a + s) (j := j)).1.k31 x
    generalize mpJ J 24 (40 * a + s) j 31 = mp at h1 v1 j1 k' mb
    generalize wI I [4, a, 8, s, 3, j, 0] 0 (60 / J (-1) 2) (fun t => enN (fun x => J (23 + 1) (60 * (40 * a + s) + x)) (60 / J (-1) 2) j t (J (-1) 2).toNat) = I1 at h1 v1 ⊢
    generalize wJ (mpJ J 24 (40 * a + s) j) 27 (30 * (12 * (40 * a + s) + j)) (30 * (12 * (40 * a + s) + j) + 60 / J (-1) 2) (fun x => mp (x - 30 * (12 * (40 * a + s) + j))) = J1 at h1 j1 k'
    show Rn (d + 2) M_FB_place K X 40 [vR (some [1]), vR (some [4, a]), vR (some [4, a, 8, s]), vI j, vR (some [4, b]), vR (some [4, a, 8, s, 3, j])] [] (ty, ln, I1, R, c, w)
    have k5 : I1 [17] 5 = 60 / J (-1) 2 := by rw [h1.g.2.2.2.1.2.2, j1 (-1) 2 (by decide) (by decide)]
    rw [b_FB_place_40, and_t f1, ex_some, and_t pt, ex_some, and_t pt, fr1, ex_some, and_t h17, pr0, pr1, y_answerAll h17 k5 lb pt0 (by omega) (fun x x0 x1 => by rw [v1 x x0 x1]; have := mb x; omega) pt1 pl1 rfl (by simp) (by simp)]
    have p1 : piJ J1 a s j := by rw [piJ, j1 5 _ (by decide) (by decide), j1 20 _ (by decide) (by decide), j1 (-1) _ (by decide) (by decide)]; exact hp
    have h2 : RC (wJ J1 29 (8 * (12 * (40 * a + s) + j)) (8 * (12 * (40 * a + s) + j) + 8) (fun x => anS mp (60 / J (-1) 2) (x - 8 * (12 * (40 * a + s) + j)) (60 / J (-1) 2 / 2).toNat)) E ty ln (wI I1 [4, a, 8, s, 3, j, 1] 0 8 (fun q => anS (I1 [4, a, 8, s, 3, j, 0]) (60 / J (-1) 2) q (60 / J (-1) 2 / 2).toNat)) R := by
      have z := h1.st (n := [4, a, 8, s, 3, j, 1]) (lo := 0) (hi := 8) (k := 29) (B := 8 * (12 * (40 * a + s) + j)) (f := fun x => anS mp (60 / J (-1) 2) (x - 8 * (12 * (40 * a + s) + j)) (60 / J (-1) 2 / 2).toNat) (fun x x0 x1 => l29 ⟨p1, x0, x1⟩) (by decide)
      rw [show 8 * (12 * (40 * a + s) + j) + 0 = 8 * (12 * (40 * a + s) + j) by omega] at z
      rw [wI_c (g := fun x => anS mp (60 / J (-1) 2) (8 * (12 * (40 * a + s) + j) + x - 8 * (12 * (40 * a + s) + j)) (60 / J (-1) 2 / 2).toNat) (fun x x0 x1 => ?_)]
      · exact z
      · rw [show 8 * (12 * (40 * a + s) + j) + x - 8 * (12 * (40 * a + s) + j) = x by omega]
        exact anS_c (by omega) v1 _
    have j2 : ∀ k x, k ≠ 31 → k ≠ 27 → k ≠ 29 → wJ J1 29 (8 * (12 * (40 * a + s) + j)) (8 * (12 * (40 * a + s) + j) + 8) (fun x => anS mp (60 / J (-1) 2) (x - 8 * (12 * (40 * a + s) + j)) (60 / J (-1) 2 / 2).toNat) k x = J k x := fun k x k1 k2 k3 => by rw [wJ_ne k3]; exact j1 k x k1 k2
    generalize wI I1 [4, a, 8, s, 3, j, 1] 0 8 (fun q => anS (I1 [4, a, 8, s, 3, j, 0]) (60 / J (-1) 2) q (60 / J (-1) 2 / 2).toNat) = I2 at h2 ⊢
    generalize wJ J1 29 (8 * (12 * (40 * a + s) + j)) (8 * (12 * (40 * a + s) + j) + 8) (fun x => anS mp (60 / J (-1) 2) (x - 8 * (12 * (40 * a + s) + j)) (60 / J (-1) 2 / 2).toNat) = J2 at h2 j2 k'
    show Rn (d + 2) M_FB_place K X 57 [vR (some [1]), vR (some [4, a]), vR (some [4, a, 8, s]), vI j, vR (some [4, b]), vR (some [4, a, 8, s, 3, j])] [] (ty, ln, I2, R, c, w)
    have p2 : piJ J2 a s j := by rw [piJ, j2 5 _ (by decide) (by decide) (by decide), j2 20 _ (by decide) (by decide) (by decide), j2 (-1) _ (by decide) (by decide) (by decide)]; exact hp
    have hb2 : hsJ J2 b := by rw [hsJ, j2 5 _ (by decide) (by decide) (by decide)]; exact hkb
    have ha2 : hsJ J2 a := p2.1.1
    have h3 := ((h2.up (v := b) (l25 p2) (by decide)).up (v := 1) (l26 (by rw [piJ, uJ_ne (by decide), uJ_ne (by decide), uJ_ne (by decide)]; exact p2)) (by decide)).up (v := 0) (l28 (by rw [piJ, uJ_ne (by decide), uJ_ne (by decide), uJ_ne (by decide), uJ_ne (by decide), uJ_ne (by decide), uJ_ne (by decide)]; exact p2)) (by decide)
    rw [b_FB_place_57, ex_some, and_t tb, ex_some, and_t ⟨pt, rfl⟩, ex_some, and_t ⟨Or.inr rfl, pt, rfl⟩, ex_some, and_t ⟨pt, rfl⟩, ex_some, and_t tb, ex_some, and_t t0, rb3, ex_some, h2.nm b hb2]
    rw [uJ_comm (k := 26) (k' := 28) (by decide), uJ_comm (k := 25) (k' := 28) (by decide)] at h3
    generalize up2 (up2 (up2 I2 [4, a, 8, s, 3, j] 2 b) [4, a, 8, s, 3, j] 3 1) [4, a, 8, s, 3, j] 4 0 = I3 at h3 ⊢
    have j3 : ∀ k x, k ≠ 31 → k ≠ 27 → k ≠ 29 → k ≠ 28 → k ≠ 25 → k ≠ 26 → uJ (uJ (uJ J2 28 (12 * (40 * a + s) + j) 0) 25 (12 * (40 * a + s) + j) b) 26 (12 * (40 * a + s) + j) 1 k x = J k x := fun k x k1 k2 k3 k4 k5 k6 => by rw [uJ_ne k6, uJ_ne k5, uJ_ne k4]; exact j2 k x k1 k2 k3
    generalize uJ (uJ (uJ J2 28 (12 * (40 * a + s) + j) 0) 25 (12 * (40 * a + s) + j) b) 26 (12 * (40 * a + s) + j) 1 = J3 at h3 j3 k'
    have hb3 : hsJ J3 b := by rw [hsJ, j3 5 _ (by decide) (by decide) (by decide) (by decide) (by decide) (by decide)]; exact hkb
    have ha3 : hsJ J3 a := by rw [hsJ, j3 5 _ (by decide) (by decide) (by decide) (by decide) (by decide) (by decide)]; exact ha
    have n3 := h3.nm a ha3
    have e10 : I3 [4, b, 3] a = J 10 (10 * b + a) := by rw [h3.ri _ _ _ _ (l10 ⟨hb3, ha.1⟩), j3 10 _ (by decide) (by decide) (by decide) (by decide) (by decide) (by decide)]
    have b10 := hG.1.k10 (10 * b + a)
    rw [n3, and_t ⟨Or.inl tb3, ha.1.1, by omega⟩, ex_some, and_t ⟨tb3, rfl, ha.1.1, by omega⟩, ex_some, and_t ⟨Or.inr rfl, t0, rfl⟩, and_t (Or.inr rfl), e10, w32_id (by omega) (by omega)]
    have h4 := (h3.up (v := J 10 (10 * b + a) + 1) (l10 ⟨hb3, ha.1⟩) (by decide)).up (v := 1) (l8 (a := a) (by rw [hsJ, uJ_ne (by decide)]; exact ha3)) (by decide)
    exact k' _ h4
