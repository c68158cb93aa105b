/-! ===== a new house on the relation ===== -/
theorem FS.n2 {ty ty' : Nm → Nat} {ln ln' : Nm → Int} {R R' : Nm → Int → Option Nm} (t : ∀ n, ty n ≠ 0 → ty' n = ty n ∧ ln' n = ln n) (r : ∀ n x, n ≠ [1, 0] → ty n ≠ 0 → R' n x = R n x) (h : FS ty ln R) : FS ty' ln' R' := by
  obtain ⟨f1, fr0, fr1, fr2, fr3, fr4, fr5, f0, f3, f4, f5, ft16, fr160, fr161, f160, f161⟩ := h
  have r1 : ∀ x, R' [1] x = R [1] x := fun x => r _ x (by simp) (by rw [f1]; decide)
  have r16 : ∀ x, R' [16] x = R [16] x := fun x => r _ x (by simp) (by rw [ft16]; decide)
  exact ⟨tyNq t f1 (by decide), by rw [r1]; exact fr0, by rw [r1]; exact fr1, by rw [r1]; exact fr2, by rw [r1]; exact fr3, by rw [r1]; exact fr4, by rw [r1]; exact fr5, lnNq t f0 (by decide), lnNq t f3 (by decide), lnNq t f4 (by decide), lnNq t f5 (by decide), tyNq t ft16 (by decide), by rw [r16]; exact fr160, by rw [r16]; exact fr161, lnNq t f160 (by decide), lnNq t f161 (by decide)⟩
/-- another row of houses is looked at by none of these -/
theorem rr10 {ty : Nm → Nat} {R R' : Nm → Int → Option Nm} (r : ∀ n x, n ≠ [1, 0] → ty n ≠ 0 → R' n x = R n x) : ∀ n x, (hd n = 1 ∨ hd n = 17 ∨ n = [16] ∨ (hd n = 4 ∧ ∀ a, n ≠ [4, a, 7] ∧ n ≠ [4, a, 8] ∧ n ≠ [4, a, 9])) → ty n ≠ 0 → upN R' [1, 0] (R [1, 0]) n x = R n x := fun n x _ hz => by
  by_cases q : n = [1, 0]
  · rw [q, upN_self]
  · rw [upN_ne _ _ q]; exact r n x q hz
theorem CdS.n2 {ty ty' : Nm → Nat} {ln ln' : Nm → Int} {R R' : Nm → Int → Option Nm} (t : ∀ n, ty n ≠ 0 → ty' n = ty n ∧ ln' n = ln n) (r : ∀ n x, n ≠ [1, 0] → ty n ≠ 0 → R' n x = R n x) (h : CdS ty ln R) : CdS ty' ln' R' := by
  obtain ⟨s1, s2, s3, s4, s5, s6, s7, s8, s9, s10, s11, s12, s13⟩ := h.nw t (rr10 r)
  have u : ∀ {l : List Int} {y : Nm → Int}, (17 :: l : Nm) ≠ [1, 0] := fun {l _} => by simp
  have u' : ∀ l x, upN R' [1, 0] (R [1, 0]) (17 :: l) x = R' (17 :: l) x := fun l x => by rw [upN_ne _ _ (by simp)]
  simp only [u'] at s2 s3 s4 s6 s7 s12 s13
  exact ⟨s1, s2, s3, s4, s5, s6, s7, s8, s9, s10, s11, s12, s13⟩
theorem HS.n2 {ty ty' : Nm → Nat} {ln ln' : Nm → Int} {R R' : Nm → Int → Option Nm} {a : Int} (t : ∀ n, ty n ≠ 0 → ty' n = ty n ∧ ln' n = ln n) (r : ∀ n x, n ≠ [1, 0] → ty n ≠ 0 → R' n x = R n x) (h : HS ty ln R a) : HS ty' ln' R' a := by
  have g := h.nw t (rr10 r)
  have u' : ∀ l x, upN R' [1, 0] (R [1, 0]) (4 :: l) x = R' (4 :: l) x := fun l x => by rw [upN_ne _ _ (by simp)]
  unfold HS at g ⊢
  simp only [u'] at g
  exact g
theorem SG.n2 {ty ty' : Nm → Nat} {ln ln' : Nm → Int} {R R' : Nm → Int → Option Nm} {a s n l : Int} (t : ∀ n, ty n ≠ 0 → ty' n = ty n ∧ ln' n = ln n) (r : ∀ n x, n ≠ [1, 0] → ty n ≠ 0 → R' n x = R n x) (h : SG ty ln R a s n l) : SG ty' ln' R' a s n l := by
  have g := h.nw t (rr10 r)
  have u' : ∀ l x, upN R' [1, 0] (R [1, 0]) (4 :: l) x = R' (4 :: l) x := fun l x => by rw [upN_ne _ _ (by simp)]
  unfold SG at g ⊢
  simp only [u'] at g
  exact g
theorem cn3_z {J : Int → Int → Int} {a : Int} (h : ∀ x, 6 * a ≤ x → x < 6 * a + 6 → J 16 x = -1) : ∀ n : Nat, n ≤ 6 → cn3 J a n = 0
  | 0, _ => rfl
  | n + 1, hn => by
    rw [show cn3 J a (n + 1) = cn3 J a n from if_pos (by rw [h _ (by omega) (by omega)]; decide)]
    exact cn3_z h n (by omega)
theorem LV.ho {S : Int → Int} {L t a b : Int} {J : Int → Int → Int} {ty ty' : Nm → Nat} {ln ln' : Nm → Int} {I I' : Nm → Int → Int} {R R' : Nm → Int → Option Nm} {c w : Nat} (h : LV S L t J ty ln I R c w) (ht : t < 512) (ha : 0 ≤ a ∧ a ≤ 9) (hb : 1 ≤ b ∧ b ≤ 400) (hn : ¬ 0 < J 5 a) (k1 : HS ty' ln' R' a) (k2 : I' [4, a] = hI0 a b ∧ (∀ k : Int, k = 2 ∨ k = 3 ∨ k = 4 ∨ k = 7 ∨ k = 8 ∨ k = 9 → I' [4, a, k] = fun _ => 0) ∧ (∀ t : Int, 0 ≤ t → t < 10 → I' [4, a, 6] t = -1)) (k3 : ∀ k : Int, k = 7 ∨ k = 8 ∨ k = 9 → R' [4, a, k] 0 = some nE) (k4 : ∀ l : List Int, 2 ≤ l.length → (∀ t, l ≠ [5, t]) → ty' (4 :: a :: l) = 0) (k5 : ∀ n, (∀ l, n ≠ 4 :: a :: l) → ty' n = ty n ∧ ln' n = ln n ∧ I' n = I n) (k6 : ∀ n, (∀ l, n ≠ 4 :: a :: l) → n ≠ [1, 0] → R' n = R n) (k7 : R' [1, 0] = upI (R [1, 0]) a (some [4, a])) (k8 : MOk ty' ln' R') : LV S L (t + 1) (uJ (uJ (uJ J (-1) 0 0) 5 a b) 6 a 1) ty' ln' (pJ I' (uJ (uJ (uJ J (-1) 0 0) 5 a b) 6 a 1)) R' (c - 19) (w - 2073) := by
  obtain ⟨l1, l2, l3, l4, l5, ⟨x1, x2, x3, x4, x5⟩, ⟨f1, f2, f3⟩, l8, ⟨b1, b2, b3⟩⟩ := h
  obtain ⟨J', eJ⟩ : ∃ J', J' = uJ (uJ (uJ J (-1) 0 0) 5 a b) 6 a 1 := ⟨_, rfl⟩
  rw [← eJ]
  have e : ∀ k x, k ≠ -1 → k ≠ 5 → k ≠ 6 → J' k x = J k x := fun k x q1 q2 q3 => by rw [eJ, uJ_ne q3, uJ_ne q2, uJ_ne q1]
  have em : ∀ x, x ≠ 0 → J' (-1) x = J (-1) x := fun x hx => by rw [eJ, uJ_ne (by decide), uJ_ne (by decide), uJ_self, upI_ne _ _ hx]
  have e5 : ∀ x, x ≠ a → J' 5 x = J 5 x := fun x hx => by rw [eJ, uJ_ne (by decide), uJ_self, upI_ne _ _ hx, uJ_ne (by decide)]
  have e6 : ∀ x, x ≠ a → J' 6 x = J 6 x := fun x hx => by rw [eJ, uJ_self, upI_ne _ _ hx, uJ_ne (by decide), uJ_ne (by decide)]
  have e5a : J' 5 a = b := by rw [eJ, uJ_ne (by decide), uJ_self, upI_self]
  have e6a : J' 6 a = 1 := by rw [eJ, uJ_self, upI_self]
  have hJ : JI J' := by rw [eJ]; exact l1.rf.ho hb (by rw [uJ_ne (by decide)]; exact hn)
  obtain ⟨⟨n7, n8, n15⟩, n9, n16⟩ := l2 a ha.1 ha.2 hn
  have n20 : J 20 a = 0 := l1.2.1.2.2.2.2.2.2.2 a ha.1 ha.2 hn
  have n10 : ∀ x, 10 * a ≤ x → x < 10 * a + 10 → J 10 x = 0 := fun x y z => NH.st l1.1 l1.2.1 ha hn ⟨y, z⟩
  have hh : ∀ c, c ≠ a → hsJ J' c → hsJ J c := fun c hc q => by unfold hsJ at q ⊢; rw [e5 c hc] at q; exact q
  have hs : ∀ c s, sgJ J' c s → c ≠ a ∧ sgJ J c s := fun c s q => by
    have hc : c ≠ a := fun z => by
      subst z
      have q1 := q.2.1
      have q2 := q.2.2.2
      rw [e 20 _ (by decide) (by decide) (by decide), n20] at q2
      omega
    refine ⟨hc, ?_⟩
    unfold sgJ at q ⊢
    rw [e5 c hc, e 20 _ (by decide) (by decide) (by decide)] at q
    exact q
  have tt : ∀ n, ty n ≠ 0 → ty' n = ty n ∧ ln' n = ln n := fun n hz => by
    have := k5 n (fun l z => hz (by rw [z]; exact f3 a l ha.1 ha.2 hn))
    exact ⟨this.1, this.2.1⟩
  have rr : ∀ n x, n ≠ [1, 0] → ty n ≠ 0 → R' n x = R n x := fun n x hx hz => by rw [k6 n (fun l z => hz (by rw [z]; exact f3 a l ha.1 ha.2 hn)) hx]
  have ii : ∀ n x, (∀ l, n ≠ 4 :: a :: l) → I' n x = I n x := fun n x hx => by rw [(k5 n hx).2.2]
  have n4 : ∀ c l, c ≠ a → ∀ l', (4 :: c :: l : Nm) ≠ 4 :: a :: l' := fun c l hc l' z => by simp at z; exact hc z.1
  have lt := l4.lt
  have la8 : ∀ c k, c ≠ a → la R' c k = la R c k := fun c k hc => by unfold la; rw [k6 _ (n4 c _ hc) (by simp)]
  have laN : ∀ c l, c ≠ a → hsJ J c → la R c 8 ≠ 4 :: a :: l := fun c l hc q => by
    rcases (lt c q).2 with z | ⟨y, z⟩ <;> rw [z] <;> simp [nE]
  have la10 : ∀ c, hsJ J c → la R c 8 ≠ [1, 0] := fun c q => by
    rcases (lt c q).2 with z | ⟨y, z⟩ <;> rw [z] <;> simp [nE]
  have hE : ty' nE = 20 ∧ ln' nE = 0 ∧ ∀ j, R' nE j = none := by
    have := tt nE (by rw [l8.1]; decide)
    refine ⟨this.1.trans l8.1, this.2.trans l8.2.1, fun j => ?_⟩
    rw [rr nE j (by decide) (by rw [l8.1]; decide)]; exact l8.2.2 j
  have laa : ∀ k : Int, k = 7 ∨ k = 8 ∨ k = 9 → la R' a k = nE := fun k hk => by unfold la; rw [k3 k hk]; rfl
  have hC : RC J' I' ty' ln' I' R' := by
    obtain ⟨⟨g1, g2, ⟨v1, v2, v3⟩, g4, g5, g6, g7, g8⟩, h2, h3, h4, h5, h6, h7, h8, h9⟩ := l3
    refine ⟨⟨g1.n2 tt rr, g2.n2 tt rr, ⟨fun x x0 x1 => ?_, fun x x0 x1 => ?_, fun j x j0 j1 x0 x1 => ?_⟩, ?_, ?_, fun x x0 x1 => ?_, fun c c0 c1 => ?_, ?_⟩, fun c hc => ?_, fun c hc => ?_, fun c hc => ?_, fun c s hc => ?_, fun c s hc => ?_, fun n x k y hl => ?_, fun c t hc t0 t1 => ?_, fun _ _ _ => rfl⟩
    · rw [ii _ _ (by simp)]; exact v1 x x0 x1
    · rw [ii _ _ (by simp)]; exact v2 x x0 x1
    · rw [ii _ _ (by simp)]; exact v3 j x j0 j1 x0 x1
    · rw [ii _ _ (by simp), ii _ _ (by simp), ii _ _ (by simp), em 2 (by decide), em 3 (by decide)]; exact g4
    · rw [ii _ _ (by simp), ii _ _ (by simp), ii _ _ (by simp), em 35 (by decide), em 4 (by decide), em 1 (by decide)]; exact g5
    · rw [em 35 (by decide)] at x1
      rw [ii _ _ (by simp), e 36 _ (by decide) (by decide) (by decide)]; exact g6 x x0 x1
    · rw [k7]
      by_cases q : c = a
      · rw [q, upI_self, e5a, if_pos (by omega)]
      · rw [upI_ne _ _ q, e5 c q]; exact g7 c c0 c1
    · rw [em 2 (by decide), em 3 (by decide), em 35 (by decide), em 4 (by decide), em 1 (by decide)]; exact g8
    · by_cases q : c = a
      · rw [q]; exact k1
      · exact (h2 c (hh c q hc)).n2 tt rr
    · by_cases q : c = a
      · rw [q, k2.1]; rfl
      · rw [ii _ _ (n4 c _ q)]; exact h3 c (hh c q hc)
    · by_cases q : c = a
      · subst q
        rw [k2.2.1 8 (by decide), e 20 _ (by decide) (by decide) (by decide), n20]
        refine ⟨rfl, by decide, by decide, ?_⟩
        unfold LsR
        rw [laa 8 (by decide), hE.2.1]
        exact ⟨k3 8 (by decide), fun z => absurd z (by decide), Int.le_refl _⟩
      · obtain ⟨y1, y2, y3, y4, y5, y6⟩ := h4 c (hh c q hc)
        have hz := (lt c (hh c q hc)).1
        rw [ii _ _ (n4 c _ q), e 20 _ (by decide) (by decide) (by decide)]
        refine ⟨y1, y2, y3, ?_, ?_, ?_⟩
        · rw [la8 c 8 q, k6 _ (n4 c _ q) (by simp)]; exact y4
        · rw [la8 c 8 q, (tt _ hz).1]; exact y5
        · rw [la8 c 8 q, (tt _ hz).2]; exact y6
    · obtain ⟨q, hc'⟩ := hs c s hc
      rw [la8 c 8 q, k6 _ (fun l => laN c l q hc'.1) (la10 c hc'.1)]; exact h5 c s hc'
    · obtain ⟨q, hc'⟩ := hs c s hc
      rw [em 2 (by decide), em 3 (by decide)]; exact (h6 c s hc').n2 tt rr
    · have old : ∀ c l, c ≠ a → n = 4 :: c :: l → LK J n x k y → J' k y = J k y → I' n x = J' k y := fun c l hc en hl' ek => by
        rw [ek, en, ii _ _ (n4 c l hc), ← en]; exact h7 n x k y hl'
      unfold LK at hl
      rcases hl with ⟨c, q1, rfl, q3, q4⟩ | ⟨c, b', q1, rfl, q3, q4, q5, q6⟩ | ⟨c, u, q1, rfl, q3, q4, q5, q6⟩ | ⟨c, s, q1, rfl, q3, q4⟩ | ⟨c, s, b', q1, rfl, q3, q4, q5, q6⟩ | ⟨c, s, j, q1, rfl, q3, q4⟩ | ⟨c, s, j, q1, rfl, q3, q4, q5⟩ | ⟨c, s, j, q1, rfl, q3, q4, q5⟩
      · by_cases q : c = a
        · subst q
          rw [k2.1, q3]
          rcases q4 with ⟨rfl, rfl⟩ | ⟨rfl, rfl⟩ | ⟨rfl, rfl⟩ | ⟨rfl, rfl⟩
          · rw [e5a]; rfl
          · rw [e6a]; rfl
          · rw [e 7 _ (by decide) (by decide) (by decide), n7]; rfl
          · rw [e 8 _ (by decide) (by decide) (by decide), n8]; rfl
        · refine old c [] q rfl (Or.inl ⟨c, hh c q q1, rfl, q3, q4⟩) ?_
          rw [q3]
          rcases q4 with ⟨rfl, rfl⟩ | ⟨rfl, rfl⟩ | ⟨rfl, rfl⟩ | ⟨rfl, rfl⟩
          · exact e5 c q
          · exact e6 c q
          · exact e 7 _ (by decide) (by decide) (by decide)
          · exact e 8 _ (by decide) (by decide) (by decide)
      · by_cases q : c = a
        · subst q
          have : b' = 2 ∨ b' = 3 ∨ b' = 4 := by omega
          rw [k2.2.1 b' (by omega), q5, q6, e _ _ (by omega) (by omega) (by omega)]
          have z9 := n9 (10 * c + x) (by omega) (by omega)
          have z10 := n10 (10 * c + x) (by omega) (by omega)
          rcases this with rfl | rfl | rfl
          · exact z9.1.symm
          · exact z10.symm
          · exact z9.2.1.symm
        · exact old c [b'] q rfl (Or.inr (Or.inl ⟨c, b', hh c q q1, rfl, q3, q4, q5, q6⟩)) (e _ _ (by omega) (by omega) (by omega))
      · rw [e 12 _ (by decide) (by decide) (by decide), e 13 _ (by decide) (by decide) (by decide)] at q4
        by_cases q : c = a
        · subst q
          exact absurd (n9 (10 * c + u) (by omega) (by omega)).2.2 q4.2.2.2
        · exact old c [5, u] q rfl (Or.inr (Or.inr (Or.inl ⟨c, u, hh c q q1, rfl, q3, q4, q5, q6⟩))) (e _ _ (by omega) (by omega) (by omega))
      · obtain ⟨q, hc'⟩ := hs c s q1
        exact old c [8, s] q rfl (Or.inr (Or.inr (Or.inr (Or.inl ⟨c, s, hc', rfl, q3, q4⟩)))) (e _ _ (by omega) (by omega) (by omega))
      · obtain ⟨q, hc'⟩ := hs c s q1
        exact old c [8, s, b'] q rfl (Or.inr (Or.inr (Or.inr (Or.inr (Or.inl ⟨c, s, b', hc', rfl, q3, q4, q5, q6⟩))))) (e _ _ (by omega) (by omega) (by omega))
      · obtain ⟨q, hc'⟩ := hs c s q1.1
        have q2 := q1.2
        rw [em 3 (by decide)] at q2
        exact old c [8, s, 3, j] q rfl (Or.inr (Or.inr (Or.inr (Or.inr (Or.inr (Or.inl ⟨c, s, j, ⟨hc', q2⟩, rfl, q3, q4⟩)))))) (e _ _ (by omega) (by omega) (by omega))
      · obtain ⟨q, hc'⟩ := hs c s q1.1
        have q2 := q1.2
        rw [em 3 (by decide)] at q2
        rw [em 2 (by decide)] at q3
        exact old c [8, s, 3, j, 0] q rfl (Or.inr (Or.inr (Or.inr (Or.inr (Or.inr (Or.inr (Or.inl ⟨c, s, j, ⟨hc', q2⟩, rfl, q3, q4, q5⟩))))))) (e _ _ (by omega) (by omega) (by omega))
      · obtain ⟨q, hc'⟩ := hs c s q1.1
        have q2 := q1.2
        rw [em 3 (by decide)] at q2
        exact old c [8, s, 3, j, 1] q rfl (Or.inr (Or.inr (Or.inr (Or.inr (Or.inr (Or.inr (Or.inr ⟨c, s, j, ⟨hc', q2⟩, rfl, q3, q4, q5⟩))))))) (e _ _ (by omega) (by omega) (by omega))
    · rw [e 12 _ (by decide) (by decide) (by decide), e 13 _ (by decide) (by decide) (by decide)]
      by_cases q : c = a
      · subst q
        rw [k2.2.2 t t0 (by omega), if_pos (n9 (10 * c + t) (by omega) (by omega)).2.2]
      · rw [ii _ _ (n4 c _ q)]; exact h8 c t (hh c q hc) t0 t1
  have lq : ∀ k : Int, k = 7 ∨ k = 8 ∨ k = 9 → LQ ty' ln' I' R' [4, a, k] nE 0 := fun k hk => by
    refine ⟨⟨?_, rfl⟩, k3 k hk, ?_, ⟨Int.le_refl _, by rw [hE.2.1]; decide, by rw [hE.2.1]; decide⟩, Or.inl ⟨rfl, hE.2.1, hE.1⟩, fun j y hy => ?_⟩
    · obtain ⟨z1, z2, z3, z4, z5, z6, z7, z8, z9, z10⟩ := k1
      rcases hk with rfl | rfl | rfl
      · exact z8.2
      · exact z9.2
      · exact z10.2
    · rw [k2.2.1 k (by omega)]
    · rw [hE.2.2 j] at hy; cases hy
  have hL : RLs J' I' ty' ln' R' := by
    intro c hc
    by_cases q : c = a
    · subst q
      have m16 : ∀ x, 6 * c ≤ x → x < 6 * c + 6 → J' 16 x = -1 := fun x y z => by rw [e 16 _ (by decide) (by decide) (by decide)]; exact n16 x y z
      refine ⟨[], ?_, fun i f hf => ?_, fun f hf => ?_, ⟨List.Pairwise.nil, fun f hf => ?_, fun k i hk => ?_, fun f hf => ?_⟩, ?_, fun n y z => ?_, fun n n' y z z' => ?_, ?_, fun s s0 s1 => ?_, ⟨fun k hk => ?_, fun k k' hk hk' z => ?_, fun k t hk _ z => ?_⟩, ?_, ⟨Or.inl (laa 7 (by decide)), Or.inl (laa 8 (by decide)), Or.inl (laa 9 (by decide))⟩, ⟨fun _ => laa 7 (by decide), fun _ => laa 7 (by decide), fun _ => laa 8 (by decide)⟩⟩
      · rw [laa 7 (by decide)]; exact lq 7 (by decide)
      · simp at hf
      · cases hf
      · cases hf
      · have := m16 (6 * c + k) (by omega) (by have := hk.1; omega)
        rcases hk.2.1 with z | z <;> omega
      · cases hf
      · rw [laa 9 (by decide), e 15 _ (by decide) (by decide) (by decide), n15]; exact lq 9 (by decide)
      · rw [e 15 _ (by decide) (by decide) (by decide), n15] at z; omega
      · rw [e 15 _ (by decide) (by decide) (by decide), n15] at z'; omega
      · rw [k2.1, cn3_z m16 6 (Nat.le_refl _)]; rfl
      · rw [e 20 _ (by decide) (by decide) (by decide), n20] at s1; omega
      · right; rw [m16 _ (by omega) (by omega)]; decide
      · rw [m16 _ (by omega) (by omega)] at z; omega
      · rw [m16 _ (by omega) (by omega)] at z; omega
      · rw [laa 8 (by decide), e 20 _ (by decide) (by decide) (by decide), n20]; exact lq 8 (by decide)
    · have hc' := hh c q hc
      obtain ⟨Lc, hLc⟩ := l4 c hc'
      refine ⟨Lc, hLc.cg ⟨tt, fun n x hn _ _ => ii n x (fun l z => ?_), fun n x hn hz => rr n x (fun z => ?_) hz⟩ (JB.same (fun k x hk => e k x (by omega) (by omega) (by omega))) hc'.1.1 (fun s s0 s1 => ?_) (by rw [(l3.hs c hc').1]; decide) l1.1.1⟩
      · rcases hn with ⟨y, hy⟩ | ⟨l', hy⟩
        · rw [hy] at z; simp at z
        · rw [hy] at z; simp at z; exact q z.1
      · rcases hn with ⟨y, hy⟩ | ⟨l', hy⟩ | hy
        · rw [hy] at z; simp at z
        · rw [hy] at z; simp at z
        · rw [hy] at z; simp [nE] at z
      · have := l1.1.1.k20 c
        rw [(l3.sg c s ⟨hc', s0, by omega, s1⟩).1]; decide
  have nh : NH J' := fun c c0 c1 hc => by
    have q : c ≠ a := fun q => by rw [q, e5a] at hc; omega
    rw [e5 c q] at hc
    obtain ⟨y1, y2, y3⟩ := l2 c c0 c1 hc
    exact ⟨by rw [e 7 _ (by decide) (by decide) (by decide), e 8 _ (by decide) (by decide) (by decide), e 15 _ (by decide) (by decide) (by decide)]; exact y1, fun x x0 x1 => by rw [e 9 _ (by decide) (by decide) (by decide), e 11 _ (by decide) (by decide) (by decide), e 12 _ (by decide) (by decide) (by decide)]; exact y2 x x0 x1, fun x x0 x1 => by rw [e 16 _ (by decide) (by decide) (by decide)]; exact y3 x x0 x1⟩
  have ip : ∀ n x, hd n ≠ 2 → hd n ≠ 3 → hd n ≠ 18 → pJ I' J' n x = I' n x := fun n x h2 h3 _ => by rw [pJ_o h2 h3]
  have t18 := tt [18] (by rw [x1.1]; decide)
  have ts := tt [-3] (by rw [x2.1]; decide)
  refine ⟨hJ, nh, hC.ee ip, hL.go hC hJ.1.1 (fun n x hn _ => ip n x (by omega) (by omega) (by omega)) (fun _ _ _ => rfl), k8, ⟨by rw [t18.1, t18.2]; exact x1, by rw [ts.1, ts.2]; exact x2, fun x => ?_, pJ_m, fun k hk => pJ_a hk⟩, ⟨fun c q hq => ?_, fun c s u hc hs' => ?_, fun c l c0 c1 hc => ?_⟩, hE, fun c c0 c1 => ?_, ?_, ?_⟩
  · rw [pJ_o (by decide) (by decide), ii _ _ (by simp)]; exact x3 x
  · rw [(k5 _ (by simp)).1]; exact f1 c q (by omega)
  · by_cases q : c = a
    · subst q; exact k4 _ (by simp) (by simp)
    · rw [(k5 _ (n4 c _ q)).1]
      rw [e 20 _ (by decide) (by decide) (by decide)] at hs'
      exact f2 c s u (hh c q hc) hs'
  · have q : c ≠ a := fun q => by rw [q, e5a] at hc; omega
    rw [(k5 _ (n4 c _ q)).1]
    rw [e5 c q] at hc
    exact f3 c l c0 c1 hc
  · have := b1 c c0 c1
    rw [s10_eq (f := fun x => J 13 (10 * c + x)) (fun x _ _ => e 13 _ (by decide) (by decide) (by decide))]
    omega
  · have q := s10_one (f := hcB J) (g := hcB J') ha (fun c _ _ hc => by unfold hcB; rw [e5 c hc, e 20 _ (by decide) (by decide) (by decide)])
    have q1 : hcB J a = 1659 := if_neg hn
    have q2 : hcB J' a = 41 * (40 - J' 20 a) := if_pos (by rw [e5a]; omega)
    rw [e 20 _ (by decide) (by decide) (by decide), n20] at q2
    have := bC_s ht
    have := s10_ge (f := hcB J) (fun a _ _ => hcB_0 l1.1.1 a) ha
    omega
  · have q := s10_one (f := hwB J ln R) (g := hwB J' ln' R') ha (fun c c0 c1 hc => by
      unfold hwB
      rw [e5 c hc, e 20 _ (by decide) (by decide) (by decide)]
      by_cases q : 0 < J 5 c
      · rw [if_pos q, if_pos q]
        obtain ⟨Lb, hLb⟩ := l4 c ⟨⟨c0, c1⟩, q⟩
        have g : ∀ k n, LQ ty ln I R [4, c, k] (la R c k) n → ln' (la R' c k) = ln (la R c k) := fun k n z => by
          rw [la8 c k hc]
          exact (tt _ (rw12_ty (a := c) z)).2
        unfold ro3
        rw [g 7 _ hLb.1, g 8 _ hLb.2.2.2.2.2.2.2.2.2.2.1, g 9 _ hLb.2.2.2.2.1]
      · rw [if_neg q, if_neg q])
    have q1 : hwB J ln R a = 73753 := if_neg hn
    have q2 : hwB J' ln' R' a = 706 * (40 - J' 20 a) + 4 * (10860 - ro3 ln' R' a) := if_pos (by rw [e5a]; omega)
    have q3 : ro3 ln' R' a = 0 := by unfold ro3; rw [laa 7 (by decide), laa 8 (by decide), laa 9 (by decide), hE.2.1]; rfl
    rw [e 20 _ (by decide) (by decide) (by decide), n20, q3] at q2
    have := s10_ge (f := hwB J ln R) (fun a a0 a1 => hwB_0 l1.1.1 l4 ⟨a0, a1⟩) ha
    unfold bW at b3 ⊢
    omega
