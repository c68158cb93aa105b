/-! ===== what a house keeps is what lies with it ===== -/
def sm (f : Nat → Int) : Nat → Int
  | 0 => 0
  | n + 1 => sm f n + f n
theorem sm_ext {f g : Nat → Int} : ∀ n : Nat, (∀ i, i < n → f i = g i) → sm f n = sm g n
  | 0, _ => rfl
  | n + 1, h => by
    show sm f n + f n = sm g n + g n
    rw [sm_ext n (fun i hi => h i (by omega)), h n (by omega)]
theorem sm_upd {f g : Nat → Int} {x : Nat} : ∀ n : Nat, x < n → (∀ i, i < n → i ≠ x → f i = g i) → sm f n = sm g n + (f x - g x)
  | n + 1, hx, h => by
    show sm f n + f n = sm g n + g n + (f x - g x)
    by_cases q : x = n
    · subst q
      rw [sm_ext (g := g) x (fun i hi => h i (by omega) (by omega))]
      omega
    · rw [sm_upd n (by omega) (fun i hi hne => h i (by omega) hne), h n (by omega) (fun e => q e.symm)]
      omega
theorem sm_le {f : Nat → Int} (h : ∀ i, 0 ≤ f i) : ∀ n : Nat, 0 ≤ sm f n ∧ ∀ x, x < n → f x ≤ sm f n
  | 0 => ⟨Int.le_refl _, fun x hx => absurd hx (Nat.not_lt_zero x)⟩
  | n + 1 => by
    obtain ⟨a, b⟩ := sm_le h n
    have hn := h n
    refine ⟨by show 0 ≤ sm f n + f n; omega, fun x hx => ?_⟩
    show f x ≤ sm f n + f n
    by_cases q : x = n
    · subst q; omega
    · have := b x (by omega); omega
/-- whether the piece p lies with the house k -/
def tk (J : Int → Int → Int) (k p : Int) : Int := if J 25 p = k ∧ J 26 p ≠ 0 then 1 else 0
theorem tk_r {J : Int → Int → Int} {k p : Int} : 0 ≤ tk J k p ∧ tk J k p ≤ 1 := by
  unfold tk
  split <;> omega
def cnt (J : Int → Int → Int) (k o : Int) : Int := sm (fun i => tk J k (480 * o + i)) 480
def CI (J : Int → Int → Int) : Prop := ∀ k o : Int, 0 ≤ k → k ≤ 9 → 0 ≤ o → o ≤ 9 → J 10 (10 * k + o) = cnt J k o
theorem tk_ext {J J' : Int → Int → Int} {k p : Int} (h : J' 25 p = J 25 p) (h2 : J' 26 p = J 26 p) : tk J' k p = tk J k p := by
  unfold tk
  rw [h, h2]
theorem cnt_ext {J J' : Int → Int → Int} {k o : Int} (h : ∀ p, 480 * o ≤ p → p < 480 * o + 480 → J' 25 p = J 25 p ∧ J' 26 p = J 26 p) : cnt J' k o = cnt J k o :=
  sm_ext 480 (fun i hi => by
    obtain ⟨a, b⟩ := h (480 * o + i) (by omega) (by omega)
    exact tk_ext a b)
theorem cnt_upd {J J' : Int → Int → Int} {k o p : Int} (hp : 480 * o ≤ p ∧ p < 480 * o + 480) (h : ∀ q, q ≠ p → J' 25 q = J 25 q ∧ J' 26 q = J 26 q) : cnt J' k o = cnt J k o + (tk J' k p - tk J k p) := by
  have := sm_upd (f := fun i : Nat => tk J' k (480 * o + i)) (g := fun i : Nat => tk J k (480 * o + i)) (x := (p - 480 * o).toNat) 480 (by omega) (fun i hi hne => by
    obtain ⟨a, b⟩ := h (480 * o + i) (by omega)
    exact tk_ext a b)
  rw [show 480 * o + (((p - 480 * o).toNat : Nat) : Int) = p by omega] at this
  exact this
/-- words other than those of book, there and kept don't matter -/
theorem CI.keep {J J' : Int → Int → Int} (h : CI J) (e10 : ∀ x, 0 ≤ x → x < 100 → J' 10 x = J 10 x) (e : ∀ p, J' 25 p = J 25 p ∧ J' 26 p = J 26 p) : CI J' := fun k o a b c d => by
  rw [e10 _ (by omega) (by omega), h k o a b c d]
  exact (cnt_ext (fun p _ _ => e p)).symm
/-- one piece and the number of its house's pieces change together -/
theorem CI.one {J J' : Int → Int → Int} {k0 o p : Int} (h : CI J) (ho : 0 ≤ o ∧ o ≤ 9) (hp : 480 * o ≤ p ∧ p < 480 * o + 480) (h25 : ∀ q, q ≠ p → J' 25 q = J 25 q ∧ J' 26 q = J 26 q) (hk : 0 ≤ k0 ∧ k0 ≤ 9) (e10 : J' 10 (10 * k0 + o) = J 10 (10 * k0 + o) + (tk J' k0 p - tk J k0 p)) (e10' : ∀ x, x ≠ 10 * k0 + o → J' 10 x = J 10 x) (et : ∀ k, 0 ≤ k → k ≠ k0 → tk J' k p = tk J k p) : CI J' := fun k o' a b c d => by
  by_cases q1 : o' = o
  · subst q1
    rw [cnt_upd hp h25]
    by_cases q2 : k = k0
    · subst q2
      rw [e10, h k o' a b c d]
    · rw [e10' _ (by omega), et k a q2, h k o' a b c d]
      omega
  · rw [e10' _ (by omega), h k o' a b c d]
    exact (cnt_ext (fun p' x y => h25 p' (fun e => q1 (by omega)))).symm
theorem CI.ge {J : Int → Int → Int} {k o p : Int} (h : CI J) (hk : 0 ≤ k ∧ k ≤ 9) (ho : 0 ≤ o ∧ o ≤ 9) (hp : 480 * o ≤ p ∧ p < 480 * o + 480) (hb : J 25 p = k) (ht : J 26 p ≠ 0) : 1 ≤ J 10 (10 * k + o) := by
  rw [h k o hk.1 hk.2 ho.1 ho.2]
  have := (sm_le (f := fun i : Nat => tk J k (480 * o + i)) (fun i => tk_r.1) 480).2 (p - 480 * o).toNat (by omega)
  rw [show tk J k (480 * o + (((p - 480 * o).toNat : Nat) : Int)) = 1 by rw [show 480 * o + (((p - 480 * o).toNat : Nat) : Int) = p by omega]; exact if_pos ⟨hb, ht⟩] at this
  exact this
/-- all that is said of the reference's words at all times -/
def GI (J : Int → Int → Int) : Prop := MR J ∧ SC J ∧ CI J
theorem loseJ_g {J : Int → Int → Int} {a p : Int} (h : GI J) (ha : 0 ≤ a ∧ a ≤ 9) (hp : 480 * a ≤ p ∧ p < 480 * a + 480) : GI (loseJ J a p) ∧ (∀ k x, k ≠ 26 → k ≠ 10 → loseJ J a p k x = J k x) ∧ (∀ x, x ≠ p → loseJ J a p 26 x = J 26 x) ∧ (0 ≤ J 25 p → loseJ J a p 26 p = 0) := by
  obtain ⟨h1, h2, h3⟩ := h
  have b := h1.k25 p
  unfold loseJ
  by_cases q : 0 ≤ J 25 p ∧ J 26 p ≠ 0
  · rw [if_pos q]
    have g := h3.ge (k := J 25 p) ⟨q.1, b.2⟩ ha hp rfl q.2
    have g2 := h1.k10 (10 * J 25 p + a)
    refine ⟨⟨(h1.u (Or.inr ⟨by decide, by decide⟩)).u (Or.inr ⟨by show (0 : Int) ≤ _; omega, by show _ ≤ (100 : Int); omega⟩), (h2.u (Or.inl (by decide))).u (Or.inl (by decide)), ?_⟩, fun k x k1 k2 => by rw [uJ_ne k2, uJ_ne k1], fun x hx => by rw [uJ_ne (by decide), uJ_self, upI_ne _ _ hx], fun _ => by rw [uJ_ne (by decide), uJ_self, upI_self]⟩
    have z25 : ∀ q', uJ (uJ J 26 p 0) 10 (10 * J 25 p + a) (J 10 (10 * J 25 p + a) - 1) 25 q' = J 25 q' := fun q' => by rw [uJ_ne (by decide), uJ_ne (by decide)]
    have z26 : uJ (uJ J 26 p 0) 10 (10 * J 25 p + a) (J 10 (10 * J 25 p + a) - 1) 26 p = 0 := by rw [uJ_ne (by decide), uJ_self, upI_self]
    refine h3.one (k0 := J 25 p) ha hp (fun q' hq' => ⟨z25 q', by rw [uJ_ne (by decide), uJ_self, upI_ne _ _ hq']⟩) ⟨q.1, b.2⟩ ?_ (fun x hx => by rw [uJ_self, upI_ne _ _ hx, uJ_ne (by decide)]) (fun k k0 hk => ?_)
    · rw [uJ_self, upI_self]
      unfold tk
      rw [z25, z26, if_neg (fun z => z.2 rfl), if_pos ⟨rfl, q.2⟩]
      omega
    · unfold tk
      rw [z25, z26, if_neg (fun z => z.2 rfl), if_neg (fun z => hk z.1.symm)]
  · rw [if_neg q]
    refine ⟨⟨h1, h2, h3⟩, fun _ _ _ _ => rfl, fun _ _ => rfl, fun h0 => ?_⟩
    by_cases z : J 26 p = 0
    · exact z
    · exact absurd ⟨h0, z⟩ q
theorem plJ_g {J : Int → Int → Int} {a s j : Int} (h : GI J) (ha : 0 ≤ a ∧ a ≤ 9) (hp : 480 * a ≤ 12 * s + j ∧ 12 * s + j < 480 * a + 480) (hb : J 25 (12 * s + j) < 0) : GI (plJ J a s j) := by
  obtain ⟨h1, h2, h3⟩ := h
  refine ⟨plJ_r h1 h2, h2.m plJ_m, ?_⟩
  unfold plJ
  by_cases q : bestJ J a s 10 < 0
  · rw [if_pos q]; exact h3
  · rw [if_neg q]
    have br := bestJ_r (J := J) (a := a) (s := s) 10
    obtain ⟨b, eb⟩ : ∃ b, b = bestJ J a s 10 := ⟨_, rfl⟩
    rw [← eb] at br q ⊢
    have z25 : ∀ x, x ≠ 12 * s + j → putP J a s j b 25 x = J 25 x := fun x hx => by
      unfold putP
      rw [uJ_ne (by decide), uJ_ne (by decide), uJ_ne (by decide), uJ_self, upI_ne _ _ hx, uJ_ne (by decide), wJ_ne (by decide), wJ_ne (by decide), mpJ_o (by decide)]
    have z26 : ∀ x, x ≠ 12 * s + j → putP J a s j b 26 x = J 26 x := fun x hx => by
      unfold putP
      rw [uJ_ne (by decide), uJ_ne (by decide), uJ_self, upI_ne _ _ hx, uJ_ne (by decide), uJ_ne (by decide), wJ_ne (by decide), wJ_ne (by decide), mpJ_o (by decide)]
    have y25 : putP J a s j b 25 (12 * s + j) = b := by
      unfold putP
      rw [uJ_ne (by decide), uJ_ne (by decide), uJ_ne (by decide), uJ_self, upI_self]
    have y26 : putP J a s j b 26 (12 * s + j) = 1 := by
      unfold putP
      rw [uJ_ne (by decide), uJ_ne (by decide), uJ_self, upI_self]
    refine h3.one (k0 := b) ha hp (fun x hx => ⟨z25 x hx, z26 x hx⟩) ⟨by omega, by omega⟩ ?_ (fun x hx => ?_) (fun k k0 hk => ?_)
    · have : putP J a s j b 10 (10 * b + a) = J 10 (10 * b + a) + 1 := by
        unfold putP
        rw [uJ_ne (by decide), uJ_self, upI_self]
      rw [this]
      unfold tk
      rw [y25, y26, if_pos ⟨rfl, by decide⟩, if_neg (fun z => by omega)]
      omega
    · unfold putP
      rw [uJ_ne (by decide), uJ_self, upI_ne _ _ hx, uJ_ne (by decide), uJ_ne (by decide), uJ_ne (by decide), wJ_ne (by decide), wJ_ne (by decide), mpJ_o (by decide)]
    · unfold tk
      rw [y25, y26, if_neg (fun z => hk z.1.symm), if_neg (fun z => by omega)]
