/-! ===== the reference: seal ===== -/
/-- the chunk of file f from fr on: its place, and the words then -/
def chJ (J : Int → Int → Int) (a sl f fr : Int) : Int × (Int → Int → Int) := if 0 ≤ fcJ J a sl f fr (ceJ J f fr - fr) 6 then (fcJ J a sl f fr (ceJ J f fr - fr) 6, J) else ptJ J a f fr (ceJ J f fr - fr)
/-- that chunk is the c-th of its slot, and one more of file t -/
def nxJ (J : Int → Int → Int) (a sl t f fr c : Int) : Int → Int → Int := uJ (uJ (uJ (chJ J a sl f fr).2 18 c (chJ J a sl f fr).1) 19 c (ceJ J f fr - fr)) 17 (10 * sl + t) ((chJ J a sl f fr).2 17 (10 * sl + t) + 1)
/-- the chunks of file t of house a, at most n of them: whether all have a place, the number of the next, the words -/
def fiL (a sl t : Int) : Nat → Int → Int → (Int → Int → Int) → Int × Int × (Int → Int → Int)
  | 0, c, _, J => (1, c, J)
  | n + 1, c, fr, J => if J 13 (10 * a + t) ≤ fr then (1, c, J) else if (chJ J a sl (10 * a + t) fr).1 < 0 then (0, c, (chJ J a sl (10 * a + t) fr).2) else fiL a sl t n (c + 1) (ceJ J (10 * a + t) fr) (nxJ J a sl t (10 * a + t) fr c)
theorem fcJ_pl {J : Int → Int → Int} {a sl f fr z : Int} (h : MR J) (hP : PL J) : ∀ q : Nat, -1 ≤ fcJ J a sl f fr z q ∧ (0 ≤ fcJ J a sl f fr z q → fcJ J a sl f fr z q + z ≤ 24000 ∧ fcJ J a sl f fr z q ≤ 23999)
  | 0 => ⟨Int.le_refl _, fun u => absurd u (by show ¬ (0 : Int) ≤ -1; decide)⟩
  | q + 1 => by
    have fi : ∀ (s : Int) (q : Nat), 0 ≤ fiJ J s f fr z q → fiJ J s f fr z q + z ≤ 24000 ∧ fiJ J s f fr z q ≤ 23999 := by
      intro s q
      induction q with
      | zero => exact fun u => absurd u (by show ¬ (0 : Int) ≤ -1; decide)
      | succ q ih =>
        by_cases c : isC J (500 * s + (alJ J s 10 - (q + 1))) f fr z
        · rw [show fiJ J s f fr z (q + 1) = J 18 (500 * s + (alJ J s 10 - (q + 1))) from if_pos c]
          have := hP (500 * s + (alJ J s 10 - (q + 1)))
          rw [c.1] at this
          exact fun _ => ⟨this, (h.k18 _).2⟩
        · rw [show fiJ J s f fr z (q + 1) = fiJ J s f fr z q from if_neg c]
          exact ih
    by_cases c : (0 ≤ J 16 (6 * a + (6 - ((q : Int) + 1))) ∨ 6 * a + (6 - ((q : Int) + 1)) = sl) ∧ 0 ≤ fiJ J (6 * a + (6 - ((q : Int) + 1))) f fr z (alJ J (6 * a + (6 - ((q : Int) + 1))) 10).toNat
    · rw [show fcJ J a sl f fr z (q + 1) = fiJ J (6 * a + (6 - ((q : Int) + 1))) f fr z (alJ J (6 * a + (6 - ((q : Int) + 1))) 10).toNat from if_pos c]
      exact ⟨by omega, fi _ _⟩
    · rw [show fcJ J a sl f fr z (q + 1) = fcJ J a sl f fr z q from if_neg c]
      exact fcJ_pl h hP q
theorem ceJ_r {J : Int → Int → Int} {f fr : Int} (h : 0 ≤ fr ∧ fr < J 13 f) : fr < ceJ J f fr ∧ ceJ J f fr ≤ J 13 f ∧ ceJ J f fr ≤ fr + 16 ∧ (ceJ J f fr < J 13 f → 4 ≤ ceJ J f fr - fr) := by
  unfold ceJ
  have := ceR_r (f := fun x => J 14 (200 * f + x)) (n := J 13 f) (fr := fr) (J 13 f - fr).toNat (by omega) (by omega)
  omega
theorem chJ_i {J : Int → Int → Int} {a sl f fr : Int} (h : SI J a) (ha : 0 ≤ a ∧ a ≤ 9) (hf : 0 ≤ fr ∧ fr < J 13 f) : SI (chJ J a sl f fr).2 a ∧ -1 ≤ (chJ J a sl f fr).1 ∧ (chJ J a sl f fr).1 ≤ 23999 ∧ (chJ J a sl f fr).1 + (ceJ J f fr - fr) ≤ 24000 ∧ J 20 a ≤ (chJ J a sl f fr).2 20 a := by
  have ce := ceJ_r hf
  unfold chJ
  by_cases q : 0 ≤ fcJ J a sl f fr (ceJ J f fr - fr) 6
  · rw [if_pos q]
    obtain ⟨p1, p2⟩ := fcJ_pl (a := a) (sl := sl) (f := f) (fr := fr) (z := ceJ J f fr - fr) h.1 h.2.1 6
    obtain ⟨p3, p4⟩ := p2 q
    exact ⟨h, p1, p4, p3, Int.le_refl _⟩
  · rw [if_neg q]
    obtain ⟨p1, p2, p3, p4, p5⟩ := ptJ_i (f := f) (fr := fr) (z := ceJ J f fr - fr) h ha (by omega)
    exact ⟨p1, p2, by omega, p3, p5⟩
theorem chJ_o {J : Int → Int → Int} {a sl f fr k x : Int} (h : k ≠ -1 ∧ k ≠ 20 ∧ k ≠ 21 ∧ k ≠ 22 ∧ k ≠ 23) : (chJ J a sl f fr).2 k x = J k x := by
  unfold chJ
  split
  · rfl
  · exact ptJ_o h
theorem chJ_m {J : Int → Int → Int} {a sl f fr x : Int} (h : x ≠ 30) : (chJ J a sl f fr).2 (-1) x = J (-1) x := by
  unfold chJ
  split
  · rfl
  · exact ptJ_m h
/-- how far the chunks of file t are, when those before fr are done -/
def FI (J : Int → Int → Int) (a sl t c fr : Int) : Prop := SI J a ∧ (0 ≤ fr ∧ fr ≤ J 13 (10 * a + t)) ∧ (fr < J 13 (10 * a + t) → 4 * J 17 (10 * sl + t) ≤ fr) ∧ 0 ≤ J 17 (10 * sl + t) ∧ 500 * sl ≤ c ∧ c ≤ 500 * sl + 50 * t + J 17 (10 * sl + t)
theorem nxJ_i {J : Int → Int → Int} {a sl t c fr : Int} (h : FI J a sl t c fr) (ha : 0 ≤ a ∧ a ≤ 9) (hf : fr < J 13 (10 * a + t)) (hp : 0 ≤ (chJ J a sl (10 * a + t) fr).1) : FI (nxJ J a sl t (10 * a + t) fr c) a sl t (c + 1) (ceJ J (10 * a + t) fr) ∧ (∀ k x, k ≠ -1 → k ≠ 17 → k ≠ 18 → k ≠ 19 → k ≠ 20 → k ≠ 21 → k ≠ 22 → k ≠ 23 → nxJ J a sl t (10 * a + t) fr c k x = J k x) ∧ (∀ x, x ≠ 30 → nxJ J a sl t (10 * a + t) fr c (-1) x = J (-1) x) ∧ (∀ x, x ≠ 10 * sl + t → nxJ J a sl t (10 * a + t) fr c 17 x = J 17 x) ∧ J 20 a ≤ nxJ J a sl t (10 * a + t) fr c 20 a := by
  obtain ⟨h1, h2, h3, h4, h5, h6⟩ := h
  have h3 := h3 hf
  obtain ⟨⟨g1, g2, g3, g4⟩, c1, c2, c3, c4⟩ := chJ_i (sl := sl) (f := 10 * a + t) h1 ha ⟨h2.1, hf⟩
  have ce := ceJ_r (J := J) (f := 10 * a + t) ⟨h2.1, hf⟩
  have s13 := h1.1.k13 (10 * a + t)
  have e17 : (chJ J a sl (10 * a + t) fr).2 17 (10 * sl + t) = J 17 (10 * sl + t) := chJ_o (by decide)
  have n17 : nxJ J a sl t (10 * a + t) fr c 17 (10 * sl + t) = J 17 (10 * sl + t) + 1 := by unfold nxJ; rw [uJ_self, upI_self, e17]
  have n13 : ∀ x, nxJ J a sl t (10 * a + t) fr c 13 x = J 13 x := fun x => by unfold nxJ; rw [uJ_ne (by decide), uJ_ne (by decide), uJ_ne (by decide), chJ_o (by decide)]
  have n20 : nxJ J a sl t (10 * a + t) fr c 20 a = (chJ J a sl (10 * a + t) fr).2 20 a := by unfold nxJ; rw [uJ_ne (by decide), uJ_ne (by decide), uJ_ne (by decide)]
  have n30 : ∀ x, nxJ J a sl t (10 * a + t) fr c (-1) x = (chJ J a sl (10 * a + t) fr).2 (-1) x := fun x => by unfold nxJ; rw [uJ_ne (by decide), uJ_ne (by decide), uJ_ne (by decide)]
  refine ⟨⟨⟨?_, ?_, ?_, ?_⟩, ?_, ?_, ?_, by omega, ?_⟩, fun k x k1 k2 k3 k4 k5 k6 k7 k8 => ?_, fun x hx => ?_, fun x hx => ?_, ?_⟩
  · exact ((g1.u (Or.inr ⟨hp, c2⟩)).u (Or.inr ⟨by show (0 : Int) ≤ _; omega, by show _ ≤ (16 : Int); omega⟩)).u (Or.inr ⟨by show (-1 : Int) ≤ _; omega, by show _ ≤ (50 : Int); omega⟩)
  · intro x
    unfold nxJ
    rw [uJ_ne (by decide), uJ_ne (show (18 : Int) ≠ 19 by decide), uJ_self, uJ_ne (by decide), uJ_self]
    by_cases q : x = c
    · subst q
      rw [upI_self, upI_self]
      exact c3
    · rw [upI_ne _ _ q, upI_ne _ _ q, uJ_ne (by decide)]
      exact g2 x
  · rw [n30]; exact g3
  · rw [n30, n20]; exact g4
  · rw [n13]; omega
  · rw [n13, n17]; omega
  · rw [n17]; omega
  · rw [n17]; omega
  · unfold nxJ
    rw [uJ_ne k2, uJ_ne k4, uJ_ne k3, chJ_o ⟨k1, k5, k6, k7, k8⟩]
  · rw [n30]; exact chJ_m hx
  · unfold nxJ
    rw [uJ_self, upI_ne _ _ hx, uJ_ne (by decide), uJ_ne (by decide), chJ_o (by decide)]
  · rw [n20]; exact c4
/-- the first t files -/
def tgL (J : Int → Int → Int) (a sl : Int) : Nat → Int × Int × (Int → Int → Int)
  | 0 => (1, 500 * sl, J)
  | t + 1 => if (tgL J a sl t).1 = 0 ∨ (tgL J a sl t).2.2 12 (10 * a + t) = 0 then tgL J a sl t else fiL a sl t 200 (tgL J a sl t).2.1 0 (uJ (tgL J a sl t).2.2 17 (10 * sl + t) 0)
theorem fiL_i {a sl t : Int} (ha : 0 ≤ a ∧ a ≤ 9) : ∀ (n : Nat) (c fr : Int) (J : Int → Int → Int), FI J a sl t c fr → J 13 (10 * a + t) - fr ≤ n → ((fiL a sl t n c fr J).1 = 0 ∨ (fiL a sl t n c fr J).1 = 1) ∧ SI (fiL a sl t n c fr J).2.2 a ∧ (∀ k x, k ≠ -1 → k ≠ 17 → k ≠ 18 → k ≠ 19 → k ≠ 20 → k ≠ 21 → k ≠ 22 → k ≠ 23 → (fiL a sl t n c fr J).2.2 k x = J k x) ∧ (∀ x, x ≠ 30 → (fiL a sl t n c fr J).2.2 (-1) x = J (-1) x) ∧ (∀ x, x ≠ 10 * sl + t → (fiL a sl t n c fr J).2.2 17 x = J 17 x) ∧ 500 * sl ≤ (fiL a sl t n c fr J).2.1 ∧ (fiL a sl t n c fr J).2.1 ≤ 500 * sl + 50 * t + 50 ∧ J 20 a ≤ (fiL a sl t n c fr J).2.2 20 a
  | 0, c, fr, J, h, hn => by
    have s13 := h.1.1.k17 (10 * sl + t)
    obtain ⟨h1, h2, h3, h4, h5, h6⟩ := h
    exact ⟨Or.inr rfl, h1, fun _ _ _ _ _ _ _ _ _ _ => rfl, fun _ _ => rfl, fun _ _ => rfl, h5, by show c ≤ _; omega, Int.le_refl _⟩
  | n + 1, c, fr, J, h, hn => by
    have s17 := h.1.1.k17 (10 * sl + t)
    by_cases q1 : J 13 (10 * a + t) ≤ fr
    · rw [show fiL a sl t (n + 1) c fr J = (1, c, J) from if_pos q1]
      obtain ⟨h1, h2, h3, h4, h5, h6⟩ := h
      exact ⟨Or.inr rfl, h1, fun _ _ _ _ _ _ _ _ _ _ => rfl, fun _ _ => rfl, fun _ _ => rfl, h5, by show c ≤ _; omega, Int.le_refl _⟩
    · have hf : fr < J 13 (10 * a + t) := by omega
      obtain ⟨g1, c1, c2, c3, c4⟩ := chJ_i (sl := sl) (f := 10 * a + t) h.1 ha ⟨h.2.1.1, hf⟩
      by_cases q2 : (chJ J a sl (10 * a + t) fr).1 < 0
      · rw [show fiL a sl t (n + 1) c fr J = (0, c, (chJ J a sl (10 * a + t) fr).2) by show (if _ then _ else _) = _; rw [if_neg q1, if_pos q2]]
        obtain ⟨h1, h2, h3, h4, h5, h6⟩ := h
        exact ⟨Or.inl rfl, g1, fun k x k1 k2 k3 k4 k5 k6 k7 k8 => chJ_o ⟨k1, k5, k6, k7, k8⟩, fun x hx => chJ_m hx, fun x _ => chJ_o (by decide), h5, by show c ≤ _; omega, c4⟩
      · rw [show fiL a sl t (n + 1) c fr J = fiL a sl t n (c + 1) (ceJ J (10 * a + t) fr) (nxJ J a sl t (10 * a + t) fr c) by show (if _ then _ else _) = _; rw [if_neg q1, if_neg q2]]
        obtain ⟨x1, x2, x3, x4, x5⟩ := nxJ_i h ha hf (by omega)
        have ce := ceJ_r (J := J) (f := 10 * a + t) ⟨h.2.1.1, hf⟩
        obtain ⟨y1, y2, y3, y4, y5, y6, y7, y8⟩ := fiL_i ha n (c + 1) (ceJ J (10 * a + t) fr) (nxJ J a sl t (10 * a + t) fr c) x1 (by rw [x2 13 _ (by decide) (by decide) (by decide) (by decide) (by decide) (by decide) (by decide) (by decide)]; omega)
        exact ⟨y1, y2, fun k x k1 k2 k3 k4 k5 k6 k7 k8 => (y3 k x k1 k2 k3 k4 k5 k6 k7 k8).trans (x2 k x k1 k2 k3 k4 k5 k6 k7 k8), fun x hx => (y4 x hx).trans (x3 x hx), fun x hx => (y5 x hx).trans (x4 x hx), y6, y7, by omega⟩
