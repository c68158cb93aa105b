/-! ===== the chunks found; a house's lists ===== -/
theorem eqN_1 {f g : Int → Int} : ∀ n : Nat, (eqN f g n = 1 ↔ ∀ x : Int, 0 ≤ x → x < n → f x = g x)
  | 0 => ⟨fun _ x x0 x1 => by omega, fun _ => rfl⟩
  | n + 1 => by
    have b := eqN_1 (f := f) (g := g) n
    have r := eqN_r (f := f) (g := g) n
    by_cases q : eqN f g n = 0 ∨ f n ≠ g n
    · rw [show eqN f g (n + 1) = 0 from if_pos q]
      refine ⟨fun h => absurd h (by decide), fun h => ?_⟩
      rcases q with q | q
      · have := b.mpr (fun x x0 x1 => h x x0 (by omega))
        omega
      · exact absurd (h n (by omega) (by omega)) q
    · rw [show eqN f g (n + 1) = 1 from if_neg q]
      refine ⟨fun _ x x0 x1 => ?_, fun _ => rfl⟩
      by_cases z : x = n
      · rw [z]
        by_cases y : f n = g n
        · exact y
        · exact absurd (Or.inr y) q
      · refine b.mp ?_ x x0 (by omega)
        rcases r with r | r
        · exact absurd (Or.inl r) q
        · exact r
theorem fiJ_p {J : Int → Int → Int} {sl f fr z : Int} (h18 : ∀ c, 0 ≤ J 18 c) : ∀ q : Nat, (q : Int) ≤ alJ J sl 10 → (fiJ J sl f fr z q = -1 ∧ ∀ i : Nat, alJ J sl 10 - q ≤ i → (i : Int) < alJ J sl 10 → ¬ isC J (500 * sl + i) f fr z) ∨ (∃ i : Nat, (i : Int) < alJ J sl 10 ∧ isC J (500 * sl + i) f fr z ∧ fiJ J sl f fr z q = J 18 (500 * sl + i))
  | 0, _ => Or.inl ⟨rfl, fun i i0 i1 => by omega⟩
  | q + 1, hq => by
    by_cases p : isC J (500 * sl + (alJ J sl 10 - (q + 1))) f fr z
    · right
      refine ⟨(alJ J sl 10 - (q + 1)).toNat, by omega, ?_, ?_⟩
      · rw [Int.toNat_of_nonneg (by omega)]; exact p
      · rw [Int.toNat_of_nonneg (by omega)]; exact if_pos p
    · rw [show fiJ J sl f fr z (q + 1) = fiJ J sl f fr z q from if_neg p]
      rcases fiJ_p (sl := sl) (f := f) (fr := fr) (z := z) h18 q (by omega) with ⟨a, b⟩ | b
      · left
        refine ⟨a, fun i i0 i1 => ?_⟩
        by_cases y : (i : Int) = alJ J sl 10 - (q + 1)
        · rw [y]; exact p
        · exact b i (by omega) i1
      · exact Or.inr b
theorem alJ_0 {J : Int → Int → Int} {sl : Int} : ∀ t : Nat, 0 ≤ alJ J sl t
  | 0 => Int.le_refl _
  | t + 1 => by
    have := alJ_0 (J := J) (sl := sl) t
    show 0 ≤ alJ J sl t + _
    split <;> omega
theorem fcJ_p {J : Int → Int → Int} {a sl f fr z : Int} (h18 : ∀ c, 0 ≤ J 18 c) : ∀ q : Nat, q ≤ 6 → (fcJ J a sl f fr z q = -1 ∧ ∀ k i : Nat, 6 - q ≤ k → enJ J a sl k i → ¬ isC J (500 * (6 * a + k) + i) f fr z) ∨ (∃ k i : Nat, enJ J a sl k i ∧ isC J (500 * (6 * a + k) + i) f fr z ∧ fcJ J a sl f fr z q = J 18 (500 * (6 * a + k) + i))
  | 0, _ => Or.inl ⟨rfl, fun k i k0 h => by have := h.1; omega⟩
  | q + 1, hq => by
    have e1 : 6 * a + (6 - ((q : Int) + 1)) = 6 * a + ((5 - q : Nat) : Int) := by omega
    have al := alJ_0 (J := J) (sl := 6 * a + ((5 - q : Nat) : Int)) 10
    have fp := fiJ_p (J := J) (sl := 6 * a + ((5 - q : Nat) : Int)) (f := f) (fr := fr) (z := z) h18 (alJ J (6 * a + ((5 - q : Nat) : Int)) 10).toNat (by omega)
    by_cases p : (0 ≤ J 16 (6 * a + (6 - (q + 1))) ∨ 6 * a + (6 - ((q : Int) + 1)) = sl) ∧ 0 ≤ fiJ J (6 * a + (6 - (q + 1))) f fr z (alJ J (6 * a + (6 - (q + 1))) 10).toNat
    · rw [show fcJ J a sl f fr z (q + 1) = fiJ J (6 * a + (6 - (q + 1))) f fr z (alJ J (6 * a + (6 - (q + 1))) 10).toNat from if_pos p]
      rw [e1] at p ⊢
      rcases fp with ⟨x, _⟩ | ⟨i, i1, i2, i3⟩
      · omega
      · exact Or.inr ⟨5 - q, i, ⟨by omega, p.1, i1⟩, i2, i3⟩
    · rw [show fcJ J a sl f fr z (q + 1) = fcJ J a sl f fr z q from if_neg p]
      rw [e1] at p
      rcases fcJ_p (a := a) (sl := sl) (f := f) (fr := fr) (z := z) h18 q (by omega) with ⟨x, y⟩ | y
      · left
        refine ⟨x, fun k i k0 h => ?_⟩
        by_cases w : k = 5 - q
        · subst w
          intro hc
          rcases fp with ⟨_, g⟩ | ⟨i', i1, i2, i3⟩
          · exact g i (by omega) h.2.2 hc
          · exact p ⟨h.2.1, by rw [i3]; exact h18 _⟩
        · exact y k i (by omega) h
      · exact Or.inr y
/-- what the reference finds is what the list has -/
theorem fc_L {J : Int → Int → Int} {a sl f fr z : Int} {L : List Ck} (h18 : ∀ c, 0 ≤ J 18 c) (h : CVR J a sl L) (hz : 0 ≤ z) : (fcJ J a sl f fr z 6 = -1 ∧ ∀ e ∈ L, ¬ (e.2.2.2 = z ∧ ∀ x : Int, 0 ≤ x → x < z → J 23 (e.2.2.1 + x) = J 14 (200 * f + fr + x))) ∨ (∃ e ∈ L, (e.2.2.2 = z ∧ ∀ x : Int, 0 ≤ x → x < z → J 23 (e.2.2.1 + x) = J 14 (200 * f + fr + x)) ∧ fcJ J a sl f fr z 6 = e.2.2.1) := by
  have ic : ∀ c, isC J c f fr z ↔ (J 19 c = z ∧ ∀ x : Int, 0 ≤ x → x < z → J 23 (J 18 c + x) = J 14 (200 * f + fr + x)) := fun c => by
    unfold isC
    rw [eqN_1, show ((z.toNat : Nat) : Int) = z by omega]
  rcases fcJ_p (a := a) (sl := sl) (f := f) (fr := fr) (z := z) h18 6 (Nat.le_refl _) with ⟨x, y⟩ | ⟨k, i, h1, h2, h3⟩
  · left
    refine ⟨x, fun e he hc => ?_⟩
    obtain ⟨k, i, h1, h2⟩ := h.2.2.2 e he
    obtain ⟨e', he', p1, p2⟩ := h.2.2.1 k i h1
    have : e = e' := (pw_or (fun _ _ => DCk.symm) h.1 e he e' he').elim id (fun d => absurd (h2.symm.trans p1.symm) d.2.1)
    subst this
    exact y k i (by omega) h1 ((ic _).mpr ⟨by rw [← p2]; exact hc.1, by rw [← p1]; exact hc.2⟩)
  · right
    obtain ⟨e, he, p1, p2⟩ := h.2.2.1 k i h1
    have := (ic _).mp h2
    exact ⟨e, he, ⟨by rw [p2]; exact this.1, by rw [p1]; exact this.2⟩, by rw [h3, p1]⟩
theorem found_uq {J : Int → Int → Int} {a sl f fr z : Int} {L : List Ck} (h : CVR J a sl L) {e e' : Ck} (he : e ∈ L) (he' : e' ∈ L) (h1 : e.2.2.2 = z ∧ ∀ x : Int, 0 ≤ x → x < z → J 23 (e.2.2.1 + x) = J 14 (200 * f + fr + x)) (h2 : e'.2.2.2 = z ∧ ∀ x : Int, 0 ≤ x → x < z → J 23 (e'.2.2.1 + x) = J 14 (200 * f + fr + x)) : e = e' :=
  (pw_or (fun _ _ => DCk.symm) h.1 e he e' he').elim id (fun d => absurd ⟨h1.1.trans h2.1.symm, fun x x0 x1 => (h1.2 x x0 (by omega)).trans (h2.2 x x0 (by omega)).symm⟩ d.2.2)
/-- names of house a's lists' rows, chunks and snapshots -/
abbrev n12 (a : Int) (n : Nm) : Prop := ∃ q, n = [12, a, q]
def CKN (J : Int → Int → Int) (E : Nm → Int → Int) (ty : Nm → Nat) (ln : Nm → Int) (R : Nm → Int → Option Nm) (a : Int) (e : Ck) : Prop :=
  n12 a e.1 ∧ n12 a e.2.1 ∧ ty e.1 = 101 ∧ R e.1 0 = some e.2.1 ∧ ty e.2.1 = 1 ∧ ln e.2.1 = e.2.2.2 ∧ E e.1 1 = e.2.2.1 / 60 - 40 * a ∧ E e.1 2 = e.2.2.1 % 60 ∧ (∀ x, 0 ≤ x → x < e.2.2.2 → E e.2.1 x = J 23 (e.2.2.1 + x))
def SNL (J : Int → Int → Int) (E : Nm → Int → Int) (ln : Nm → Int) (R : Nm → Int → Option Nm) (L : List Ck) (sl : Int) (mc st hf : Nm) : Prop :=
  ln mc = alJ J sl 10 ∧ (∀ t : Nat, t ≤ 10 → E st t = alJ J sl t) ∧ (∀ t : Nat, t < 10 → E hf t = if 0 ≤ J 17 (10 * sl + t) then 1 else 0) ∧ (∀ i : Nat, (i : Int) < alJ J sl 10 → ∃ e ∈ L, R mc i = some e.1 ∧ e.2.2.1 = J 18 (500 * sl + i) ∧ e.2.2.2 = J 19 (500 * sl + i))
def SNN (J : Int → Int → Int) (E : Nm → Int → Int) (ty : Nm → Nat) (ln : Nm → Int) (R : Nm → Int → Option Nm) (a : Int) (L : List Ck) (n : Int) (m : Nm) : Prop :=
  n12 a m ∧ ty m = 108 ∧ E m 3 = (if 0 ≤ slotJ J a n then 0 else 1) ∧ ∃ mc st hf, (R m 0 = some mc ∧ ty mc = 6 ∧ n12 a mc) ∧ (R m 1 = some st ∧ ty st = 1 ∧ ln st = 11 ∧ n12 a st) ∧ (R m 2 = some hf ∧ ty hf = 2 ∧ ln hf = 10 ∧ n12 a hf) ∧ (0 ≤ slotJ J a n → SNL J E ln R L (slotJ J a n) mc st hf)
/-- what is true of the reference's numbers of a house's slots -/
def NUM (J : Int → Int → Int) (a : Int) : Prop := (∀ k : Nat, k < 6 → J 16 (6 * a + k) < J 15 a ∨ J 16 (6 * a + k) < 0) ∧ (∀ k k' : Nat, k < 6 → k' < 6 → 0 ≤ J 16 (6 * a + k) → J 16 (6 * a + k) = J 16 (6 * a + k') → k = k') ∧ (∀ k t : Nat, k < 6 → t < 10 → 0 ≤ J 16 (6 * a + k) → lnS J (500 * (6 * a + k) + alJ J (6 * a + k) t) (J 17 (10 * (6 * a + k) + t)).toNat ≤ 200)
abbrev rw12 (R : Nm → Int → Option Nm) (a k : Int) : Prop := la R a k = nE ∨ n12 a (la R a k)
abbrev HLL (J : Int → Int → Int) (E : Nm → Int → Int) (ty : Nm → Nat) (ln : Nm → Int) (R : Nm → Int → Option Nm) (a : Int) (L : List Ck) : Prop :=
  LQ ty ln E R [4, a, 7] (la R a 7) L.length ∧
  (∀ (i : Nat) (e : Ck), L[i]? = some e → R (la R a 7) i = some e.1) ∧
  (∀ e ∈ L, CKN J E ty ln R a e ∧ E e.1 3 = uA J a e.2.2.1 6) ∧
  CVR J a (-1) L ∧
  LQ ty ln E R [4, a, 9] (la R a 9) (J 15 a) ∧
  (∀ n, 0 ≤ n → n < J 15 a → ∃ m, R (la R a 9) n = some m ∧ SNN J E ty ln R a L n m) ∧
  (∀ n n', 0 ≤ n → n < n' → n' < J 15 a → R (la R a 9) n ≠ R (la R a 9) n') ∧
  E [4, a] 10 = cn3 J a 6 ∧
  (∀ s, 0 ≤ s → s < J 20 a → E [4, a, 8, s] 5 = cS (40 * a + s) L) ∧
  NUM J a ∧
  LQ ty ln E R [4, a, 8] (la R a 8) (J 20 a) ∧
  (rw12 R a 7 ∧ rw12 R a 8 ∧ rw12 R a 9) ∧
  ((la R a 7 = la R a 8 → la R a 7 = nE) ∧ (la R a 7 = la R a 9 → la R a 7 = nE) ∧ (la R a 8 = la R a 9 → la R a 8 = nE))
/-- the reference's words of house b's chunks are the same -/
def JB (J J' : Int → Int → Int) (b : Int) : Prop := J' 15 b = J 15 b ∧ J' 20 b = J 20 b ∧ (∀ x, 6 * b ≤ x → x < 6 * b + 6 → J' 16 x = J 16 x) ∧ (∀ k t : Nat, k < 6 → 0 ≤ J 16 (6 * b + k) → t < 10 → J' 17 (10 * (6 * b + k) + t) = J 17 (10 * (6 * b + k) + t)) ∧ (∀ (k : Nat) (x : Int), k < 6 → 0 ≤ J 16 (6 * b + k) → 500 * (6 * b + k) ≤ x → x < 500 * (6 * b + k) + 500 → J' 18 x = J 18 x ∧ J' 19 x = J 19 x) ∧ (∀ x, 2400 * b ≤ x → x < 2400 * b + 60 * J 20 b → J' 23 x = J 23 x)
/-- the words of its slots are the same -/
def JSl (J J' : Int → Int → Int) (b : Int) : Prop := (∀ x, 6 * b ≤ x → x < 6 * b + 6 → J' 16 x = J 16 x) ∧ (∀ k t : Nat, k < 6 → 0 ≤ J 16 (6 * b + k) → t < 10 → J' 17 (10 * (6 * b + k) + t) = J 17 (10 * (6 * b + k) + t)) ∧ (∀ (k : Nat) (x : Int), k < 6 → 0 ≤ J 16 (6 * b + k) → 500 * (6 * b + k) ≤ x → x < 500 * (6 * b + k) + 500 → J' 18 x = J 18 x ∧ J' 19 x = J 19 x)
theorem JB.js {J J' : Int → Int → Int} {b : Int} (h : JB J J' b) : JSl J J' b := ⟨h.2.2.1, h.2.2.2.1, h.2.2.2.2.1⟩
theorem JSl.same {J J' : Int → Int → Int} {b : Int} (h : ∀ k x, k = 16 ∨ k = 17 ∨ k = 18 ∨ k = 19 → J' k x = J k x) : JSl J J' b :=
  ⟨fun x _ _ => h 16 x (by decide), fun k t _ _ _ => h 17 _ (by decide), fun k x _ _ _ _ => ⟨h 18 x (by decide), h 19 x (by decide)⟩⟩
theorem JB.same {J J' : Int → Int → Int} {b : Int} (h : ∀ k x, k = 15 ∨ k = 16 ∨ k = 17 ∨ k = 18 ∨ k = 19 ∨ k = 20 ∨ k = 23 → J' k x = J k x) : JB J J' b :=
  ⟨h 15 _ (by decide), h 20 _ (by decide), fun x _ _ => h 16 x (by decide), fun k t _ _ _ => h 17 _ (by decide), fun k x _ _ _ _ => ⟨h 18 x (by decide), h 19 x (by decide)⟩, fun x _ _ => h 23 x (by decide)⟩
theorem alJ_c {J J' : Int → Int → Int} {sl : Int} : ∀ n : Nat, (∀ t : Nat, t < n → J' 17 (10 * sl + t) = J 17 (10 * sl + t)) → alJ J' sl n = alJ J sl n
  | 0, _ => rfl
  | n + 1, h => by
    show alJ J' sl n + _ = alJ J sl n + _
    rw [alJ_c n (fun t ht => h t (by omega)), h n (by omega)]
theorem alJ_50 {J : Int → Int → Int} {sl : Int} (h : ∀ x, J 17 x ≤ 50) : ∀ n : Nat, alJ J sl n ≤ 50 * n
  | 0 => Int.le_refl _
  | n + 1 => by
    have := alJ_50 (sl := sl) h n
    have h2 := h (10 * sl + n)
    show alJ J sl n + _ ≤ _
    split <;> omega
theorem JSl.al {J J' : Int → Int → Int} {b : Int} (h : JSl J J' b) {k n : Nat} (hk : k < 6) (hl : 0 ≤ J 16 (6 * b + k)) (hn : n ≤ 10) : alJ J' (6 * b + k) n = alJ J (6 * b + k) n := alJ_c n (fun t ht => h.2.1 k t hk hl (by omega))
theorem JB.al {J J' : Int → Int → Int} {b : Int} (h : JB J J' b) {k n : Nat} (hk : k < 6) (hl : 0 ≤ J 16 (6 * b + k)) (hn : n ≤ 10) : alJ J' (6 * b + k) n = alJ J (6 * b + k) n := h.js.al hk hl hn
theorem uI_c {J J' : Int → Int → Int} {s P : Int} : ∀ n : Nat, (∀ i : Nat, i < n → J' 18 (500 * s + i) = J 18 (500 * s + i)) → uI J' s P n = uI J s P n
  | 0, _ => rfl
  | n + 1, h => by
    show uI J' s P n + _ = uI J s P n + _
    rw [uI_c n (fun t ht => h t (by omega)), h n (by omega)]
theorem uA_c {J J' : Int → Int → Int} {b P : Int} (h : JSl J J' b) (h17 : ∀ x, J 17 x ≤ 50) : ∀ n : Nat, n ≤ 6 → uA J' b P n = uA J b P n
  | 0, _ => rfl
  | n + 1, hn => by
    have a5 := alJ_50 (J := J) (sl := 6 * b + n) h17 10
    show uA J' b P n + _ = uA J b P n + _
    rw [uA_c h h17 n (by omega), h.1 _ (by omega) (by omega)]
    by_cases q : 0 ≤ J 16 (6 * b + n)
    · rw [if_pos q, if_pos q, h.al (by omega) q (Nat.le_refl _), uI_c _ (fun i hi => (h.2.2 n _ (by omega) q (by omega) (by omega)).1)]
    · rw [if_neg q, if_neg q]
theorem slJ_c {J J' : Int → Int → Int} {b m : Int} : ∀ n : Nat, (∀ k : Nat, k < n → J' 16 (6 * b + k) = J 16 (6 * b + k)) → slJ J' b m n = slJ J b m n
  | 0, _ => rfl
  | n + 1, h => by
    show (if _ then _ else _) = if _ then _ else _
    rw [h n (by omega), slJ_c n (fun k hk => h k (by omega))]
theorem slotJ_c {J J' : Int → Int → Int} {b m : Int} (h : JSl J J' b) : slotJ J' b m = slotJ J b m := by
  unfold slotJ
  rw [slJ_c 6 (fun k hk => h.1 _ (by omega) (by omega))]
theorem slJ_k {J : Int → Int → Int} {b m : Int} : ∀ n : Nat, slJ J b m n = -1 ∨ ∃ k : Nat, k < n ∧ slJ J b m n = 6 * b + k ∧ J 16 (6 * b + k) = m
  | 0 => Or.inl rfl
  | n + 1 => by
    by_cases q : J 16 (6 * b + n) = m
    · exact Or.inr ⟨n, by omega, if_pos q, q⟩
    · rw [show slJ J b m (n + 1) = slJ J b m n from if_neg q]
      exact (slJ_k n).imp id (fun ⟨k, h1, h2⟩ => ⟨k, by omega, h2⟩)
theorem slot_k {J : Int → Int → Int} {b m : Int} (hb : 0 ≤ b) (h : 0 ≤ slotJ J b m) : 0 ≤ m ∧ ∃ k : Nat, k < 6 ∧ slotJ J b m = 6 * b + k ∧ J 16 (6 * b + k) = m := by
  unfold slotJ at h ⊢
  by_cases q : m < 0
  · rw [if_pos q] at h; omega
  · rw [if_neg q] at h ⊢
    refine ⟨by omega, ?_⟩
    rcases slJ_k (J := J) (b := b) (m := m) 6 with z | z
    · omega
    · exact z
theorem lnS_c2 {J J' : Int → Int → Int} {k : Int} : ∀ q : Nat, (∀ i : Nat, i < q → J' 19 (k + i) = J 19 (k + i)) → lnS J' k q = lnS J k q
  | 0, _ => rfl
  | q + 1, h => by
    show lnS J' k q + _ = lnS J k q + _
    rw [lnS_c2 q (fun i hi => h i (by omega)), h q (by omega)]
theorem cn3_c {J J' : Int → Int → Int} {b : Int} : ∀ n : Nat, (∀ k : Nat, k < n → J' 16 (6 * b + k) = J 16 (6 * b + k)) → cn3 J' b n = cn3 J b n
  | 0, _ => rfl
  | n + 1, h => by
    show (if _ then _ else _) = if _ then _ else _
    rw [h n (by omega), cn3_c n (fun k hk => h k (by omega))]
theorem CVR.cg {J J' : Int → Int → Int} {b : Int} {L : List Ck} (h : CVR J b (-1) L) (j : JB J J' b) (hb : 0 ≤ b) (h17 : ∀ x, J 17 x ≤ 50) (h20 : J 20 b ≤ 40) : CVR J' b (-1) L := by
  obtain ⟨c1, c2, c3, c4⟩ := h
  have ee : ∀ k i : Nat, enJ J' b (-1) k i ↔ enJ J b (-1) k i := fun k i => by
    unfold enJ lvJ
    refine ⟨fun ⟨x, y, z⟩ => ?_, fun ⟨x, y, z⟩ => ?_⟩
    · rw [j.2.2.1 _ (by omega) (by omega)] at y
      have y1 : 0 ≤ J 16 (6 * b + k) := y.elim id (fun z => by omega)
      rw [j.al x y1 (Nat.le_refl _)] at z; exact ⟨x, y, z⟩
    · have y1 : 0 ≤ J 16 (6 * b + k) := y.elim id (fun z => by omega)
      refine ⟨x, ?_, ?_⟩
      · rw [j.2.2.1 _ (by omega) (by omega)]; exact y
      · rw [j.al x y1 (Nat.le_refl _)]; exact z
  have rg : ∀ k i : Nat, enJ J b (-1) k i → J' 18 (500 * (6 * b + (k : Int)) + i) = J 18 (500 * (6 * b + (k : Int)) + i) ∧ J' 19 (500 * (6 * b + (k : Int)) + i) = J 19 (500 * (6 * b + (k : Int)) + i) := fun k i h => by
    have := alJ_50 (J := J) (sl := 6 * b + k) h17 10
    have h2 := h.2.2
    exact j.2.2.2.2.1 k _ h.1 (h.2.1.elim id (fun z => by omega)) (by omega) (by omega)
  refine ⟨?_, ?_, ?_, ?_⟩
  · refine List.Pairwise.imp_of_mem ?_ c1
    intro e f he hf d
    have e1 := c2 e he
    have f1 := c2 f hf
    refine ⟨d.1, d.2.1, fun z => d.2.2 ⟨z.1, fun x x0 x1 => ?_⟩⟩
    have := z.2 x x0 x1
    have z1 := z.1
    rw [j.2.2.2.2.2 _ (by omega) (by omega), j.2.2.2.2.2 _ (by omega) (by omega)] at this
    exact this
  · intro e he
    rw [j.2.1]; exact c2 e he
  · intro k i hk
    have hk' := (ee k i).mp hk
    have r := rg k i hk'
    rw [r.1, r.2]
    exact c3 k i hk'
  · intro e he
    obtain ⟨k, i, h1, h2⟩ := c4 e he
    have r := rg k i h1
    exact ⟨k, i, (ee k i).mpr h1, by rw [r.1]; exact h2⟩
theorem NUM.cg {J J' : Int → Int → Int} {b : Int} (h : NUM J b) (e15 : J' 15 b = J 15 b) (j : JSl J J' b) (h17 : ∀ x, J 17 x ≤ 50) : NUM J' b := by
  obtain ⟨n1, n2, n3⟩ := h
  refine ⟨fun k hk => ?_, fun k k' hk hk' => ?_, fun k t hk ht => ?_⟩
  · rw [j.1 _ (by omega) (by omega), e15]; exact n1 k hk
  · rw [j.1 _ (by omega) (by omega), j.1 _ (by omega) (by omega)]; exact n2 k k' hk hk'
  · have a5 := alJ_50 (J := J) (sl := 6 * b + k) h17 t
    have a0 := alJ_0 (J := J) (sl := 6 * b + k) t
    have a7 := h17 (10 * (6 * b + k) + t)
    rw [j.1 _ (by omega) (by omega)]
    intro hl
    rw [j.al hk hl (by omega), j.2.1 k t hk hl ht, lnS_c2 _ (fun i hi => (j.2.2 k _ hk hl (by omega) (by omega)).2)]
    exact n3 k t hk ht hl
/-- the class's part of house b is the same -/
def FRB (E E' : Nm → Int → Int) (ty ty' : Nm → Nat) (ln ln' : Nm → Int) (R R' : Nm → Int → Option Nm) (b : Int) : Prop := (∀ n, ty n ≠ 0 → ty' n = ty n ∧ ln' n = ln n) ∧ (∀ n x, (n12 b n ∨ (∃ l, n = 4 :: b :: l)) → ty n ≠ 0 → evC n x → E' n x = E n x) ∧ (∀ n x, (n12 b n ∨ (∃ l, n = 4 :: b :: l) ∨ n = nE) → ty n ≠ 0 → R' n x = R n x)
theorem LQ.cg {E E' : Nm → Int → Int} {ty ty' : Nm → Nat} {ln ln' : Nm → Int} {R R' : Nm → Int → Option Nm} {b k n : Int} {m : Nm} (h : LQ ty ln E R [4, b, k] m n) (hm : m = nE ∨ n12 b m) (f : FRB E E' ty ty' ln ln' R R' b) (hk : k = 7 ∨ k = 8 ∨ k = 9) : LQ ty' ln' E' R' [4, b, k] m n := by
  obtain ⟨h1, h2, h3, h4, h5, h6⟩ := h
  obtain ⟨f1, f2, f3⟩ := f
  have tm : ty m ≠ 0 := by rcases h5 with z | z <;> omega
  have fm := f1 m tm
  have ft := f1 [4, b, k] (by rw [h1.1]; decide)
  refine ⟨⟨ft.1.trans h1.1, h1.2⟩, ?_, ?_, ?_, ?_, fun j y hy => ?_⟩
  · rw [f3 _ _ (Or.inr (Or.inl ⟨[k], rfl⟩)) (by rw [h1.1]; decide)]; exact h2
  · rw [f2 _ _ (Or.inr ⟨[k], rfl⟩) (by rw [h1.1]; decide) ?_]
    · exact h3
    · rcases hk with rfl | rfl | rfl
      · exact Or.inr (Or.inl ⟨b, 7, [], rfl, Or.inl rfl⟩)
      · exact Or.inr (Or.inr (Or.inl ⟨b, rfl⟩))
      · exact Or.inr (Or.inl ⟨b, 9, [], rfl, Or.inr rfl⟩)
  · rw [fm.2]; exact h4
  · rw [fm.1, fm.2]; exact h5
  · rw [f3 m j (hm.elim (fun z => Or.inr (Or.inr z)) (fun z => Or.inl z)) tm] at hy
    have := h6 j y hy
    unfold oke
    rw [(f1 y (by omega)).1]; exact this
theorem ev12 {b x : Int} {n : Nm} (h : n12 b n) : evC n x := by
  obtain ⟨q, rfl⟩ := h
  exact Or.inl (Or.inr (Or.inr (Or.inr (Or.inr rfl))))
def FR12 (E E' : Nm → Int → Int) (ty ty' : Nm → Nat) (ln ln' : Nm → Int) (R R' : Nm → Int → Option Nm) (b : Int) : Prop := (∀ n, ty n ≠ 0 → ty' n = ty n ∧ ln' n = ln n) ∧ (∀ n x, n12 b n → ty n ≠ 0 → (ty n ≠ 101 ∨ x ≠ 3) → E' n x = E n x) ∧ (∀ n x, n12 b n → ty n ≠ 0 → ty n ≠ 8 → R' n x = R n x)
theorem FRB.to12 {E E' : Nm → Int → Int} {ty ty' : Nm → Nat} {ln ln' : Nm → Int} {R R' : Nm → Int → Option Nm} {b : Int} (f : FRB E E' ty ty' ln ln' R R' b) : FR12 E E' ty ty' ln ln' R R' b := ⟨f.1, fun n x h t _ => f.2.1 n x (Or.inl h) t (ev12 h), fun n x h t _ => f.2.2 n x (Or.inl h) t⟩
theorem CKN.cg {J J' : Int → Int → Int} {E E' : Nm → Int → Int} {ty ty' : Nm → Nat} {ln ln' : Nm → Int} {R R' : Nm → Int → Option Nm} {b : Int} {e : Ck} (h : CKN J E ty ln R b e) (f : FR12 E E' ty ty' ln ln' R R' b) (h23 : ∀ x, 0 ≤ x → x < e.2.2.2 → J' 23 (e.2.2.1 + x) = J 23 (e.2.2.1 + x)) : CKN J' E' ty' ln' R' b e := by
  obtain ⟨c1, c2, c3, c4, c5, c6, c7, c8, c9⟩ := h
  obtain ⟨f1, f2, f3⟩ := f
  have t1 : ty e.1 ≠ 0 := by omega
  have t2 : ty e.2.1 ≠ 0 := by omega
  refine ⟨c1, c2, (f1 _ t1).1.trans c3, (f3 _ _ c1 t1 (by omega)).trans c4, (f1 _ t2).1.trans c5, (f1 _ t2).2.trans c6, (f2 _ _ c1 t1 (Or.inr (by decide))).trans c7, (f2 _ _ c1 t1 (Or.inr (by decide))).trans c8, fun x x0 x1 => ?_⟩
  rw [f2 _ _ c2 t2 (Or.inl (by omega)), h23 x x0 x1]
  exact c9 x x0 x1
theorem SNN.cg {J J' : Int → Int → Int} {E E' : Nm → Int → Int} {ty ty' : Nm → Nat} {ln ln' : Nm → Int} {R R' : Nm → Int → Option Nm} {b n : Int} {L : List Ck} {m : Nm} (h : SNN J E ty ln R b L n m) (f : FR12 E E' ty ty' ln ln' R R' b) (j : JSl J J' b) (hb : 0 ≤ b) (h17 : ∀ x, J 17 x ≤ 50) : SNN J' E' ty' ln' R' b L n m := by
  obtain ⟨s1, s2, s3, mc, st, hf, ⟨a1, a2, a3⟩, ⟨b1, b2, b3, b4⟩, ⟨d1, d2, d3, d4⟩, s4⟩ := h
  obtain ⟨f1, f2, f3⟩ := f
  have t1 : ty m ≠ 0 := by omega
  have t2 : ty mc ≠ 0 := by omega
  have t3 : ty st ≠ 0 := by omega
  have t4 : ty hf ≠ 0 := by omega
  refine ⟨s1, (f1 _ t1).1.trans s2, ?_, mc, st, hf, ⟨(f3 _ _ s1 t1 (by omega)).trans a1, (f1 _ t2).1.trans a2, a3⟩, ⟨(f3 _ _ s1 t1 (by omega)).trans b1, (f1 _ t3).1.trans b2, (f1 _ t3).2.trans b3, b4⟩, ⟨(f3 _ _ s1 t1 (by omega)).trans d1, (f1 _ t4).1.trans d2, (f1 _ t4).2.trans d3, d4⟩, ?_⟩
  · rw [f2 _ _ s1 t1 (Or.inl (by omega)), slotJ_c j]; exact s3
  · rw [slotJ_c j]
    intro hs
    obtain ⟨n0, k, hk, ek, e16⟩ := slot_k hb hs
    have hl : 0 ≤ J 16 (6 * b + k) := by omega
    obtain ⟨g1, g2, g3, g4⟩ := s4 hs
    rw [ek] at g1 g2 g3 g4 ⊢
    have a5 := alJ_50 (J := J) (sl := 6 * b + k) h17 10
    refine ⟨?_, fun t ht => ?_, fun t ht => ?_, fun i hi => ?_⟩
    · rw [(f1 _ t2).2, j.al hk hl (Nat.le_refl _)]; exact g1
    · rw [f2 _ _ b4 t3 (Or.inl (by omega)), j.al hk hl ht]; exact g2 t ht
    · rw [f2 _ _ d4 t4 (Or.inl (by omega)), j.2.1 k t hk hl ht]; exact g3 t ht
    · rw [j.al hk hl (Nat.le_refl _)] at hi
      rw [f3 _ _ a3 t2 (by omega), (j.2.2 k _ hk hl (by omega) (by omega)).1, (j.2.2 k _ hk hl (by omega) (by omega)).2]
      exact g4 i hi
theorem HLL.cg {J J' : Int → Int → Int} {E E' : Nm → Int → Int} {ty ty' : Nm → Nat} {ln ln' : Nm → Int} {R R' : Nm → Int → Option Nm} {b : Int} {L : List Ck} (h : HLL J E ty ln R b L) (f : FRB E E' ty ty' ln ln' R R' b) (j : JB J J' b) (hb : 0 ≤ b) (hS : ∀ s, 0 ≤ s → s < J 20 b → ty [4, b, 8, s] ≠ 0) (hH : ty [4, b] ≠ 0) (hR : MR J) : HLL J' E' ty' ln' R' b L := by
  obtain ⟨h1, h2, h3, h4, h5, h6, h7, h8, h9, h10, h11, ⟨h12, h13, h14⟩, h15⟩ := h
  have h17 : ∀ x, J 17 x ≤ 50 := fun x => (hR.k17 x).2
  have h20 := hR.k20 b
  obtain ⟨f1, f2, f3⟩ := id f
  have la' : ∀ k, k = 7 ∨ k = 8 ∨ k = 9 → la R' b k = la R b k := fun k hk => by
    unfold la
    have tk : ty [4, b, k] ≠ 0 := by
      rcases hk with rfl | rfl | rfl
      · rw [h1.1.1]; decide
      · rw [h11.1.1]; decide
      · rw [h5.1.1]; decide
    rw [f3 _ _ (Or.inr (Or.inl ⟨[k], rfl⟩)) tk]
  have tl : ∀ k m n, LQ ty ln E R [4, b, k] m n → ty m ≠ 0 := fun k m n z => by rcases z.2.2.2.2.1 with y | y <;> omega
  have rr : ∀ k n, LQ ty ln E R [4, b, k] (la R b k) n → rw12 R b k → ∀ x, R' (la R b k) x = R (la R b k) x := fun k n z y x => f3 _ _ (y.elim (fun z => Or.inr (Or.inr z)) (fun z => Or.inl z)) (tl _ _ _ z)
  refine ⟨?_, ?_, ?_, h4.cg j hb h17 h20.2, ?_, ?_, ?_, ?_, ?_, h10.cg j.1 j.js h17, ?_, ?_, ?_⟩
  · rw [la' 7 (by decide)]; exact h1.cg h12 f (by decide)
  · rw [la' 7 (by decide)]
    intro i e he
    rw [rr 7 _ h1 h12]; exact h2 i e he
  · intro e he
    have ce := h4.2.1 e he
    refine ⟨(h3 e he).1.cg f.to12 (fun x x0 x1 => j.2.2.2.2.2 _ (by omega) (by omega)), ?_⟩
    have c1 := (h3 e he).1.1
    rw [f2 _ _ (Or.inl c1) (by rw [(h3 e he).1.2.2.1]; decide) (ev12 c1), uA_c j.js h17 6 (Nat.le_refl _)]
    exact (h3 e he).2
  · rw [la' 9 (by decide), j.1]; exact h5.cg h14 f (by decide)
  · rw [la' 9 (by decide), j.1]
    intro n n0 n1
    obtain ⟨m, m1, m2⟩ := h6 n n0 n1
    exact ⟨m, by rw [rr 9 _ h5 h14]; exact m1, m2.cg f.to12 j.js hb h17⟩
  · rw [la' 9 (by decide), j.1]
    intro n n' n0 n1 n2
    rw [rr 9 _ h5 h14, rr 9 _ h5 h14]; exact h7 n n' n0 n1 n2
  · rw [f2 _ _ (Or.inr ⟨[], rfl⟩) hH (Or.inr (Or.inr (Or.inr (Or.inl ⟨b, rfl, rfl⟩)))), cn3_c 6 (fun k hk => j.2.2.1 _ (by omega) (by omega))]
    exact h8
  · intro s s0 s1
    rw [j.2.1] at s1
    rw [f2 _ _ (Or.inr ⟨[8, s], rfl⟩) (hS s s0 s1) (Or.inr (Or.inr (Or.inr (Or.inr ⟨b, s, rfl, rfl⟩))))]
    exact h9 s s0 s1
  · rw [la' 8 (by decide), j.2.1]; exact h11.cg h13 f (by decide)
  · unfold rw12
    rw [la' 7 (by decide), la' 8 (by decide), la' 9 (by decide)]
    exact ⟨h12, h13, h14⟩
  · rw [la' 7 (by decide), la' 8 (by decide), la' 9 (by decide)]
    exact h15
