/-! ===== a snapshot is being made: the reference's words against the list ===== -/
/-- what the making has changed, against the words J0 before it; Nw the new chunks -/
def QRs (J0 J1 : Int → Int → Int) (a sl : Int) (Nw : List Ck) : Prop :=
  ((∀ k x, k ≠ -1 → k ≠ 17 → k ≠ 18 → k ≠ 19 → k ≠ 20 → k ≠ 21 → k ≠ 22 → k ≠ 23 → J1 k x = J0 k x) ∧ (∀ x, x ≠ 30 → J1 (-1) x = J0 (-1) x)) ∧
  (∀ x, x < 10 * sl ∨ 10 * sl + 10 ≤ x → J1 17 x = J0 17 x) ∧
  (∀ x, x < 500 * sl ∨ 500 * sl + 500 ≤ x → J1 18 x = J0 18 x ∧ J1 19 x = J0 19 x) ∧
  (∀ x, x ≠ a → J1 20 x = J0 20 x) ∧
  (∀ x, x < 40 * a + J0 20 a ∨ 40 * a + 40 ≤ x → J1 21 x = J0 21 x ∧ J1 22 x = J0 22 x) ∧
  (∀ x, x < 60 * (40 * a + J0 20 a) ∨ 2400 * a + 2400 ≤ x → J1 23 x = J0 23 x) ∧
  (∀ s, J0 20 a ≤ s → s < J1 20 a → J1 21 (40 * a + s) = 0 ∧ J1 22 (40 * a + s) = 0) ∧
  (J0 20 a ≤ J1 20 a ∧ ((J1 20 a = J0 20 a ∧ J1 (-1) 30 = 60 ∧ Nw = []) ∨ J0 20 a < J1 20 a)) ∧
  (∀ e ∈ Nw, 60 * (40 * a + J0 20 a) ≤ e.2.2.1 ∧ e.2.2.1 + e.2.2.2 ≤ pcJ J1 a) ∧
  (∀ P, 60 * (40 * a + J0 20 a) ≤ P → P < 60 * (40 * a + J1 20 a) → (∀ e ∈ Nw, ¬ (e.2.2.1 ≤ P ∧ P < e.2.2.1 + e.2.2.2)) → J1 23 P = 0)
theorem alJ_ent {J : Int → Int → Int} {sl : Int} {t : Nat} (h0 : 0 ≤ J 17 (10 * sl + t)) : ∀ n : Nat, alJ (uJ J 17 (10 * sl + t) (J 17 (10 * sl + t) + 1)) sl n = alJ J sl n + (if t < n then 1 else 0)
  | 0 => by rw [if_neg (by omega)]; rfl
  | n + 1 => by
    show alJ (uJ J 17 (10 * sl + t) (J 17 (10 * sl + t) + 1)) sl n + _ = alJ J sl n + _ + _
    rw [alJ_ent h0 n, uJ_self]
    by_cases z : n = t
    · subst z
      rw [upI_self, if_neg (by omega), if_neg (show ¬ J 17 (10 * sl + n) + 1 ≤ 0 by omega), if_pos (show n < n + 1 by omega)]
      by_cases y : J 17 (10 * sl + n) ≤ 0
      · rw [if_pos y]; omega
      · rw [if_neg y]; omega
    · rw [upI_ne _ _ (by omega)]
      by_cases y : t < n
      · rw [if_pos y, if_pos (show t < n + 1 by omega)]; omega
      · rw [if_neg y, if_neg (show ¬ t < n + 1 by omega)]; omega
/-- one entry more in the slot that is being made -/
def entJ (J : Int → Int → Int) (sl t P z : Int) : Int → Int → Int := uJ (uJ (uJ J 18 (500 * sl + alJ J sl 10) P) 19 (500 * sl + alJ J sl 10) z) 17 (10 * sl + t) (J 17 (10 * sl + t) + 1)
theorem entJ_o {J : Int → Int → Int} {sl t P z k x : Int} (h : k ≠ 17 ∧ k ≠ 18 ∧ k ≠ 19) : entJ J sl t P z k x = J k x := by
  unfold entJ
  rw [uJ_ne h.1, uJ_ne h.2.2, uJ_ne h.2.1]
theorem entJ_18 {J : Int → Int → Int} {sl t P z x : Int} : entJ J sl t P z 18 x = if x = 500 * sl + alJ J sl 10 then P else J 18 x := by
  unfold entJ
  rw [uJ_ne (by decide), uJ_ne (by decide), uJ_self]
  by_cases q : x = 500 * sl + alJ J sl 10
  · rw [if_pos q, q, upI_self]
  · rw [if_neg q, upI_ne _ _ q]
theorem entJ_19 {J : Int → Int → Int} {sl t P z x : Int} : entJ J sl t P z 19 x = if x = 500 * sl + alJ J sl 10 then z else J 19 x := by
  unfold entJ
  rw [uJ_ne (by decide), uJ_self]
  by_cases q : x = 500 * sl + alJ J sl 10
  · rw [if_pos q, q, upI_self]
  · rw [if_neg q, upI_ne _ _ q, uJ_ne (by decide)]
theorem entJ_17 {J : Int → Int → Int} {sl t P z x : Int} : entJ J sl t P z 17 x = if x = 10 * sl + t then J 17 x + 1 else J 17 x := by
  unfold entJ
  rw [uJ_self]
  by_cases q : x = 10 * sl + t
  · rw [if_pos q, q, upI_self]
  · rw [if_neg q, upI_ne _ _ q, uJ_ne (by decide), uJ_ne (by decide)]
theorem entJ_al {J : Int → Int → Int} {sl P z : Int} {t : Nat} (h0 : 0 ≤ J 17 (10 * sl + t)) (n : Nat) : alJ (entJ J sl t P z) sl n = alJ J sl n + (if t < n then 1 else 0) := by
  rw [← alJ_ent h0 n]
  refine alJ_c n (fun x _ => ?_)
  unfold entJ
  rw [uJ_self, uJ_self]
  by_cases q : 10 * sl + (x : Int) = 10 * sl + t
  · rw [q, upI_self, upI_self]
  · rw [upI_ne _ _ q, upI_ne _ _ q, uJ_ne (by decide), uJ_ne (by decide)]
theorem CVR.ent {J : Int → Int → Int} {a : Int} {ks t : Nat} {P z : Int} {L : List Ck} {e : Ck} (hks : ks < 6) (ht : t < 10) (h0 : 0 ≤ J 17 (10 * (6 * a + ks) + t)) (h17 : ∀ x, J 17 x ≤ 50) (h49 : J 17 (10 * (6 * a + ks) + t) < 50) (c1 : L.Pairwise (DCk J)) (c2 : ∀ e ∈ L, (1 ≤ e.2.2.2 ∧ e.2.2.2 ≤ 16) ∧ 2400 * a ≤ e.2.2.1 ∧ e.2.2.1 + e.2.2.2 ≤ 2400 * a + 60 * J 20 a ∧ e.2.2.1 % 60 + e.2.2.2 ≤ 60) (c3 : ∀ k i : Nat, enJ J a (6 * a + ks) k i → ∃ e ∈ L, e.2.2.1 = J 18 (500 * (6 * a + k) + i) ∧ e.2.2.2 = J 19 (500 * (6 * a + k) + i)) (c4 : ∀ f ∈ L, f.2.2.1 = P ∨ ∃ k i : Nat, enJ J a (6 * a + ks) k i ∧ J 18 (500 * (6 * a + k) + i) = f.2.2.1) (he : e ∈ L) (eP : e.2.2.1 = P) (eL : e.2.2.2 = z) : CVR (entJ J (6 * a + ks) t P z) a (6 * a + ks) L := by
  have al := fun k : Nat => alJ_50 (J := J) (sl := 6 * a + k) h17 10
  have a0 := fun k : Nat => alJ_0 (J := J) (sl := 6 * a + k) 10
  have alk : ∀ k : Nat, k ≠ ks → k < 6 → alJ (entJ J (6 * a + ks) t P z) (6 * a + k) 10 = alJ J (6 * a + k) 10 := fun k hk hk6 => alJ_c 10 (fun x hx => by rw [entJ_17, if_neg (by omega)])
  have als : alJ (entJ J (6 * a + ks) t P z) (6 * a + ks) 10 = alJ J (6 * a + ks) 10 + 1 := by rw [entJ_al h0, if_pos ht]
  have e16 : ∀ x, entJ J (6 * a + ks) t P z 16 x = J 16 x := fun x => entJ_o (by decide)
  have old : ∀ k i : Nat, enJ J a (6 * a + ks) k i → enJ (entJ J (6 * a + ks) t P z) a (6 * a + ks) k i ∧ entJ J (6 * a + ks) t P z 18 (500 * (6 * a + k) + i) = J 18 (500 * (6 * a + k) + i) ∧ entJ J (6 * a + ks) t P z 19 (500 * (6 * a + k) + i) = J 19 (500 * (6 * a + k) + i) := fun k i h => by
    obtain ⟨x1, x2, x3⟩ := h
    have b1 := al k
    have b2 := al ks
    have b3 := a0 ks
    have ne : 500 * (6 * a + (k : Int)) + i ≠ 500 * (6 * a + ks) + alJ J (6 * a + ks) 10 := fun y => by
      by_cases u : k = ks
      · subst u; omega
      · have al49 : alJ J (6 * a + ks) 10 < 500 := by
          by_cases v : alJ J (6 * a + ks) 10 < 500
          · exact v
          · exfalso
            have s : ∀ n : Nat, n ≤ 10 → alJ J (6 * a + ks) n ≤ 50 * n - (if t < n then 1 else 0) := by
              intro n
              induction n with
              | zero => intro _; rw [if_neg (by omega)]; exact Int.le_refl _
              | succ n ih =>
                intro hn
                have ih' := ih (by omega)
                have q5 := h17 (10 * (6 * a + ks) + n)
                show alJ J (6 * a + ks) n + _ ≤ _
                by_cases w : n = t
                · subst w
                  rw [if_neg (by omega)] at ih'
                  rw [if_pos (show n < n + 1 by omega)]
                  split <;> omega
                · by_cases w2 : t < n
                  · rw [if_pos w2] at ih'
                    rw [if_pos (show t < n + 1 by omega)]
                    split <;> omega
                  · rw [if_neg w2] at ih'
                    rw [if_neg (show ¬ t < n + 1 by omega)]
                    split <;> omega
            have := s 10 (Nat.le_refl _)
            rw [if_pos ht] at this
            omega
        omega
    refine ⟨⟨x1, ?_, ?_⟩, by rw [entJ_18, if_neg ne], by rw [entJ_19, if_neg ne]⟩
    · unfold lvJ; rw [e16]; exact x2
    · by_cases u : k = ks
      · subst u; rw [als]; omega
      · rw [alk k u x1]; exact x3
  refine ⟨?_, ?_, ?_, ?_⟩
  · refine c1.imp ?_
    intro f g d
    refine ⟨d.1, d.2.1, fun z => d.2.2 ⟨z.1, fun x x0 x1 => ?_⟩⟩
    have := z.2 x x0 x1
    rw [entJ_o (by decide), entJ_o (by decide)] at this
    exact this
  · rw [entJ_o (by decide)]; exact c2
  · intro k i hk
    obtain ⟨x1, x2, x3⟩ := hk
    unfold lvJ at x2
    rw [e16] at x2
    by_cases u : k = ks
    · subst u
      rw [als] at x3
      by_cases v : (i : Int) = alJ J (6 * a + k) 10
      · rw [v, entJ_18, entJ_19, if_pos rfl, if_pos rfl]
        exact ⟨e, he, eP, eL⟩
      · have en : enJ J a (6 * a + k) k i := ⟨x1, x2, by omega⟩
        rw [(old k i en).2.1, (old k i en).2.2]; exact c3 k i en
    · rw [alk k u x1] at x3
      have en : enJ J a (6 * a + ks) k i := ⟨x1, x2, x3⟩
      rw [(old k i en).2.1, (old k i en).2.2]; exact c3 k i en
  · intro f hf
    rcases c4 f hf with h | ⟨k, i, h1, h2⟩
    · refine ⟨ks, (alJ J (6 * a + ks) 10).toNat, ⟨hks, Or.inr rfl, ?_⟩, ?_⟩
      · rw [als]; have := a0 ks; omega
      · have b3 := a0 ks
        rw [Int.toNat_of_nonneg b3, entJ_18, if_pos rfl]; exact h.symm
    · exact ⟨k, i, (old k i h1).1, by rw [(old k i h1).2.1]; exact h2⟩
theorem QRs.ent {J0 J : Int → Int → Int} {a sl t P z : Int} {Nw : List Ck} (h : QRs J0 J a sl Nw) (ht : 0 ≤ t ∧ t < 10) (ha : 0 ≤ alJ J sl 10 ∧ alJ J sl 10 < 500) : QRs J0 (entJ J sl t P z) a sl Nw := by
  obtain ⟨⟨q1, q2⟩, q3, q4, q5, q6, q7, q8, q9, q10, q11⟩ := h
  have o20 : entJ J sl t P z 20 a = J 20 a := entJ_o (by decide)
  have om : entJ J sl t P z (-1) 30 = J (-1) 30 := entJ_o (by decide)
  refine ⟨⟨fun k x k1 k2 k3 k4 k5 k6 k7 k8 => ?_, fun x hx => ?_⟩, fun x hx => ?_, fun x hx => ?_, fun x hx => ?_, fun x hx => ?_, fun x hx => ?_, fun s s0 s1 => ?_, ?_, fun e he => ?_, fun p p0 p1 hp => ?_⟩
  · rw [entJ_o ⟨k2, k3, k4⟩]; exact q1 k x k1 k2 k3 k4 k5 k6 k7 k8
  · rw [entJ_o (by decide)]; exact q2 x hx
  · rw [entJ_17, if_neg (by omega)]; exact q3 x hx
  · rw [entJ_18, entJ_19, if_neg (by omega), if_neg (by omega)]; exact q4 x hx
  · rw [entJ_o (by decide)]; exact q5 x hx
  · rw [entJ_o (by decide), entJ_o (by decide)]; exact q6 x hx
  · rw [entJ_o (by decide)]; exact q7 x hx
  · rw [o20] at s1
    rw [entJ_o (by decide), entJ_o (by decide)]; exact q8 s s0 s1
  · rw [o20, om]; exact q9
  · unfold pcJ; rw [o20, om]; exact q10 e he
  · rw [o20] at p1
    rw [entJ_o (by decide)]; exact q11 p p0 p1 hp
theorem opJ_o {J : Int → Int → Int} {a k x : Int} (h : k ≠ -1 ∧ k ≠ 20 ∧ k ≠ 21 ∧ k ≠ 22 ∧ k ≠ 23) : opJ J a k x = J k x := by
  unfold opJ
  rw [uJ_ne h.1, wJ_ne h.2.2.2.2, uJ_ne h.2.2.2.1, uJ_ne h.2.2.1, uJ_ne h.2.1]
theorem opJ_23 {J : Int → Int → Int} {a x : Int} : opJ J a 23 x = if 60 * (40 * a + J 20 a) ≤ x ∧ x < 60 * (40 * a + J 20 a) + 60 then 0 else J 23 x := by
  unfold opJ
  rw [uJ_ne (by decide)]
  by_cases q : 60 * (40 * a + J 20 a) ≤ x ∧ x < 60 * (40 * a + J 20 a) + 60
  · rw [if_pos q, wJ_in q]
  · rw [if_neg q, wJ_out (by omega), uJ_ne (by decide), uJ_ne (by decide), uJ_ne (by decide)]
theorem opJ_21 {J : Int → Int → Int} {a x : Int} : opJ J a 21 x = (if x = 40 * a + J 20 a then 0 else J 21 x) ∧ opJ J a 22 x = if x = 40 * a + J 20 a then 0 else J 22 x := by
  unfold opJ
  constructor
  · rw [uJ_ne (by decide), wJ_ne (by decide), uJ_ne (by decide), uJ_self]
    by_cases q : x = 40 * a + J 20 a
    · rw [if_pos q, q, upI_self]
    · rw [if_neg q, upI_ne _ _ q, uJ_ne (by decide)]
  · rw [uJ_ne (by decide), wJ_ne (by decide), uJ_self]
    by_cases q : x = 40 * a + J 20 a
    · rw [if_pos q, q, upI_self]
    · rw [if_neg q, upI_ne _ _ q, uJ_ne (by decide), uJ_ne (by decide)]
theorem opJ_m {J : Int → Int → Int} {a x : Int} (h : x ≠ 30) : opJ J a (-1) x = J (-1) x := by
  unfold opJ
  rw [uJ_self, upI_ne _ _ h, wJ_ne (by decide), uJ_ne (by decide), uJ_ne (by decide), uJ_ne (by decide)]
theorem opJ_20o {J : Int → Int → Int} {a x : Int} (h : x ≠ a) : opJ J a 20 x = J 20 x := by
  unfold opJ
  rw [uJ_ne (by decide), wJ_ne (by decide), uJ_ne (by decide), uJ_ne (by decide), uJ_self, upI_ne _ _ h]
theorem QRs.op {J0 J : Int → Int → Int} {a sl : Int} {Nw : List Ck} (h : QRs J0 J a sl Nw) (hm : 0 ≤ J (-1) 30 ∧ J (-1) 30 ≤ 60) (h20 : J 20 a < 40) : QRs J0 (opJ J a) a sl Nw := by
  obtain ⟨⟨q1, q2⟩, q3, q4, q5, q6, q7, q8, q9, q10, q11⟩ := h
  have o := opJ_20 (J := J) (a := a)
  refine ⟨⟨fun k x k1 k2 k3 k4 k5 k6 k7 k8 => ?_, fun x hx => ?_⟩, fun x hx => ?_, fun x hx => ?_, fun x hx => ?_, fun x hx => ?_, fun x hx => ?_, fun s s0 s1 => ?_, ?_, fun e he => ?_, fun p p0 p1 hp => ?_⟩
  · rw [opJ_o ⟨k1, k5, k6, k7, k8⟩]; exact q1 k x k1 k2 k3 k4 k5 k6 k7 k8
  · rw [opJ_m hx]; exact q2 x hx
  · rw [opJ_o (by decide)]; exact q3 x hx
  · rw [opJ_o (by decide), opJ_o (by decide)]; exact q4 x hx
  · rw [opJ_20o hx]; exact q5 x hx
  · rw [opJ_21.1, opJ_21.2, if_neg (by omega), if_neg (by omega)]; exact q6 x hx
  · rw [opJ_23, if_neg (by omega)]; exact q7 x hx
  · rw [o.1] at s1
    rw [opJ_21.1, opJ_21.2]
    by_cases z : 40 * a + s = 40 * a + J 20 a
    · rw [if_pos z, if_pos z]; exact ⟨rfl, rfl⟩
    · rw [if_neg z, if_neg z]; exact q8 s s0 (by omega)
  · rw [o.1]; omega
  · unfold pcJ
    rw [o.1, o.2]
    have := q10 e he
    unfold pcJ at this
    omega
  · rw [o.1] at p1
    rw [opJ_23]
    by_cases z : 60 * (40 * a + J 20 a) ≤ p ∧ p < 60 * (40 * a + J 20 a) + 60
    · rw [if_pos z]
    · rw [if_neg z]; exact q11 p p0 (by omega) hp
theorem flJ1_o {J : Int → Int → Int} {a f fr z k x : Int} (h : k ≠ -1 ∧ k ≠ 23) : flJ1 J a f fr z k x = J k x := by
  unfold flJ1
  rw [uJ_ne h.1, wJ_ne h.2]
theorem flJ1_23 {J : Int → Int → Int} {a f fr z x : Int} : flJ1 J a f fr z 23 x = if pcJ J a ≤ x ∧ x < pcJ J a + z then J 14 (200 * f + fr + (x - pcJ J a)) else J 23 x := by
  unfold flJ1
  rw [uJ_ne (by decide)]
  by_cases q : pcJ J a ≤ x ∧ x < pcJ J a + z
  · rw [if_pos q, wJ_in q]
  · rw [if_neg q, wJ_out (by omega)]
theorem flJ1_m {J : Int → Int → Int} {a f fr z x : Int} : flJ1 J a f fr z (-1) x = if x = 30 then J (-1) 30 + z else J (-1) x := by
  unfold flJ1
  rw [uJ_self]
  by_cases q : x = 30
  · rw [if_pos q, q, upI_self]
  · rw [if_neg q, upI_ne _ _ q, wJ_ne (by decide)]
/-- a new chunk is put -/
theorem QRs.fl {J0 J : Int → Int → Int} {a sl f fr z : Int} {Nw : List Ck} {nc nb : Nm} (h : QRs J0 J a sl Nw) (hm : 0 ≤ J (-1) 30 ∧ J (-1) 30 + z ≤ 60) (hz : 1 ≤ z) (h20 : J0 20 a < J 20 a) (h4 : J 20 a ≤ 40) : QRs J0 (flJ1 J a f fr z) a sl (Nw ++ [(nc, nb, pcJ J a, z)]) := by
  obtain ⟨⟨q1, q2⟩, q3, q4, q5, q6, q7, q8, q9, q10, q11⟩ := h
  have o20 : flJ1 J a f fr z 20 a = J 20 a := flJ1_o (by decide)
  have om : flJ1 J a f fr z (-1) 30 = J (-1) 30 + z := by rw [flJ1_m, if_pos rfl]
  have pc : pcJ J a = 60 * (40 * a + J 20 a - 1) + J (-1) 30 := rfl
  refine ⟨⟨fun k x k1 k2 k3 k4 k5 k6 k7 k8 => ?_, fun x hx => ?_⟩, fun x hx => ?_, fun x hx => ?_, fun x hx => ?_, fun x hx => ?_, fun x hx => ?_, fun s s0 s1 => ?_, ?_, fun e he => ?_, fun p p0 p1 hp => ?_⟩
  · rw [flJ1_o ⟨k1, k8⟩]; exact q1 k x k1 k2 k3 k4 k5 k6 k7 k8
  · rw [flJ1_m, if_neg hx]; exact q2 x hx
  · rw [flJ1_o (by decide)]; exact q3 x hx
  · rw [flJ1_o (by decide), flJ1_o (by decide)]; exact q4 x hx
  · rw [flJ1_o (by decide)]; exact q5 x hx
  · rw [flJ1_o (by decide), flJ1_o (by decide)]; exact q6 x hx
  · rw [flJ1_23, if_neg (by omega)]; exact q7 x hx
  · rw [o20] at s1
    rw [flJ1_o (by decide), flJ1_o (by decide)]; exact q8 s s0 s1
  · rw [o20]; exact ⟨q9.1, Or.inr h20⟩
  · have e' : pcJ (flJ1 J a f fr z) a = 60 * (40 * a + J 20 a - 1) + (J (-1) 30 + z) := by unfold pcJ; rw [o20, om]
    rw [e']
    rcases List.mem_append.mp he with g | g
    · have := q10 e g
      omega
    · obtain rfl := List.mem_singleton.mp g
      show 60 * (40 * a + J0 20 a) ≤ pcJ J a ∧ pcJ J a + z ≤ _
      omega
  · rw [o20] at p1
    have hp' := hp (nc, nb, pcJ J a, z) (List.mem_append.mpr (Or.inr (List.mem_singleton.mpr rfl)))
    rw [flJ1_23, if_neg hp']
    exact q11 p p0 p1 (fun e he => hp e (List.mem_append.mpr (Or.inl he)))
theorem CVR.up20 {J J' : Int → Int → Int} {a sl : Int} {L : List Ck} (h : CVR J a sl L) (e : ∀ k x, k = 16 ∨ k = 17 ∨ k = 18 ∨ k = 19 → J' k x = J k x) (h20 : J 20 a ≤ J' 20 a) (h23 : ∀ f ∈ L, ∀ x, 0 ≤ x → x < f.2.2.2 → J' 23 (f.2.2.1 + x) = J 23 (f.2.2.1 + x)) : CVR J' a sl L := by
  obtain ⟨c1, c2, c3, c4⟩ := h
  have ee : ∀ k i : Nat, enJ J' a sl k i ↔ enJ J a sl k i := fun k i => by
    unfold enJ lvJ
    rw [e 16 _ (by decide), alJ_c (J := J) 10 (fun x _ => e 17 _ (by decide))]
  refine ⟨?_, ?_, ?_, ?_⟩
  · refine List.Pairwise.imp_of_mem ?_ c1
    intro f g hf hg d
    refine ⟨d.1, d.2.1, fun z => d.2.2 ⟨z.1, fun x x0 x1 => ?_⟩⟩
    have := z.2 x x0 x1
    rw [h23 f hf x x0 x1, h23 g hg x x0 (by rw [← z.1]; exact x1)] at this
    exact this
  · intro f hf
    have := c2 f hf
    exact ⟨this.1, this.2.1, by omega, this.2.2.2⟩
  · intro k i hk
    rw [e 18 _ (by decide), e 19 _ (by decide)]
    exact c3 k i ((ee k i).mp hk)
  · intro f hf
    obtain ⟨k, i, h1, h2⟩ := c4 f hf
    exact ⟨k, i, (ee k i).mpr h1, by rw [e 18 _ (by decide)]; exact h2⟩
