/-! ===== chunks that living snapshots have: the reference's words against a list ===== -/
/-- name, bytes' name, place, length -/
abbrev Ck : Type := Nm × Nm × Int × Int
def DCk (J : Int → Int → Int) (e f : Ck) : Prop := e.1 ≠ f.1 ∧ e.2.2.1 ≠ f.2.2.1 ∧ ¬ (e.2.2.2 = f.2.2.2 ∧ ∀ x : Int, 0 ≤ x → x < e.2.2.2 → J 23 (e.2.2.1 + x) = J 23 (f.2.2.1 + x))
theorem DCk.symm {J : Int → Int → Int} {e f : Ck} (h : DCk J e f) : DCk J f e := ⟨Ne.symm h.1, Ne.symm h.2.1, fun z => h.2.2 ⟨z.1.symm, fun x x0 x1 => (z.2 x x0 (by rw [z.1]; exact x1)).symm⟩⟩
theorem pw_or {α : Type} {D : α → α → Prop} (hs : ∀ e f, D e f → D f e) : ∀ {L : List α}, L.Pairwise D → ∀ e ∈ L, ∀ f ∈ L, e = f ∨ D e f
  | [], _, e, he, _, _ => absurd he List.not_mem_nil
  | x :: L, h, e, he, f, hf => by
    rw [List.pairwise_cons] at h
    rcases List.mem_cons.mp he with rfl | he
    · rcases List.mem_cons.mp hf with rfl | hf
      · exact Or.inl rfl
      · exact Or.inr (h.1 f hf)
    · rcases List.mem_cons.mp hf with rfl | hf
      · exact Or.inr (hs _ _ (h.1 e (by assumption)))
      · exact pw_or hs h.2 e (by assumption) f hf
/-- slot 6a + k counts: its snapshot lives, or it is the one that is being made -/
abbrev lvJ (J : Int → Int → Int) (a sl : Int) (k : Nat) : Prop := 0 ≤ J 16 (6 * a + k) ∨ 6 * a + (k : Int) = sl
def uI (J : Int → Int → Int) (s P : Int) : Nat → Int
  | 0 => 0
  | q + 1 => uI J s P q + (if J 18 (500 * s + q) = P then 1 else 0)
def uA (J : Int → Int → Int) (a P : Int) : Nat → Int
  | 0 => 0
  | k + 1 => uA J a P k + (if 0 ≤ J 16 (6 * a + k) then uI J (6 * a + k) P (alJ J (6 * a + k) 10).toNat else 0)
theorem uI_p {J : Int → Int → Int} {s P : Int} : ∀ n : Nat, 0 ≤ uI J s P n ∧ (0 < uI J s P n ↔ ∃ i : Nat, i < n ∧ J 18 (500 * s + i) = P)
  | 0 => ⟨Int.le_refl _, fun h => absurd h (by show ¬ (0 : Int) < 0; decide), fun ⟨i, h, _⟩ => absurd h (Nat.not_lt_zero _)⟩
  | n + 1 => by
    obtain ⟨a, b⟩ := uI_p (J := J) (s := s) (P := P) n
    by_cases q : J 18 (500 * s + n) = P
    · have e : uI J s P (n + 1) = uI J s P n + 1 := by show uI J s P n + _ = _; rw [if_pos q]
      rw [e]
      exact ⟨by omega, fun _ => ⟨n, by omega, q⟩, fun _ => by omega⟩
    · have e : uI J s P (n + 1) = uI J s P n := by show uI J s P n + _ = _; rw [if_neg q, Int.add_zero]
      rw [e]
      refine ⟨a, fun h => ?_, fun ⟨i, hi, hp⟩ => b.mpr ⟨i, ?_, hp⟩⟩
      · obtain ⟨i, hi, hp⟩ := b.mp h
        exact ⟨i, by omega, hp⟩
      · have : i ≠ n := fun z => q (by rw [← z]; exact hp)
        omega
abbrev enJ (J : Int → Int → Int) (a sl : Int) (k i : Nat) : Prop := k < 6 ∧ lvJ J a sl k ∧ (i : Int) < alJ J (6 * a + k) 10
theorem uA_p {J : Int → Int → Int} {a P : Int} : ∀ n : Nat, 0 ≤ uA J a P n ∧ (0 < uA J a P n ↔ ∃ k i : Nat, k < n ∧ 0 ≤ J 16 (6 * a + k) ∧ (i : Int) < alJ J (6 * a + k) 10 ∧ J 18 (500 * (6 * a + k) + i) = P)
  | 0 => ⟨Int.le_refl _, fun h => absurd h (by show ¬ (0 : Int) < 0; decide), fun ⟨k, _, h, _⟩ => absurd h (Nat.not_lt_zero _)⟩
  | n + 1 => by
    obtain ⟨x, b⟩ := uA_p (J := J) (a := a) (P := P) n
    obtain ⟨y, z⟩ := uI_p (J := J) (s := 6 * a + n) (P := P) (alJ J (6 * a + n) 10).toNat
    by_cases q : 0 ≤ J 16 (6 * a + n)
    · have e : uA J a P (n + 1) = uA J a P n + uI J (6 * a + n) P (alJ J (6 * a + n) 10).toNat := by show uA J a P n + _ = _; rw [if_pos q]
      rw [e]
      refine ⟨by omega, fun h => ?_, fun ⟨k, i, hk, h1, h2, h3⟩ => ?_⟩
      · by_cases p : 0 < uA J a P n
        · obtain ⟨k, i, hk, h1⟩ := b.mp p
          exact ⟨k, i, by omega, h1⟩
        · obtain ⟨i, hi, hp⟩ := z.mp (by omega)
          exact ⟨n, i, by omega, q, by omega, hp⟩
      · by_cases p : k = n
        · subst p
          have := z.mpr ⟨i, by omega, h3⟩
          omega
        · have := b.mpr ⟨k, i, by omega, h1, h2, h3⟩
          omega
    · have e : uA J a P (n + 1) = uA J a P n := by show uA J a P n + _ = _; rw [if_neg q, Int.add_zero]
      rw [e]
      refine ⟨x, fun h => ?_, fun ⟨k, i, hk, h1, h2, h3⟩ => b.mpr ⟨k, i, ?_, h1, h2, h3⟩⟩
      · obtain ⟨k, i, hk, h1⟩ := b.mp h
        exact ⟨k, i, by omega, h1⟩
      · have : k ≠ n := fun z => q (by rw [← z]; exact h1)
        omega
theorem hsD_p {J : Int → Int → Int} {sl P n : Int} : ∀ q : Nat, (hsD J sl P n q = 0 ∨ hsD J sl P n q = 1) ∧ (hsD J sl P n q ≠ 0 ↔ ∃ i : Nat, i < q ∧ J 18 (500 * sl + (n - (i + 1))) = P)
  | 0 => ⟨Or.inl rfl, fun h => absurd rfl h, fun ⟨i, h, _⟩ => absurd h (Nat.not_lt_zero _)⟩
  | q + 1 => by
    obtain ⟨a, b⟩ := hsD_p (J := J) (sl := sl) (P := P) (n := n) q
    by_cases p : J 18 (500 * sl + (n - (q + 1))) = P
    · rw [show hsD J sl P n (q + 1) = 1 from if_pos p]
      exact ⟨Or.inr rfl, fun _ => ⟨q, by omega, p⟩, fun _ => by decide⟩
    · rw [show hsD J sl P n (q + 1) = hsD J sl P n q from if_neg p]
      refine ⟨a, fun h => ?_, fun ⟨i, hi, hp⟩ => b.mpr ⟨i, ?_, hp⟩⟩
      · obtain ⟨i, hi, hp⟩ := b.mp h
        exact ⟨i, by omega, hp⟩
      · have : i ≠ q := fun z => p (by rw [← z]; exact hp)
        omega
theorem hsS_p {J : Int → Int → Int} {a P : Int} : ∀ q : Nat, q ≤ 6 → (hsS J a P q ≠ 0 ↔ ∃ k i : Nat, 6 - q ≤ k ∧ k < 6 ∧ 0 ≤ J 16 (6 * a + k) ∧ (i : Int) < alJ J (6 * a + k) 10 ∧ J 18 (500 * (6 * a + k) + i) = P) ∧ (hsS J a P q = 0 ∨ hsS J a P q = 1)
  | 0, _ => ⟨⟨fun h => absurd rfl h, fun ⟨k, _, h1, h2, _⟩ => by omega⟩, Or.inl rfl⟩
  | q + 1, hq => by
    obtain ⟨b, bb⟩ := hsS_p (J := J) (a := a) (P := P) q (by omega)
    have e1 : 6 * a + (5 - (q : Int)) = 6 * a + ((5 - q : Nat) : Int) := by omega
    by_cases p : 0 ≤ J 16 (6 * a + (5 - q)) ∧ hsD J (6 * a + (5 - q)) P (alJ J (6 * a + (5 - q)) 10) (alJ J (6 * a + (5 - q)) 10).toNat ≠ 0
    · rw [show hsS J a P (q + 1) = 1 from if_pos p]
      refine ⟨⟨fun _ => ?_, fun _ => by decide⟩, Or.inr rfl⟩
      obtain ⟨i, hi, hp⟩ := (hsD_p _).2.mp p.2
      refine ⟨5 - q, (alJ J (6 * a + (5 - q)) 10).toNat - (i + 1), by omega, by omega, by rw [← e1]; exact p.1, by rw [← e1]; omega, ?_⟩
      rw [← e1, show ((((alJ J (6 * a + (5 - (q : Int))) 10).toNat - (i + 1) : Nat)) : Int) = alJ J (6 * a + (5 - q)) 10 - (i + 1) by omega]
      exact hp
    · rw [show hsS J a P (q + 1) = hsS J a P q from if_neg p]
      refine ⟨⟨fun h => ?_, fun ⟨k, i, k0, k1, h1, h2, h3⟩ => b.mpr ⟨k, i, ?_, k1, h1, h2, h3⟩⟩, bb⟩
      · obtain ⟨k, i, k0, h1⟩ := b.mp h
        exact ⟨k, i, by omega, h1⟩
      · by_cases z : k = 5 - q
        · refine absurd ⟨by rw [e1, ← z]; exact h1, ?_⟩ p
          refine (hsD_p _).2.mpr ⟨(alJ J (6 * a + (5 - q)) 10).toNat - (i + 1), ?_, ?_⟩
          · rw [e1, ← z]; omega
          · rw [e1, ← z]
            rw [show alJ J (6 * a + (k : Int)) 10 - ((((alJ J (6 * a + (k : Int)) 10).toNat - (i + 1) : Nat) : Int) + 1) = i by omega]
            exact h3
        · omega
theorem usI_p {J : Int → Int → Int} {sl S u : Int} : ∀ q : Nat, (usI J sl S u q ≠ 0 ↔ u ≠ 0 ∨ ∃ i : Nat, i < q ∧ J 18 (500 * sl + i) / 60 = S)
  | 0 => ⟨fun h => Or.inl h, fun h => h.elim id (fun ⟨i, h, _⟩ => absurd h (Nat.not_lt_zero _))⟩
  | q + 1 => by
    have b := usI_p (J := J) (sl := sl) (S := S) (u := u) q
    by_cases p : usI J sl S u q ≠ 0 ∨ J 18 (500 * sl + q) / 60 = S
    · rw [show usI J sl S u (q + 1) = 1 from if_pos p]
      refine ⟨fun _ => ?_, fun _ => by decide⟩
      rcases p with p | p
      · exact (b.mp p).imp id (fun ⟨i, hi, hp⟩ => ⟨i, by omega, hp⟩)
      · exact Or.inr ⟨q, by omega, p⟩
    · rw [show usI J sl S u (q + 1) = 0 from if_neg p]
      refine ⟨fun h => absurd rfl h, fun h => absurd ?_ p⟩
      rcases h with h | ⟨i, hi, hp⟩
      · exact Or.inl (b.mpr (Or.inl h))
      · by_cases z : i = q
        · exact Or.inr (by rw [← z]; exact hp)
        · exact Or.inl (b.mpr (Or.inr ⟨i, by omega, hp⟩))
theorem usJ_p {J : Int → Int → Int} {a S : Int} : ∀ q : Nat, (usJ J a S q ≠ 0 ↔ ∃ k i : Nat, k < q ∧ 0 ≤ J 16 (6 * a + k) ∧ (i : Int) < alJ J (6 * a + k) 10 ∧ J 18 (500 * (6 * a + k) + i) / 60 = S)
  | 0 => ⟨fun h => absurd rfl h, fun ⟨k, _, h, _⟩ => absurd h (Nat.not_lt_zero _)⟩
  | q + 1 => by
    have b := usJ_p (J := J) (a := a) (S := S) q
    by_cases p : J 16 (6 * a + q) < 0
    · rw [show usJ J a S (q + 1) = usJ J a S q from if_pos p]
      refine ⟨fun h => ?_, fun ⟨k, i, hk, h1, h2⟩ => b.mpr ⟨k, i, ?_, h1, h2⟩⟩
      · obtain ⟨k, i, hk, h1⟩ := b.mp h
        exact ⟨k, i, by omega, h1⟩
      · have : k ≠ q := fun z => by rw [z] at h1; omega
        omega
    · rw [show usJ J a S (q + 1) = usI J (6 * a + q) S (usJ J a S q) (alJ J (6 * a + q) 10).toNat from if_neg p, usI_p]
      refine ⟨fun h => ?_, fun ⟨k, i, hk, h1, h2, h3⟩ => ?_⟩
      · rcases h with h | ⟨i, hi, hp⟩
        · obtain ⟨k, i, hk, h1⟩ := b.mp h
          exact ⟨k, i, by omega, h1⟩
        · exact ⟨q, i, by omega, by omega, by omega, hp⟩
      · by_cases z : k = q
        · subst z
          exact Or.inr ⟨i, by omega, h3⟩
        · exact Or.inl (b.mpr ⟨k, i, by omega, h1, h2, h3⟩)
/-- how many chunks of a list lie in segment S -/
def cS (S : Int) : List Ck → Int
  | [] => 0
  | e :: L => cS S L + (if e.2.2.1 / 60 = S then 1 else 0)
theorem cS_p {S : Int} : ∀ L : List Ck, 0 ≤ cS S L ∧ cS S L ≤ L.length ∧ (cS S L ≠ 0 ↔ ∃ e ∈ L, e.2.2.1 / 60 = S)
  | [] => ⟨Int.le_refl _, Int.le_refl _, fun h => absurd rfl h, fun ⟨e, he, _⟩ => absurd he List.not_mem_nil⟩
  | e :: L => by
    obtain ⟨a, a2, b⟩ := cS_p (S := S) L
    by_cases q : e.2.2.1 / 60 = S
    · rw [show cS S (e :: L) = cS S L + 1 by show cS S L + _ = _; rw [if_pos q], List.length_cons]
      exact ⟨by omega, by omega, fun _ => ⟨e, List.mem_cons_self, q⟩, fun _ => by omega⟩
    · rw [show cS S (e :: L) = cS S L by show cS S L + _ = _; rw [if_neg q, Int.add_zero], List.length_cons]
      refine ⟨a, by omega, fun h => ?_, fun ⟨f, hf, hq⟩ => b.mpr ⟨f, ?_, hq⟩⟩
      · obtain ⟨f, hf, hq⟩ := b.mp h
        exact ⟨f, List.mem_cons_of_mem _ hf, hq⟩
      · rcases List.mem_cons.mp hf with rfl | hf
        · exact absurd hq q
        · exact hf
theorem cS_app {S : Int} {L' : List Ck} : ∀ L : List Ck, cS S (L ++ L') = cS S L + cS S L'
  | [] => by show cS S L' = 0 + _; omega
  | e :: L => by
    show cS S (L ++ L') + _ = cS S L + _ + _
    rw [cS_app L]; omega
/-- how many of a list lie below P -/
def cB (P : Int) : List Ck → Int
  | [] => 0
  | e :: L => cB P L + (if e.2.2.1 < P then 1 else 0)
theorem cB_s {P : Int} : ∀ {L : List Ck}, L.Pairwise (fun e f => e.2.2.1 ≠ f.2.2.1) → cB (P + 1) L = cB P L + (if ∃ e ∈ L, e.2.2.1 = P then 1 else 0)
  | [], _ => by
    rw [if_neg (fun ⟨e, he, _⟩ => absurd he List.not_mem_nil)]; rfl
  | e :: L, h => by
    rw [List.pairwise_cons] at h
    have ih := cB_s (P := P) h.2
    show cB (P + 1) L + _ = cB P L + _ + _
    rw [ih]
    by_cases q : e.2.2.1 = P
    · rw [if_neg (fun ⟨f, hf, hq⟩ => h.1 f hf (q.trans hq.symm)), if_pos (show e.2.2.1 < P + 1 by omega), if_neg (show ¬ e.2.2.1 < P by omega), if_pos ⟨e, List.mem_cons_self, q⟩] <;> omega
    · by_cases q2 : ∃ f ∈ L, f.2.2.1 = P
      · obtain ⟨f, hf, hq⟩ := q2
        rw [if_pos ⟨f, hf, hq⟩, if_pos (show ∃ f ∈ e :: L, f.2.2.1 = P from ⟨f, List.mem_cons_of_mem _ hf, hq⟩)]
        by_cases q3 : e.2.2.1 < P
        · rw [if_pos (by omega), if_pos q3] <;> omega
        · rw [if_neg (by omega), if_neg q3] <;> omega
      · rw [if_neg q2, if_neg (show ¬ ∃ f ∈ e :: L, f.2.2.1 = P from fun ⟨f, hf, hq⟩ => (List.mem_cons.mp hf).elim (fun z => q (by rw [← z]; exact hq)) (fun z => q2 ⟨f, z, hq⟩))]
        by_cases q3 : e.2.2.1 < P
        · rw [if_pos (by omega), if_pos q3] <;> omega
        · rw [if_neg (by omega), if_neg q3] <;> omega
theorem cB_lo {P : Int} : ∀ {L : List Ck}, (∀ e ∈ L, P ≤ e.2.2.1) → cB P L = 0
  | [], _ => rfl
  | e :: L, h => by
    show cB P L + _ = _
    rw [cB_lo (fun f hf => h f (List.mem_cons_of_mem _ hf)), if_neg (by have := h e List.mem_cons_self; omega)]; rfl
theorem cB_hi {P : Int} : ∀ {L : List Ck}, (∀ e ∈ L, e.2.2.1 < P) → cB P L = L.length
  | [], _ => rfl
  | e :: L, h => by
    show cB P L + _ = _
    rw [cB_hi (fun f hf => h f (List.mem_cons_of_mem _ hf)), if_pos (h e List.mem_cons_self), List.length_cons]; rfl
/-- a list has the chunks of the slots that count, each once -/
def CVR (J : Int → Int → Int) (a sl : Int) (L : List Ck) : Prop :=
  L.Pairwise (DCk J) ∧ (∀ e ∈ L, (1 ≤ e.2.2.2 ∧ e.2.2.2 ≤ 16) ∧ 2400 * a ≤ e.2.2.1 ∧ e.2.2.1 + e.2.2.2 ≤ 2400 * a + 60 * J 20 a ∧ e.2.2.1 % 60 + e.2.2.2 ≤ 60) ∧
  (∀ k i : Nat, enJ J a sl k i → ∃ e ∈ L, e.2.2.1 = J 18 (500 * (6 * a + k) + i) ∧ e.2.2.2 = J 19 (500 * (6 * a + k) + i)) ∧
  (∀ e ∈ L, ∃ k i : Nat, enJ J a sl k i ∧ J 18 (500 * (6 * a + k) + i) = e.2.2.1)
theorem nCh_b {J : Int → Int → Int} {a : Int} {L : List Ck} (h : CVR J a (-1) L) (ha : 0 ≤ a) : ∀ q : Nat, nCh J a q = cB (2400 * a + q) L
  | 0 => by
    show (0 : Int) = _
    rw [cB_lo (fun e he => by have := (h.2.1 e he).2.1; omega)]
  | q + 1 => by
    have ih := nCh_b h ha q
    have p2 : L.Pairwise (fun e f => e.2.2.1 ≠ f.2.2.1) := h.1.imp (fun z => z.2.1)
    rw [show 2400 * a + ((q + 1 : Nat) : Int) = 2400 * a + q + 1 by omega, cB_s p2, ← ih]
    have key : hsS J a (2400 * a + q) 6 ≠ 0 ↔ ∃ e ∈ L, e.2.2.1 = 2400 * a + q := by
      rw [(hsS_p 6 (Nat.le_refl _)).1]
      refine ⟨fun ⟨k, i, _, k1, h1, h2, h3⟩ => ?_, fun ⟨e, he, hp⟩ => ?_⟩
      · obtain ⟨e, he, hp, _⟩ := h.2.2.1 k i ⟨k1, Or.inl h1, h2⟩
        exact ⟨e, he, hp.trans h3⟩
      · obtain ⟨k, i, ⟨k1, lv, h2⟩, h3⟩ := h.2.2.2 e he
        exact ⟨k, i, by omega, k1, lv.elim id (fun z => by omega), h2, h3.trans hp⟩
    by_cases z : hsS J a (2400 * a + q) 6 = 0
    · rw [show nCh J a (q + 1) = nCh J a q from if_pos z, if_neg (fun y => key.mpr y z), Int.add_zero]
    · rw [show nCh J a (q + 1) = nCh J a q + 1 from if_neg z, if_pos (key.mp z)]
theorem nCh_l {J : Int → Int → Int} {a : Int} {L : List Ck} (h : CVR J a (-1) L) (ha : 0 ≤ a) (h20 : J 20 a ≤ 40) : nCh J a 2400 = L.length := by
  rw [nCh_b h ha 2400]
  exact cB_hi (fun e he => by have := h.2.1 e he; omega)
theorem CVR_len {J : Int → Int → Int} {a sl : Int} {L : List Ck} (h : CVR J a sl L) (h20 : J 20 a ≤ 40) : L.length ≤ 2400 := by
  have p2 : L.Pairwise (fun e f => e.2.2.1 ≠ f.2.2.1) := h.1.imp (fun z => z.2.1)
  have s : ∀ q : Nat, cB (2400 * a + q) L ≤ q := by
    intro q
    induction q with
    | zero => rw [cB_lo (fun e he => by have := (h.2.1 e he).2.1; omega)]; exact Int.le_refl _
    | succ q ih =>
      rw [show 2400 * a + ((q + 1 : Nat) : Int) = 2400 * a + q + 1 by omega, cB_s p2]
      split <;> omega
  have := s 2400
  rw [cB_hi (fun e he => by have := h.2.1 e he; omega)] at this
  omega
