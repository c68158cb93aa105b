/-! ===== no pivot is 0: the system's own ===== -/
def rowQ (j : Nat) : List Nat := bldNQ (fun c => ivn (Nat.xor (16 + j) c)) 6 []
def nrmQ (t : Nat) (w : List Nat) : List Nat := bldNQ (fun c => gmn (ivn (w.getD t 0)) (w.getD c 0) 8 0) 6 []
theorem bldNQ_c {g g' : Nat → Nat} : ∀ (n : Nat) (acc : List Nat), (∀ c, c < n → g c = g' c) → bldNQ g n acc = bldNQ g' n acc
  | 0, _, _ => rfl
  | n + 1, acc, h => by
    show bldNQ g n (g n :: acc) = bldNQ g' n (g' n :: acc)
    rw [h n (by omega)]
    exact bldNQ_c n _ (fun c hc => h c (by omega))
theorem gmn_b {a b : Nat} (h : a < 256) : gmn a b 8 0 < 256 := gmn_lt h 8 0 (by decide)
def b256 (w : List Nat) : Prop := ∀ c, w.getD c 0 < 256
theorem bld_b {g : Nat → Nat} (h : ∀ c, c < 6 → g c < 256) : b256 (bldNQ g 6 []) := fun c => by
  rw [bldNQ_g]
  by_cases q : c < 6
  · rw [if_pos q]; exact h c q
  · rw [if_neg q]; show ([] : List Nat).getD _ 0 < 256; simp
theorem stpQ_b {t : Nat} {p w : List Nat} (hw : b256 w) : b256 (bldNQ (stpQ t p w) 6 []) := bld_b (fun c _ => by
  unfold stpQ
  exact Nat.xor_lt_two_pow (n := 8) (hw c) (gmn_b (hw t)))
theorem redNQ_b : ∀ (ps : List (List Nat)) (t : Nat) (w : List Nat), b256 w → b256 (redNQ ps t w)
  | [], _, _, h => h
  | p :: ps, t, w, h => redNQ_b ps (t + 1) _ (stpQ_b h)
theorem redNQ_app {p : List Nat} : ∀ (ps : List (List Nat)) (t : Nat) (w : List Nat), redNQ (ps ++ [p]) t w = bldNQ (stpQ (t + ps.length) p (redNQ ps t w)) 6 []
  | [], _, _ => rfl
  | q :: ps, t, w => by
    show redNQ (ps ++ [p]) (t + 1) _ = _
    rw [redNQ_app ps, List.length_cons, show t + 1 + ps.length = t + (ps.length + 1) by omega]
    rfl
theorem row_x {j c : Nat} (hj : j < 12) (hc : c < 6) : Nat.xor (16 + j) c < 256 := Nat.xor_lt_two_pow (n := 8) (by omega) (by omega)
theorem rowQ_b {j : Nat} : b256 (rowQ j) := bld_b (fun c _ => ivn_lt)
theorem chkQ_s {m j0 t : Nat} {ps : List (List Nat)} (h : chkQ (m + 1) j0 t ps = true) {j : Nat} (hj : j0 ≤ j) (hj2 : j < 12) : (redNQ ps 0 (rowQ j)).getD t 0 ≠ 0 ∧ chkQ m (j + 1) (t + 1) (ps ++ [nrmQ t (redNQ ps 0 (rowQ j))]) = true := by
  have a := allB_ok h j hj2
  rw [Bool.or_eq_true] at a
  have b := a.elim (fun z => absurd (Nat.le_of_ble_eq_true z) (by omega)) id
  rw [bldQ_e, redQ_e, Bool.and_eq_true, frcQ_e, bldQ_e] at b
  have e1 : bldNQ (fun c => ivq (Nat.xor (16 + j) c)) 6 [] = rowQ j := bldNQ_c 6 [] (fun c hc => ivq_e (row_x hj2 hc))
  rw [e1] at b
  have wb := redNQ_b ps 0 _ (rowQ_b (j := j))
  rw [show (bldNQ (fun c => gmn (ivq ((redNQ ps 0 (rowQ j)).getD t 0)) ((redNQ ps 0 (rowQ j)).getD c 0) 8 0) 6 []) = nrmQ t (redNQ ps 0 (rowQ j)) from bldNQ_c 6 [] (fun c _ => by rw [ivq_e (wb t)])] at b
  refine ⟨fun z => ?_, b.2⟩
  have := b.1
  rw [z] at this
  exact absurd this (by decide)
/-- the pivot rows of a sequence of pieces -/
def psQ (f : Nat → Nat) : Nat → List (List Nat)
  | 0 => []
  | i + 1 => psQ f i ++ [nrmQ i (redNQ (psQ f i) 0 (rowQ (f i)))]
theorem psQ_len {f : Nat → Nat} : ∀ i, (psQ f i).length = i
  | 0 => rfl
  | i + 1 => by
    show (psQ f i ++ [_]).length = _
    rw [List.length_append, psQ_len i]; rfl
theorem psQ_ok {f : Nat → Nat} {k : Nat} (hk : k ≤ 6) (h12 : ∀ i, i < k → f i < 12) (hm : ∀ i, i + 1 < k → f i < f (i + 1)) : ∀ i, i < k → (∃ j0, j0 ≤ f i ∧ chkQ (6 - i) j0 i (psQ f i) = true) ∧ (redNQ (psQ f i) 0 (rowQ (f i))).getD i 0 ≠ 0
  | 0, h => ⟨⟨0, Nat.zero_le _, chkQ_ok⟩, (chkQ_s (m := 5) chkQ_ok (Nat.zero_le _) (h12 0 h)).1⟩
  | i + 1, h => by
    obtain ⟨⟨j0, h1, h2⟩, -⟩ := psQ_ok hk h12 hm i (by omega)
    rw [show 6 - i = (6 - (i + 1)) + 1 by omega] at h2
    have a := (chkQ_s h2 h1 (h12 i (by omega))).2
    have e : psQ f (i + 1) = psQ f i ++ [nrmQ i (redNQ (psQ f i) 0 (rowQ (f i)))] := rfl
    rw [← e] at a
    refine ⟨⟨f i + 1, hm i h, a⟩, ?_⟩
    rw [show 6 - (i + 1) = (5 - (i + 1)) + 1 by omega] at a
    exact (chkQ_s a (hm i h) (h12 (i + 1) h)).1
theorem elA_q {A : Int → Int → Int} {f : Nat → Nat} {k : Nat} (hk : k ≤ 6) (hA : ∀ r c : Nat, r < k → c < k → A r c = cfZ ((f r : Nat) : Int) c) : ∀ i, i ≤ k → ∀ r c : Nat, i ≤ r → r < k → c < k → elA A i r c = (((redNQ (psQ f i) 0 (rowQ (f r))).getD c 0 : Nat) : Int)
  | 0, _, r, c, _, hr, hc => by
    show A r c = _
    rw [hA r c hr hc]
    show _ = (((rowQ (f r)).getD c 0 : Nat) : Int)
    unfold rowQ cfZ
    rw [bldNQ_g, if_pos (by omega), Int.toNat_natCast, Int.toNat_natCast]
    rfl
  | i + 1, hi, r, c, h1, hr, hc => by
    have ih := elA_q hk hA i (by omega)
    show stepA (elA A i) i r c = _
    unfold stepA
    rw [if_neg (by omega), ih r c (by omega) hr hc, ih r i (by omega) hr (by omega), ih i i (Nat.le_refl _) (by omega) (by omega), ih i c (Nat.le_refl _) (by omega) hc]
    show _ = (((redNQ (psQ f i ++ [nrmQ i (redNQ (psQ f i) 0 (rowQ (f i)))]) 0 (rowQ (f r))).getD c 0 : Nat) : Int)
    rw [redNQ_app, psQ_len, bldNQ_g, if_pos (by omega), Nat.zero_add]
    unfold stpQ nrmQ xorZ mulZ invZ
    rw [bldNQ_g, if_pos (by omega)]
    simp only [Int.toNat_natCast]
    rfl
theorem selJ_mono {J : Int → Int → Int} {s : Int} {K : Nat} : ∀ n i j : Nat, i < j → j < (selJ J s K n).length → (selJ J s K n).getD i 0 < (selJ J s K n).getD j 0
  | 0, i, j, _, h => absurd h (Nat.not_lt_zero _)
  | n + 1, i, j, hij, h => by
    by_cases q : (selJ J s K n).length < K ∧ isR J (12 * s + n)
    · rw [show selJ J s K (n + 1) = selJ J s K n ++ [n] from if_pos q] at h ⊢
      rw [List.length_append, List.length_singleton] at h
      by_cases e : j = (selJ J s K n).length
      · rw [e, getD_end, getD_app (by omega)]
        have m : (selJ J s K n).getD i 0 ∈ selJ J s K n := by
          rw [List.getD_eq_getElem?_getD, List.getElem?_eq_getElem (by omega)]
          exact List.getElem_mem _
        exact selJ_lt n _ m
      · rw [getD_app (by omega), getD_app (by omega)]
        exact selJ_mono n i j hij (by omega)
    · rw [show selJ J s K (n + 1) = selJ J s K n from if_neg q] at h ⊢
      exact selJ_mono n i j hij h
theorem pv_ok : PVok := by
  intro J s hS hc i hi
  have hk := hS.1
  have hN := hS.2.1
  have sl := selJ_len (J := J) (s := s) (K := (J (-1) 2).toNat) (J (-1) 3).toNat
  obtain ⟨js, hjs⟩ : ∃ js, js = selJ J s (J (-1) 2).toNat (J (-1) 3).toNat := ⟨_, rfl⟩
  have e1 : ∀ m, m < js.length → js.getD m 0 < 12 := fun m hm => by
    subst hjs
    have mm : (selJ J s (J (-1) 2).toNat (J (-1) 3).toNat).getD m 0 ∈ selJ J s (J (-1) 2).toNat (J (-1) 3).toNat := by
      rw [List.getD_eq_getElem?_getD, List.getElem?_eq_getElem hm]
      exact List.getElem_mem _
    have := selJ_lt (J := J) (s := s) (K := (J (-1) 2).toNat) _ _ mm
    omega
  have e2 : ∀ i j : Nat, i < j → j < js.length → js.getD i 0 < js.getD j 0 := fun i j a b => by
    subst hjs
    exact selJ_mono _ i j a b
  rw [← hjs] at sl ⊢
  have el : js.length = (J (-1) 2).toNat := by omega
  have hA : ∀ r c : Nat, r < (J (-1) 2).toNat → c < (J (-1) 2).toNat → sysA J s (J (-1) 2) js r c = cfZ ((js.getD r 0 : Nat) : Int) c := fun r c hr hc => by
    rw [sysA_e (by omega), if_pos (by omega), Int.toNat_natCast]
  rw [elA_q (f := fun r => js.getD r 0) (k := (J (-1) 2).toNat) (by omega) hA i (by omega) i i (Nat.le_refl _) (by omega) (by omega)]
  have := (psQ_ok (f := fun r => js.getD r 0) (k := (J (-1) 2).toNat) (by omega) (fun m hm => e1 m (by omega)) (fun m hm => e2 m (m + 1) (by omega) (by omega)) i (by omega)).2
  omega
