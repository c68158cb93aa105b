/-! ===== the field on the machine's numbers ===== -/
def mulZ (a b : Int) : Int := ((gmn a.toNat b.toNat 8 0 : Nat) : Int)
def invZ (a : Int) : Int := ((ivn a.toNat : Nat) : Int)
def cfZ (j i : Int) : Int := ((ivn ((16 + j.toNat) ^^^ i.toNat) : Nat) : Int)
def xorZ (a b : Int) : Int := ((a.toNat ^^^ b.toNat : Nat) : Int)
theorem mulZ_r {a b : Int} (ha : 0 ≤ a ∧ a < 256) : 0 ≤ mulZ a b ∧ mulZ a b < 256 := by
  have := gmn_lt (a := a.toNat) (b := b.toNat) (by omega) 8 0 (by decide)
  unfold mulZ
  omega
theorem invZ_r {a : Int} : 1 ≤ invZ a ∧ invZ a < 256 := by
  have h1 := ivn_lt (a := a.toNat)
  have h2 := ivn_ne (a := a.toNat)
  unfold invZ
  omega
theorem cfZ_r {j i : Int} : 1 ≤ cfZ j i ∧ cfZ j i < 256 := by
  have h1 := ivn_lt (a := (16 + j.toNat) ^^^ i.toNat)
  have h2 := ivn_ne (a := (16 + j.toNat) ^^^ i.toNat)
  unfold cfZ
  omega
theorem xorZ_r {a b : Int} (ha : 0 ≤ a ∧ a < 256) (hb : 0 ≤ b ∧ b < 256) : 0 ≤ xorZ a b ∧ xorZ a b < 256 := by
  have : a.toNat ^^^ b.toNat < 2 ^ 8 := Nat.xor_lt_two_pow (by omega) (by omega)
  unfold xorZ
  omega
theorem xor32_z {a b : Int} (ha : 0 ≤ a ∧ a < 1000000) (hb : 0 ≤ b ∧ b < 1000000) : xor32 a b = xorZ a b := by
  have := xor32_n (a := a.toNat) (b := b.toNat) (by omega) (by omega)
  rw [Int.toNat_of_nonneg ha.1, Int.toNat_of_nonneg hb.1] at this
  exact this
theorem s_product {d : Nat} {K : Kt} {X : Xt} {a b : Int} {h : AH} (ha : 0 ≤ a ∧ a < 256) (hb : 0 ≤ b ∧ b < 256) : Mth (d + 1) M_Mo_product [vI a, vI b] h K X = K (some (vI (mulZ a b))) h := by
  have := gml_n (a := a.toNat) (b := b.toNat) (by omega) (by omega) (n := 8) (v := 0) (by decide) (by decide)
  rw [Int.toNat_of_nonneg ha.1, Int.toNat_of_nonneg hb.1] at this
  rw [s_Mo_product]
  exact congrArg (fun z => K (some (vI z)) h) this
theorem gml_i {a : Int} (ha : 1 ≤ a ∧ a < 256) : gml a ((ivn a.toNat : Nat) : Int) 8 0 = 1 ∧ ∀ u : Nat, 1 ≤ u → u < ivn a.toNat → gml a (u : Int) 8 0 ≠ 1 := by
  have h1 := ivn_lt (a := a.toNat)
  have e : ((a.toNat : Nat) : Int) = a := Int.toNat_of_nonneg (by omega)
  constructor
  · have := gml_n (a := a.toNat) (b := ivn a.toNat) (by omega) h1 (n := 8) (v := 0) (by decide) (by decide)
    rw [ivn_ok (by omega) (by omega), e] at this
    exact this
  · intro u u1 u2 z
    have := gml_n (a := a.toNat) (b := u) (by omega) (by omega) (n := 8) (v := 0) (by decide) (by decide)
    rw [e] at this
    have y := ivn_only (a := a.toNat) (u := u) (by omega) (by omega) (by omega) (by omega) (Int.ofNat_inj.mp (this.symm.trans z))
    omega
theorem s_inverse {d : Nat} {K : Kt} {X : Xt} {a : Int} {h : AH} (ha : 1 ≤ a ∧ a < 256) : Mth (d + 2) M_Mo_inverse [vI a] h K X = K (some (vI (invZ a))) h := by
  have h1 := ivn_lt (a := a.toNat)
  have h2 := ivn_ne (a := a.toNat)
  obtain ⟨g1, g2⟩ := gml_i ha
  exact s_Mo_inverse (by omega) (by omega) g1 g2
theorem cf_ar {j i : Int} (hj : 0 ≤ j ∧ j < 12) (hi : 0 ≤ i ∧ i < 6) : xor32 (w32 (16 + j)) i = xorZ (16 + j) i ∧ 1 ≤ xorZ (16 + j) i ∧ xorZ (16 + j) i < 256 ∧ invZ (xorZ (16 + j) i) = cfZ j i := by
  have e1 : (16 + j).toNat = 16 + j.toNat := by omega
  have c : ∀ j, j < 12 → ∀ i, i < 6 → 1 ≤ (16 + j) ^^^ i ∧ (16 + j) ^^^ i < 256 := by decide +kernel
  have := c j.toNat (by omega) i.toNat (by omega)
  have e2 : xorZ (16 + j) i = (((16 + j.toNat) ^^^ i.toNat : Nat) : Int) := by unfold xorZ; rw [e1]
  refine ⟨by rw [w32_id (by omega) (by omega)]; exact xor32_z (by omega) (by omega), by rw [e2]; omega, by rw [e2]; omega, ?_⟩
  rw [e2]
  unfold invZ cfZ
  rw [Int.toNat_natCast]
theorem s_coefficient {d : Nat} {K : Kt} {X : Xt} {j i : Int} {h : AH} (hj : 0 ≤ j ∧ j < 12) (hi : 0 ≤ i ∧ i < 6) : Mth (d + 3) M_Mo_coefficient [vI j, vI i] h K X = K (some (vI (cfZ j i))) h := by
  obtain ⟨c1, c2, c3, c4⟩ := cf_ar hj hi
  have h1 := ivn_lt (a := (xorZ (16 + j) i).toNat)
  have h2 := ivn_ne (a := (xorZ (16 + j) i).toNat)
  obtain ⟨g1, g2⟩ := gml_i (a := xorZ (16 + j) i) ⟨c2, c3⟩
  rw [← c4]
  exact s_Mo_coefficient (v := ivn (xorZ (16 + j) i).toNat) (by omega) (by omega) (by rw [c1]; exact g1) (by rw [c1]; exact g2)
/-! ===== the class's tables of powers and logs ===== -/
def pwI (i : Int) : Int := ((pw i.toNat : Nat) : Int)
/-- the tables after e turns -/
def fI (I : Nm → Int → Int) (p l : Nm) : Nat → Nm → Int → Int
  | 0 => I
  | e + 1 => up2 (up2 (up2 (fI I p l e) p e (pw e)) p (e + 255) (pw e)) l (pw e) e
theorem fI_o {I : Nm → Int → Int} {p l n : Nm} (h1 : n ≠ p) (h2 : n ≠ l) : ∀ e, fI I p l e n = I n
  | 0 => rfl
  | e + 1 => by
    show up2 (up2 (up2 (fI I p l e) p e (pw e)) p (e + 255) (pw e)) l (pw e) e n = _
    unfold up2
    rw [upN_ne _ _ h2, upN_ne _ _ h1, upN_ne _ _ h1, fI_o h1 h2 e]
theorem fI_p {I : Nm → Int → Int} {p l : Nm} (hpl : p ≠ l) : ∀ e, e ≤ 255 → ∀ i : Nat, i < e → fI I p l e p i = pw i ∧ fI I p l e p ((i : Int) + 255) = pw i
  | e + 1, he, i, hi => by
    show up2 (up2 (up2 (fI I p l e) p e (pw e)) p (e + 255) (pw e)) l (pw e) e p i = _ ∧ up2 (up2 (up2 (fI I p l e) p e (pw e)) p (e + 255) (pw e)) l (pw e) e p (i + 255) = _
    unfold up2
    rw [upN_ne _ _ hpl, upN_self, upN_self]
    by_cases q : i = e
    · subst q
      rw [upI_ne _ _ (by omega), upI_self, upI_self]
      exact ⟨rfl, rfl⟩
    · obtain ⟨a, b⟩ := fI_p hpl e (by omega) i (by omega)
      rw [upI_ne _ _ (by omega), upI_ne _ _ (by omega), upI_ne _ _ (by omega), upI_ne _ _ (by omega)]
      exact ⟨a, b⟩
theorem pw_inj {i j : Nat} (hi : i < 255) (hj : j < 255) (h : pw i = pw j) : i = j := by
  rw [← lg_pw hi, h, lg_pw hj]
theorem fI_l {I : Nm → Int → Int} {p l : Nm} (hpl : p ≠ l) (h0 : I l 0 = 0) : ∀ e, e ≤ 255 → fI I p l e l 0 = 0 ∧ ∀ i : Nat, i < e → fI I p l e l (pw i) = i
  | 0, _ => ⟨h0, fun i hi => by omega⟩
  | e + 1, he => by
    obtain ⟨a, b⟩ := fI_l hpl h0 e (by omega)
    show up2 (up2 (up2 (fI I p l e) p e (pw e)) p (e + 255) (pw e)) l (pw e) e l 0 = _ ∧ ∀ i : Nat, i < e + 1 → up2 (up2 (up2 (fI I p l e) p e (pw e)) p (e + 255) (pw e)) l (pw e) e l (pw i) = _
    unfold up2
    rw [upN_self, upN_ne _ _ (Ne.symm hpl), upN_ne _ _ (Ne.symm hpl)]
    have n0 := pw_ne0 e
    refine ⟨by rw [upI_ne _ _ (by omega)]; exact a, fun i hi => ?_⟩
    by_cases q : i = e
    · subst q
      rw [upI_self]
    · have : pw i ≠ pw e := fun z => q (pw_inj (by omega) (by omega) z)
      rw [upI_ne _ _ (by omega)]
      exact b i (by omega)
/-- the logs as the class has them -/
def lgZ (a : Int) : Int := if a = 0 then 0 else ((lg a.toNat : Nat) : Int)
theorem fI_lg {I : Nm → Int → Int} {p l : Nm} (hpl : p ≠ l) (h0 : I l 0 = 0) {a : Int} (a0 : 0 ≤ a) (a1 : a < 256) : fI I p l 255 l a = lgZ a := by
  obtain ⟨x, y⟩ := fI_l hpl h0 255 (by decide)
  unfold lgZ
  by_cases q : a = 0
  · rw [if_pos q, q]; exact x
  · rw [if_neg q]
    obtain ⟨z1, z2⟩ := lg_ok (v := a.toNat) (by omega) (by omega)
    have := y (lg a.toNat) z1
    rw [z2, Int.toNat_of_nonneg a0] at this
    exact this
theorem lgZ_r {a : Int} (a0 : 0 ≤ a) (a1 : a < 256) : 0 ≤ lgZ a ∧ lgZ a ≤ 254 := by
  unfold lgZ
  by_cases q : a = 0
  · rw [if_pos q]; omega
  · rw [if_neg q]
    have := (lg_ok (v := a.toNat) (by omega) (by omega)).1
    omega
/-- powers as the class has them: 510 of them -/
theorem fI_pw {I : Nm → Int → Int} {p l : Nm} (hpl : p ≠ l) {i : Int} (i0 : 0 ≤ i) (i1 : i < 510) : fI I p l 255 p i = pwI i := by
  unfold pwI
  by_cases q : i < 255
  · have := (fI_p (I := I) hpl 255 (by decide) i.toNat (by omega)).1
    rw [Int.toNat_of_nonneg i0] at this
    exact this
  · have := (fI_p (I := I) hpl 255 (by decide) (i - 255).toNat (by omega)).2
    rw [Int.toNat_of_nonneg (by omega), show i - 255 + 255 = i by omega] at this
    rw [this, show i.toNat = 255 + (i - 255).toNat by omega, pw_per]
theorem times_z {a b : Int} (ha : 0 ≤ a ∧ a < 256) (hb : 0 ≤ b ∧ b < 256) : (if a = 0 ∨ b = 0 then 0 else pwI (lgZ a + lgZ b)) = mulZ a b := by
  unfold mulZ
  have z0 := fun v hv => allB_ok gmn_z0 v hv
  by_cases q : a = 0 ∨ b = 0
  · rw [if_pos q]
    rcases q with q | q
    · have := z0 b.toNat (by omega)
      rw [Bool.and_eq_true] at this
      rw [q, show (0 : Int).toNat = 0 from rfl, Nat.eq_of_beq_eq_true this.2]; rfl
    · have := z0 a.toNat (by omega)
      rw [Bool.and_eq_true] at this
      rw [q, show (0 : Int).toNat = 0 from rfl, Nat.eq_of_beq_eq_true this.1]; rfl
  · have qa : a ≠ 0 := fun z => q (Or.inl z)
    have qb : b ≠ 0 := fun z => q (Or.inr z)
    rw [if_neg q, gmn_lg (by omega) (by omega) (by omega) (by omega)]
    unfold pwI lgZ
    rw [if_neg qa, if_neg qb, show ((lg a.toNat : Nat) : Int) + ((lg b.toNat : Nat) : Int) = ((lg a.toNat + lg b.toNat : Nat) : Int) from rfl, Int.toNat_natCast]
theorem inv_z {a : Int} (ha : 1 ≤ a ∧ a < 256) : pwI (255 - lgZ a) = invZ a := by
  unfold pwI lgZ invZ ivn
  have := (lg_ok (v := a.toNat) (by omega) (by omega)).1
  rw [if_neg (by omega), show (255 - ((lg a.toNat : Nat) : Int)).toNat = 255 - lg a.toNat by omega]
