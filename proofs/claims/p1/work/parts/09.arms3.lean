/-! ===== arrays ===== -/
theorem arrK {g : Gt} {s : State} (hK : va_K (gD g) clT (tyT (gC g)) s) : ∀ t : Nat, 0 < t → t < 9 → ArrOfT s (gC g t) (atT t) ∧ va_RA s (gC g t) (atT t)
  | 0, h, _ => absurd h (by decide)
  | 1, _, _ => hK.2 0 (gC g 1, atT 1) rfl
  | 2, _, _ => hK.2 1 (gC g 2, atT 2) rfl
  | 3, _, _ => hK.2 2 (gC g 3, atT 3) rfl
  | 4, _, _ => hK.2 3 (gC g 4, atT 4) rfl
  | 5, _, _ => hK.2 4 (gC g 5, atT 5) rfl
  | 6, _, _ => hK.2 5 (gC g 6, atT 6) rfl
  | 7, _, _ => hK.2 6 (gC g 7, atT 7) rfl
  | 8, _, _ => hK.2 7 (gC g 8, atT 8) rfl
  | n + 9, _, h => absurd h (by omega)
theorem clampI {y : Int32} (h : 0 ≤ y.toInt) : ((y.toNatClampNeg : Nat) : Int) = y.toInt := Int.toNat_of_nonneg h
theorem inI {y : Int32} {n : Nat} (h0 : 0 ≤ y.toInt) (h1 : y.toInt < (n : Int)) : ¬ (y < 0 ∨ n ≤ y.toNatClampNeg) := by
  have e := clampI h0
  rintro (q | q)
  · have := Int32.lt_iff_toInt_lt.mp q
    have ez : (0 : Int32).toInt = 0 := rfl
    omega
  · omega
theorem Rep.k0 {g : Gt} {ρ : Nm → Option Nat} {h : AH} {H : Heap} (k : Rep g ρ h H) {n : Nm} {a : Nat} (hn : ρ n = some a) : 0 < hT h n := by
  rcases Nat.eq_zero_or_pos (hT h n) with q | q
  · rw [(k.2.2.1 n).mp q] at hn; cases hn
  · exact q
theorem toInt32_len {n : Nat} (h : n < 2 ^ 31) : (n.toInt32).toInt = (n : Int) := toInt_of rfl h
theorem a_alen {g : Gt} {d : Nat} {M : Mt} {K : Kt} {X : Xt} {pc : Nat} {ls stk : List Vl} {h : AH} (hG : Gd g) {n : Nm} (hd : decode M.2.1 pc = .ok (.arraylength, 1)) (ht : hT h n < 9 ∨ hT h n = 20) (kk : SW g d M K X (pc + 1) ls (vI (hN h n) :: stk) h) : SW g d M K X pc ls (vR (some n) :: stk) h := by
  intro p e s m args below meth c ρs ρ c0 w0 H lc st locs cells slots C hS hL hst hR h1 h2 h3
  obtain ⟨x, st1, rfl, hx, hs⟩ := SR_cons hst
  obtain ⟨a, ha, rfl⟩ := VR_r hx
  obtain ⟨hex, hb, -, -, -, hown, hW, -⟩ := id C
  rcases ht with ht | ht
  · obtain ⟨N, f, e1, e2, e3, e4⟩ := hR.arr ha rfl ht
    exact W.alen hex hb e3 ((arrK (hG.K hW) _ (hR.k0 ha) ht).1 N f) rfl rfl rfl hd
      (kk p e s m args below meth c ρs ρ c0 w0 H lc _ locs cells slots C hS hL ⟨⟨_, rfl, by rw [arrV_size, toInt32_len e2]; exact e1⟩, hs⟩ hR h1 h2 h3)
  · obtain ⟨scr, tq, e1, e2, e3, e4, e5, e6⟩ := hR.scr ha ht
    exact W.alen hex hb e1 (State.isArrayOf_alike hW.alike e2) rfl rfl rfl hd
      (kk p e s m args below meth c ρs ρ c0 w0 H lc _ locs cells slots C hS hL ⟨⟨_, rfl, by rw [toInt32_len e5]; exact e4⟩, hs⟩ hR h1 h2 h3)
theorem a_iald {g : Gt} {d : Nat} {M : Mt} {K : Kt} {X : Xt} {pc : Nat} {ls stk : List Vl} {h : AH} (hG : Gd g) {n : Nm} {j : Int} (hd : decode M.2.1 pc = .ok (.iaload, 1)) (ht : hT h n = 1) (h0 : 0 ≤ j) (hj : j < hN h n) (kk : SW g d M K X (pc + 1) ls (vI (hI h n j) :: stk) h) : SW g d M K X pc ls (vI j :: vR (some n) :: stk) h := by
  intro p e s m args below meth c ρs ρ c0 w0 H lc st locs cells slots C hS hL hst hR h1 h2 h3
  obtain ⟨_, st0, rfl, ⟨iy, rfl, rfl⟩, hs0⟩ := SR_cons hst
  obtain ⟨x, st1, rfl, hx, hs⟩ := SR_cons hs0
  obtain ⟨a, ha, rfl⟩ := VR_r hx
  obtain ⟨hex, hb, -, -, -, hown, hW, -⟩ := id C
  obtain ⟨N, f, e1, e2, e3, e4⟩ := hR.arr ha ht (by decide)
  have ej := clampI h0
  have hlt : iy.toNatClampNeg < N := by omega
  have hv := e4 _ hlt
  rw [ej] at hv
  exact W.iald hex hb e3 ((arrK (hG.K hW) 1 (by decide) (by decide)).1 N f) (fun q => by cases q) (by rw [arrV_size]; exact inI h0 (by omega)) (arrV_read _ _ hlt) rfl rfl hd
    (kk p e s m args below meth c ρs ρ c0 w0 H lc _ locs cells slots C hS hL ⟨hv, hs⟩ hR h1 h2 h3)
theorem a_zald {g : Gt} {d : Nat} {M : Mt} {K : Kt} {X : Xt} {pc : Nat} {ls stk : List Vl} {h : AH} (hG : Gd g) {n : Nm} {j : Int} (hd : decode M.2.1 pc = .ok (.baload, 1)) (ht : hT h n = 2) (h0 : 0 ≤ j) (hj : j < hN h n) (kk : SW g d M K X (pc + 1) ls (vI (hI h n j) :: stk) h) : SW g d M K X pc ls (vI j :: vR (some n) :: stk) h := by
  intro p e s m args below meth c ρs ρ c0 w0 H lc st locs cells slots C hS hL hst hR h1 h2 h3
  obtain ⟨_, st0, rfl, ⟨iy, rfl, rfl⟩, hs0⟩ := SR_cons hst
  obtain ⟨x, st1, rfl, hx, hs⟩ := SR_cons hs0
  obtain ⟨a, ha, rfl⟩ := VR_r hx
  obtain ⟨hex, hb, -, -, -, hown, hW, -⟩ := id C
  obtain ⟨N, f, e1, e2, e3, e4⟩ := hR.arr ha ht (by decide)
  have ej := clampI h0
  have hlt : iy.toNatClampNeg < N := by omega
  have hv := e4 _ hlt
  rw [ej] at hv
  exact W.zald hex hb e3 ((arrK (hG.K hW) 2 (by decide) (by decide)).1 N f) (fun q => by cases q) (by rw [arrV_size]; exact inI h0 (by omega)) (arrV_read _ _ hlt) rfl rfl hd
    (kk p e s m args below meth c ρs ρ c0 w0 H lc _ locs cells slots C hS hL ⟨hv, hs⟩ hR h1 h2 h3)
theorem a_lald {g : Gt} {d : Nat} {M : Mt} {K : Kt} {X : Xt} {pc : Nat} {ls stk : List Vl} {h : AH} (hG : Gd g) {n : Nm} {j : Int} (hd : decode M.2.1 pc = .ok (.laload, 1)) (ht : hT h n = 3) (h0 : 0 ≤ j) (hj : j < hN h n) (kk : SW g d M K X (pc + 1) ls (vL (hI h n j) :: stk) h) : SW g d M K X pc ls (vI j :: vR (some n) :: stk) h := by
  intro p e s m args below meth c ρs ρ c0 w0 H lc st locs cells slots C hS hL hst hR h1 h2 h3
  obtain ⟨_, st0, rfl, ⟨iy, rfl, rfl⟩, hs0⟩ := SR_cons hst
  obtain ⟨x, st1, rfl, hx, hs⟩ := SR_cons hs0
  obtain ⟨a, ha, rfl⟩ := VR_r hx
  obtain ⟨hex, hb, -, -, -, hown, hW, -⟩ := id C
  obtain ⟨N, f, e1, e2, e3, e4⟩ := hR.arr ha ht (by decide)
  have ej := clampI h0
  have hlt : iy.toNatClampNeg < N := by omega
  have hv := e4 _ hlt
  rw [ej] at hv
  exact W.lald hex hb e3 ((arrK (hG.K hW) 3 (by decide) (by decide)).1 N f) (fun q => by cases q) (by rw [arrV_size]; exact inI h0 (by omega)) (arrV_read _ _ hlt) rfl rfl hd
    (kk p e s m args below meth c ρs ρ c0 w0 H lc _ locs cells slots C hS hL ⟨hv, hs⟩ hR h1 h2 h3)
theorem a_sald {g : Gt} {d : Nat} {M : Mt} {K : Kt} {X : Xt} {pc : Nat} {ls stk : List Vl} {h : AH} {n : Nm} {j : Int} (hd : decode M.2.1 pc = .ok (.iaload, 1)) (ht : hT h n = 20) (h0 : 0 ≤ j) (hj : j < hN h n) (kk : SW g d M K X (pc + 1) ls (vI (hI h n j) :: stk) h) : SW g d M K X pc ls (vI j :: vR (some n) :: stk) h := by
  intro p e s m args below meth c ρs ρ c0 w0 H lc st locs cells slots C hS hL hst hR h1 h2 h3
  obtain ⟨_, st0, rfl, ⟨iy, rfl, rfl⟩, hs0⟩ := SR_cons hst
  obtain ⟨x, st1, rfl, hx, hs⟩ := SR_cons hs0
  obtain ⟨a, ha, rfl⟩ := VR_r hx
  obtain ⟨hex, hb, -, -, -, hown, hW, -⟩ := id C
  obtain ⟨scr, tq, e1, e2, e39, e4, e5, e6⟩ := hR.scr ha ht
  have ej := clampI h0
  have e37 : tq = .int ∧ scr.vm ≠ .unknown := by
    rcases e39 with z | z
    · exact z
    · omega
  obtain ⟨rfl, e3⟩ := e37
  obtain ⟨y, f1, f2⟩ := e6 iy.toNatClampNeg (by omega)
  rw [ej] at f2
  exact W.iald hex hb e1 (State.isArrayOf_alike hW.alike e2) e3 (inI h0 (by omega)) f1 rfl rfl hd
    (kk p e s m args below meth c ρs ρ c0 w0 H lc _ locs cells slots C hS hL ⟨⟨y, rfl, f2⟩, hs⟩ hR h1 h2 h3)
theorem atT_ref : ∀ t : Nat, 3 < t → (atT t).isReference = true
  | 0, h => absurd h (by decide)
  | 1, h => absurd h (by decide)
  | 2, h => absurd h (by decide)
  | 3, h => absurd h (by decide)
  | 4, _ => rfl
  | 5, _ => rfl
  | 6, _ => rfl
  | 7, _ => rfl
  | n + 8, _ => rfl
theorem elv_r {t : Nat} (h : 3 < t) (I : Int → Int) (R : Int → Option Nm) (j : Int) : elv t I R j = vR (R j) := by
  unfold elv
  rw [if_neg (by omega), if_neg (by omega)]
theorem a_aald {g : Gt} {d : Nat} {M : Mt} {K : Kt} {X : Xt} {pc : Nat} {ls stk : List Vl} {h : AH} (hG : Gd g) {n : Nm} {j : Int} (hd : decode M.2.1 pc = .ok (.aaload, 1)) (ht : 3 < hT h n ∧ hT h n < 9) (h0 : 0 ≤ j) (hj : j < hN h n) (kk : SW g d M K X (pc + 1) ls (vR (hR h n j) :: stk) h) : SW g d M K X pc ls (vI j :: vR (some n) :: stk) h := by
  intro p e s m args below meth c ρs ρ c0 w0 H lc st locs cells slots C hS hL hst hR h1 h2 h3
  obtain ⟨_, st0, rfl, ⟨iy, rfl, rfl⟩, hs0⟩ := SR_cons hst
  obtain ⟨x, st1, rfl, hx, hs⟩ := SR_cons hs0
  obtain ⟨a, ha, rfl⟩ := VR_r hx
  obtain ⟨hex, hb, -, -, -, hown, hW, -⟩ := id C
  obtain ⟨N, f, e1, e2, e3, e4⟩ := hR.arr ha rfl ht.2
  have ej := clampI h0
  have hlt : iy.toNatClampNeg < N := by omega
  have hv := e4 _ hlt
  rw [ej, elv_r ht.1] at hv
  exact W.aald hex hb e3 ((arrK (hG.K hW) _ (by omega) ht.2).1 N f) (atT_ref _ ht.1) (fun q => by cases q) (by rw [arrV_size]; exact inI h0 (by omega)) (arrV_read _ _ hlt) rfl rfl hd
    (kk p e s m args below meth c ρs ρ c0 w0 H lc _ locs cells slots C hS hL ⟨hv, hs⟩ hR h1 h2 h3)
/-- an array's cell, one place written -/
theorem CA.put {g : Gt} {ρ : Nm → Option Nat} {t : Nat} {len : Int} {I In : Int → Int} {R Rn : Int → Option Nm} {a : Nat} {H' : Heap} {N jn : Nat} {f : Nat → Value} {x : Value} (e1 : (N : Int) = len) (e2 : N < 2 ^ 31) (e4 : ∀ j : Nat, j < N → VR ρ (elv t I R j) (f j))
    (hH : H'[a]? = some ((arrV (gC g t) N f).setSlot jn x)) (hx : VR ρ (elv t In Rn jn) x) (ho : ∀ j : Nat, j ≠ jn → elv t In Rn j = elv t I R j) : CA g ρ t len In Rn a H' := by
  refine ⟨N, updV f jn x, e1, e2, by rw [hH, arrV_store], fun j hj => ?_⟩
  by_cases q : j = jn
  · subst q
    simp only [updV, if_pos]
    exact hx
  · simp only [updV, if_neg q]
    rw [ho j q]
    exact e4 j hj
theorem elv_oth {t : Nat} {I : Int → Int} {R : Int → Option Nm} {jn j : Nat} {z : Int} (h : j ≠ jn) : elv t (upI I jn z) R j = elv t I R j := by
  unfold elv
  rw [upI_ne _ _ (by omega)]
theorem elv_othR {t : Nat} {I : Int → Int} {R : Int → Option Nm} {jn j : Nat} {z : Option Nm} (h : j ≠ jn) : elv t I (upI R jn z) j = elv t I R j := by
  unfold elv
  rw [upI_ne _ _ (by omega)]
theorem a_iast {g : Gt} {d : Nat} {M : Mt} {K : Kt} {X : Xt} {pc : Nat} {ls stk : List Vl} {ty : Nm → Nat} {ln : Nm → Int} {I : Nm → Int → Int} {R : Nm → Int → Option Nm} {c1 w1 : Nat} (hG : Gd g) {n : Nm} {j z : Int} (hd : decode M.2.1 pc = .ok (.iastore, 1)) (ht : ty n = 1) (hw : wr n = true) (h0 : 0 ≤ j) (hj : j < ln n) (kk : SW g d M K X (pc + 1) ls stk (ty, ln, up2 I n j z, R, c1, w1)) : SW g d M K X pc ls (vI z :: vI j :: vR (some n) :: stk) (ty, ln, I, R, c1, w1) := by
  intro p e s m args below meth c ρs ρ c0 w0 H lc st locs cells slots C hS hL hst hR h1 h2 h3
  obtain ⟨_, st9, rfl, ⟨ix, rfl, rfl⟩, hs9⟩ := SR_cons hst
  obtain ⟨_, st0, rfl, ⟨iy, rfl, rfl⟩, hs0⟩ := SR_cons hs9
  obtain ⟨x, st1, rfl, hx, hs⟩ := SR_cons hs0
  obtain ⟨a, ha, rfl⟩ := VR_r hx
  obtain ⟨hex, hb, -, -, -, hown, hW, -⟩ := id C
  obtain ⟨N, f, e1, e2, e3, e4⟩ := hR.arr ha ht (by decide)
  have hj9 : iy.toInt < ln n := hj
  have ej := clampI h0
  have e1' : (N : Int) = ln n := e1
  refine W.iast hex hb e3 ((arrK (hG.K hW) 1 (by decide) (by decide)).1 N f) (fun q => by cases q) (by rw [arrV_size]; exact inI h0 (by omega)) rfl rfl hd fun H1 eh zz oq => ?_
  have hanw : nw g a := (hR.2.2.2.2 n a ha).2.1 hw
  have hR' := hR.put (In := upI (I n) iy.toInt ix.toInt) (Rn := R n) ha hw zz oq (by
    unfold Cel
    rw [ht, if_pos (by decide)]
    refine CA.put e1 e2 e4 eh ?_ ?_
    · rw [ej]; show VR ρ (elv 1 (upI (I n) iy.toInt ix.toInt) (R n) iy.toInt) _
      unfold elv
      simp only [upI_self]
      exact ⟨ix, rfl, rfl⟩
    · intro j2 h2j
      rw [← ej]
      exact elv_oth h2j)
  rw [upN_id] at hR'
  exact kk p e s m args below meth c ρs ρ c0 w0 H1 lc _ _ cells slots C hS hL hs hR' h1 h2 (fun z hz => by
    rcases List.mem_append.mp hz with h4 | h4
    · exact h3 z h4
    · rw [List.mem_singleton.mp h4]; exact hanw)
theorem a_zast {g : Gt} {d : Nat} {M : Mt} {K : Kt} {X : Xt} {pc : Nat} {ls stk : List Vl} {ty : Nm → Nat} {ln : Nm → Int} {I : Nm → Int → Int} {R : Nm → Int → Option Nm} {c1 w1 : Nat} (hG : Gd g) {n : Nm} {j z : Int} (hd : decode M.2.1 pc = .ok (.bastore, 1)) (hz : z = 0 ∨ z = 1) (ht : ty n = 2) (hw : wr n = true) (h0 : 0 ≤ j) (hj : j < ln n) (kk : SW g d M K X (pc + 1) ls stk (ty, ln, up2 I n j z, R, c1, w1)) : SW g d M K X pc ls (vI z :: vI j :: vR (some n) :: stk) (ty, ln, I, R, c1, w1) := by
  intro p e s m args below meth c ρs ρ c0 w0 H lc st locs cells slots C hS hL hst hR h1 h2 h3
  obtain ⟨_, st9, rfl, ⟨ix, rfl, rfl⟩, hs9⟩ := SR_cons hst
  obtain ⟨_, st0, rfl, ⟨iy, rfl, rfl⟩, hs0⟩ := SR_cons hs9
  obtain ⟨x, st1, rfl, hx, hs⟩ := SR_cons hs0
  obtain ⟨a, ha, rfl⟩ := VR_r hx
  obtain ⟨hex, hb, -, -, -, hown, hW, -⟩ := id C
  obtain ⟨N, f, e1, e2, e3, e4⟩ := hR.arr ha ht (by decide)
  have hj9 : iy.toInt < ln n := hj
  have ej := clampI h0
  have e1' : (N : Int) = ln n := e1
  refine W.zast hex hb e3 ((arrK (hG.K hW) 2 (by decide) (by decide)).1 N f) (fun q => by cases q) (by rw [arrV_size]; exact inI h0 (by omega)) rfl rfl hd fun H1 eh zz oq => ?_
  have hanw : nw g a := (hR.2.2.2.2 n a ha).2.1 hw
  have hn : narrow .boolean (.int ix) = .int ix := by
    have : ix = 0 ∨ ix = 1 := by
      rcases hz with q | q
      · exact Or.inl (Int32.toInt_inj.mp q)
      · exact Or.inr (Int32.toInt_inj.mp q)
    rcases this with rfl | rfl <;> rfl
  rw [hn] at eh
  have hR' := hR.put (In := upI (I n) iy.toInt ix.toInt) (Rn := R n) ha hw zz oq (by
    unfold Cel
    rw [ht, if_pos (by decide)]
    refine CA.put e1 e2 e4 eh ?_ ?_
    · rw [ej]; show VR ρ (elv 2 (upI (I n) iy.toInt ix.toInt) (R n) iy.toInt) _
      unfold elv
      simp only [upI_self]
      exact ⟨ix, rfl, rfl⟩
    · intro j2 h2j
      rw [← ej]
      exact elv_oth h2j)
  rw [upN_id] at hR'
  exact kk p e s m args below meth c ρs ρ c0 w0 H1 lc _ _ cells slots C hS hL hs hR' h1 h2 (fun z hz => by
    rcases List.mem_append.mp hz with h4 | h4
    · exact h3 z h4
    · rw [List.mem_singleton.mp h4]; exact hanw)
theorem a_last {g : Gt} {d : Nat} {M : Mt} {K : Kt} {X : Xt} {pc : Nat} {ls stk : List Vl} {ty : Nm → Nat} {ln : Nm → Int} {I : Nm → Int → Int} {R : Nm → Int → Option Nm} {c1 w1 : Nat} (hG : Gd g) {n : Nm} {j z : Int} (hd : decode M.2.1 pc = .ok (.lastore, 1)) (ht : ty n = 3) (hw : wr n = true) (h0 : 0 ≤ j) (hj : j < ln n) (kk : SW g d M K X (pc + 1) ls stk (ty, ln, up2 I n j z, R, c1, w1)) : SW g d M K X pc ls (vL z :: vI j :: vR (some n) :: stk) (ty, ln, I, R, c1, w1) := by
  intro p e s m args below meth c ρs ρ c0 w0 H lc st locs cells slots C hS hL hst hR h1 h2 h3
  obtain ⟨_, st9, rfl, ⟨ix, rfl, rfl⟩, hs9⟩ := SR_cons hst
  obtain ⟨_, st0, rfl, ⟨iy, rfl, rfl⟩, hs0⟩ := SR_cons hs9
  obtain ⟨x, st1, rfl, hx, hs⟩ := SR_cons hs0
  obtain ⟨a, ha, rfl⟩ := VR_r hx
  obtain ⟨hex, hb, -, -, -, hown, hW, -⟩ := id C
  obtain ⟨N, f, e1, e2, e3, e4⟩ := hR.arr ha ht (by decide)
  have hj9 : iy.toInt < ln n := hj
  have ej := clampI h0
  have e1' : (N : Int) = ln n := e1
  refine W.last hex hb e3 ((arrK (hG.K hW) 3 (by decide) (by decide)).1 N f) (fun q => by cases q) (by rw [arrV_size]; exact inI h0 (by omega)) rfl rfl hd fun H1 eh zz oq => ?_
  have hanw : nw g a := (hR.2.2.2.2 n a ha).2.1 hw
  have hR' := hR.put (In := upI (I n) iy.toInt ix.toInt) (Rn := R n) ha hw zz oq (by
    unfold Cel
    rw [ht, if_pos (by decide)]
    refine CA.put e1 e2 e4 eh ?_ ?_
    · rw [ej]; show VR ρ (elv 3 (upI (I n) iy.toInt ix.toInt) (R n) iy.toInt) _
      unfold elv
      simp only [upI_self]
      exact ⟨ix, rfl, rfl⟩
    · intro j2 h2j
      rw [← ej]
      exact elv_oth h2j)
  rw [upN_id] at hR'
  exact kk p e s m args below meth c ρs ρ c0 w0 H1 lc _ _ cells slots C hS hL hs hR' h1 h2 (fun z hz => by
    rcases List.mem_append.mp hz with h4 | h4
    · exact h3 z h4
    · rw [List.mem_singleton.mp h4]; exact hanw)
theorem Gd.cast {g : Gt} (hG : Gd g) {s : State} (hW : (gs g).WarmedH s.vm) {C T : String} (h : Cond.castable C T ∈ lw_tbl) : va_Nw (.castable C T) s := va_Nw.warmC hW (va_Nw.of rfl (hG.2.1 _ h))
/-- an object of the class cv goes into an array of kind t -/
def AV (t cv : Nat) : Prop := ∃ (C : String) (T : u_T) (N : Nat) (E : String), clT[cv]? = some (C, T, N) ∧ atT t = .object E ∧ (C = E ∨ Cond.castable C E ∈ lw_tbl)
theorem a_aast {g : Gt} {d : Nat} {M : Mt} {K : Kt} {X : Xt} {pc : Nat} {ls stk : List Vl} {ty : Nm → Nat} {ln : Nm → Int} {I : Nm → Int → Int} {R : Nm → Int → Option Nm} {c1 w1 : Nat} (hG : Gd g) {n nv : Nm} {cv : Nat} {j : Int} (hd : decode M.2.1 pc = .ok (.aastore, 1)) (hA : AV (ty n) cv) (ht : 3 < ty n ∧ ty n < 9) (htv : ty nv = 100 + cv) (hw : wr n = true) (h0 : 0 ≤ j) (hj : j < ln n) (kk : SW g d M K X (pc + 1) ls stk (ty, ln, I, up2 R n j (some nv), c1, w1)) : SW g d M K X pc ls (vR (some nv) :: vI j :: vR (some n) :: stk) (ty, ln, I, R, c1, w1) := by
  intro p e s m args below meth c ρs ρ c0 w0 H lc st locs cells slots C hS hL hst hR h1 h2 h3
  obtain ⟨xv, st9, rfl, hxv, hs9⟩ := SR_cons hst
  obtain ⟨_, st0, rfl, ⟨iy, rfl, rfl⟩, hs0⟩ := SR_cons hs9
  obtain ⟨x, st1, rfl, hx, hs⟩ := SR_cons hs0
  obtain ⟨a, ha, rfl⟩ := VR_r hx
  obtain ⟨av, hav, rfl⟩ := VR_r hxv
  obtain ⟨hex, hb, -, -, -, hown, hW, -⟩ := id C
  obtain ⟨N, f, e1, e2, e3, e4⟩ := hR.arr ha rfl ht.2
  have hj9 : iy.toInt < ln n := hj
  have ej := clampI h0
  have e1' : (N : Int) = ln n := e1
  have hKs := hG.K hW
  obtain ⟨CC, TT, NN, E, hcl, hat, hce⟩ := hA
  obtain ⟨q, V9, hq, ⟨cellV, g1, g2, g3, -⟩, -⟩ := hR.obj hav htv
  have hcls := (hKs.1 cv _ hcl).2
  obtain ⟨hAO, hRA⟩ := arrK hKs (ty n) (by omega) ht.2
  have hat' : atT (hT (ty, ln, I, R, c1, w1) n) = .object E := hat
  rw [show atT (ty n) = .object E from hat] at hRA
  obtain ⟨kA, comp, k1, k2, k3, -⟩ := hRA
  obtain ⟨kE, hkE, -⟩ := Vm.findClass_spec k3
  obtain ⟨kC, hkC, -⟩ := hcls.2
  have hasg : s.vm.assignable ((gD g).1 cv) comp = true := by
    rcases hce with rfl | hce
    · have : comp = (gD g).1 cv := Option.some.inj (k3.symm.trans hcls.1)
      rw [this]
      exact va_assign hcls
    · obtain ⟨c9, t9, f1, f2, f3⟩ := Cond.castable_spec (va_Nw.use (A := args) rfl (hG.cast hW hce))
      cases hcls.1.symm.trans f1
      cases k3.symm.trans f2
      exact f3
  refine W.aast hex hb e3 (fun q h => by cases h) (fun h => by cases h) k1 k2 rfl hkE ⟨fun q => inI (n := N) h0 (by omega) (Or.inl q), by rw [arrV_size]; omega⟩ g1 (fun q h => by rw [g3] at h; cases h) (by rw [g2]; exact hkC) (by rw [g2]; exact hasg) rfl rfl hd fun H1 eh zz oq => ?_
  have hanw : nw g a := (hR.2.2.2.2 n a ha).2.1 hw
  have hR' := hR.put (In := I n) (Rn := upI (R n) iy.toInt (some nv)) ha hw zz oq (by
    unfold Cel
    rw [if_pos ht.2]
    refine CA.put e1 e2 e4 eh ?_ ?_
    · rw [ej, elv_r ht.1, upI_self]
      exact hxv
    · intro j2 h2j
      rw [← ej]
      exact elv_othR h2j)
  rw [upN_id] at hR'
  exact kk p e s m args below meth c ρs ρ c0 w0 H1 lc _ _ cells slots C hS hL hs hR' h1 h2 (fun z hz => by
    rcases List.mem_append.mp hz with h4 | h4
    · exact h3 z h4
    · rw [List.mem_singleton.mp h4]; exact hanw)
theorem a_aastN {g : Gt} {d : Nat} {M : Mt} {K : Kt} {X : Xt} {pc : Nat} {ls stk : List Vl} {ty : Nm → Nat} {ln : Nm → Int} {I : Nm → Int → Int} {R : Nm → Int → Option Nm} {c1 w1 : Nat} (hG : Gd g) {n : Nm} {j : Int} {E : String} (hd : decode M.2.1 pc = .ok (.aastore, 1)) (hE : atT (ty n) = .object E) (ht : 3 < ty n ∧ ty n < 9) (hw : wr n = true) (h0 : 0 ≤ j) (hj : j < ln n) (kk : SW g d M K X (pc + 1) ls stk (ty, ln, I, up2 R n j none, c1, w1)) : SW g d M K X pc ls (vR none :: vI j :: vR (some n) :: stk) (ty, ln, I, R, c1, w1) := by
  intro p e s m args below meth c ρs ρ c0 w0 H lc st locs cells slots C hS hL hst hR h1 h2 h3
  obtain ⟨xv, st9, rfl, hxv, hs9⟩ := SR_cons hst
  obtain ⟨_, st0, rfl, ⟨iy, rfl, rfl⟩, hs0⟩ := SR_cons hs9
  obtain ⟨x, st1, rfl, hx, hs⟩ := SR_cons hs0
  obtain ⟨a, ha, rfl⟩ := VR_r hx
  cases VR_n hxv
  obtain ⟨hex, hb, -, -, -, hown, hW, -⟩ := id C
  obtain ⟨N, f, e1, e2, e3, e4⟩ := hR.arr ha rfl ht.2
  have hj9 : iy.toInt < ln n := hj
  have ej := clampI h0
  have e1' : (N : Int) = ln n := e1
  have hAO := (arrK (hG.K hW) (ty n) (by omega) ht.2).1 N f
  rw [show atT (ty n) = .object E from hE] at hAO
  refine va_WaastN (C := E) hex hb e3 hAO (fun h => by cases h) (by rw [arrV_size]; exact inI h0 (by omega)) rfl rfl hd fun H1 eh zz oq => ?_
  have hanw : nw g a := (hR.2.2.2.2 n a ha).2.1 hw
  have hR' := hR.put (In := I n) (Rn := upI (R n) iy.toInt none) ha hw zz oq (by
    unfold Cel
    rw [if_pos ht.2]
    refine CA.put e1 e2 e4 eh ?_ ?_
    · rw [ej, elv_r ht.1, upI_self]
      exact hxv
    · intro j2 h2j
      rw [← ej]
      exact elv_othR h2j)
  rw [upN_id] at hR'
  exact kk p e s m args below meth c ρs ρ c0 w0 H1 lc _ _ cells slots C hS hL hs hR' h1 h2 (fun z hz => by
    rcases List.mem_append.mp hz with h4 | h4
    · exact h3 z h4
    · rw [List.mem_singleton.mp h4]; exact hanw)
