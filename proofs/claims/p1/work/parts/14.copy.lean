/-! ===== System.arraycopy ===== -/
def cpyI {α : Type} (f g : Int → α) (sp dp n : Int) : Int → α := fun j => if dp ≤ j ∧ j < dp + n then f (sp + (j - dp)) else g j
/-- the words of a call of System.arraycopy -/
def YV (own : String) (idx : Nat) : Prop := Cond.methodLink own idx arraycopyName ∈ lw_tbl ∧ Cond.native arraycopyName ∈ lw_tbl ∧ Cond.static arraycopyName ∈ lw_tbl ∧ Cond.initialized "java/lang/System" ∈ lw_tbl
theorem a_copyI {g : Gt} {d : Nat} {M : Mt} {K : Kt} {X : Xt} {pc : Nat} {ls stk : List Vl} {ty : Nm → Nat} {ln : Nm → Int} {I : Nm → Int → Int} {R : Nm → Int → Option Nm} {c1 w1 : Nat} (hG : Gd g) {idx : Nat} {a b : Nm} {sp dp n : Int} (hd : decode M.2.1 pc = .ok (.invokestatic idx, 3)) (hY : YV M.1.cls idx) (hls : ls.length = M.2.2.1) (hj : ∀ v ∈ stk, v ≠ vJ) (hrm : (stk.map wgt).sum ≤ 18) (hd1 : 1 ≤ d)
    (hta : ty a = 1) (htb : ty b = 1) (hw : wr b = true) (g0 : 0 ≤ sp) (g1 : 0 ≤ dp) (g2 : 0 ≤ n) (g3 : sp + n ≤ ln a) (g4 : dp + n ≤ ln b) 
    (kk : SW g d M K X (pc + 3) ls stk (ty, ln, upN I b (cpyI (I a) (I b) sp dp n), R, c1, w1)) : SW g d M K X pc ls (vI n :: vI dp :: vR (some b) :: vI sp :: vR (some a) :: stk) (ty, ln, I, R, c1, w1) := by
  intro p e s m args below meth c ρs ρ c0 w0 H lc st locs cells slots C hS hL hst hR h1 h2 h3
  obtain ⟨_, s1, rfl, ⟨iz, rfl, rfl⟩, hs1⟩ := SR_cons hst
  obtain ⟨_, s2, rfl, ⟨iy, rfl, rfl⟩, hs2⟩ := SR_cons hs1
  obtain ⟨_, s3, rfl, hxb, hs3⟩ := SR_cons hs2
  obtain ⟨_, s4, rfl, ⟨ix, rfl, rfl⟩, hs4⟩ := SR_cons hs3
  obtain ⟨_, rest, rfl, hxa, hrest⟩ := SR_cons hs4
  obtain ⟨aa, haa, rfl⟩ := VR_r hxa
  obtain ⟨bb, hbb, rfl⟩ := VR_r hxb
  obtain ⟨hex, hb, hml, -, -, hown, hW, -⟩ := id C
  have hKs := hG.K hW
  obtain ⟨N0, f0, a1, a2, a3, a4⟩ := hR.arr haa hta (by decide)
  obtain ⟨N1, f1, b1, b2, b3, b4⟩ := hR.arr hbb htb (by decide)
  have a1' : (N0 : Int) = ln a := a1
  have b1' : (N1 : Int) = ln b := b1
  have ex := clampI g0
  have ey := clampI g1
  have ez := clampI g2
  have hwt := SR_wgt hrest hj
  obtain ⟨-, k0, hk0, cm0, hkk0⟩ := (arrK hKs 1 (by decide) (by decide)).1 N0 f0
  obtain ⟨-, k1, hk1, cm1, hkk1⟩ := (arrK hKs 1 (by decide) (by decide)).1 N1 f1
  have hRA8 := (arrK hKs 1 (by decide) (by decide)).2
  have hl : bb < H.size := (Array.getElem?_eq_some_iff.mp b3).1
  have nl : ∀ z : Int32, 0 ≤ z.toInt → ¬ z < 0 := fun z hz q => by
    have := Int32.lt_iff_toInt_lt.mp q
    have ez : (0 : Int32).toInt = 0 := rfl
    omega
  intro T hT X0
  obtain ⟨vm', X', step⟩ := X0.arraycopy hex hown (hG.wd hW hY.1 rfl) (hG.wd hW hY.2.1 rfl) (hG.wd hW hY.2.2.1 rfl) (hG.wd hW hY.2.2.2 rfl) (src := aa) (dst := bb) (cs := arrV (gC g 1) N0 f0) (cd := arrV (gC g 1) N1 f1) (srcPos := ix) (destPos := iy) (n := iz) (by rw [hT]; exact a3) (by rw [hT]; exact b3)
    (fun _ h => by cases h) (fun _ h => by cases h) (fun h => by cases h) (fun h => by cases h) hk0 hk1 hkk0 hkk1 rfl (nl ix g0) (nl iy g1) (nl iz g2)
    (by rw [arrV_size]; omega) (by rw [arrV_size]; omega)
    (fun vm₁ hal i hi => by
      have e0 : (arrV (gC g 1) N0 f0).slots.getD (ix.toNatClampNeg + i) .null = f0 (ix.toNatClampNeg + i) := by
        rw [Array.getD_eq_getD_getElem?, arrV_read _ _ (by omega)]
        rfl
      rw [e0]
      obtain ⟨y, ey, -⟩ := a4 (ix.toNatClampNeg + i) (by omega)
      rw [ey]
      exact ⟨rfl, trivial⟩)
    (g := F0 m pc lc (.int iz :: .int iy :: .ref bb :: .int ix :: .ref aa :: rest)) rfl (by show lc.size = _; rw [hml]; exact hL.1.trans hls) (rest := rest) rfl (by rw [hb]; exact hd) hd1 (by show 2 * 0 + _ + _ ≤ 30 * d + 128; have hw9 : nativeFrameWords "java/lang/System" "arraycopy" 5 ≤ 60 := (by decide); omega)
  have e1 : copied (arrV (gC g 1) N0 f0) (arrV (gC g 1) N1 f1) ix iy iz = arrV (gC g 1) N1 (va_cpy f0 f1 ix.toNatClampNeg iy.toNatClampNeg iz.toNatClampNeg) := va_copied (fun z => z) (gC g 1) (gC g 1) f0 f1 (by omega)
  rw [e1] at X' step
  have hR' := hR.put (In := cpyI (I a) (I b) ix.toInt iy.toInt iz.toInt) (Rn := R b) (H' := H.setIfInBounds bb (arrV (gC g 1) N1 (va_cpy f0 f1 ix.toNatClampNeg iy.toNatClampNeg iz.toNatClampNeg))) hbb hw (by simp) (fun q hq => by simp [Array.getElem?_setIfInBounds, Ne.symm hq]) (by
    unfold Cel
    rw [htb, if_pos (by decide)]
    refine ⟨N1, va_cpy f0 f1 ix.toNatClampNeg iy.toNatClampNeg iz.toNatClampNeg, b1, b2, ?_, fun j hj => ?_⟩
    · show (H.setIfInBounds bb _)[bb]? = some _
      simp [Array.getElem?_setIfInBounds, hl]
    · unfold va_cpy
      by_cases hin : iy.toNatClampNeg ≤ j ∧ j < iy.toNatClampNeg + iz.toNatClampNeg
      · rw [if_pos hin]
        have v0 := a4 (ix.toNatClampNeg + (j - iy.toNatClampNeg)) (by omega)
        have ei : ((ix.toNatClampNeg + (j - iy.toNatClampNeg) : Nat) : Int) = ix.toInt + ((j : Int) - iy.toInt) := by omega
        rw [ei] at v0
        have hc9 : iy.toInt ≤ (j : Int) ∧ (j : Int) < iy.toInt + iz.toInt := by omega
        show VR ρ (vI (cpyI (I a) (I b) ix.toInt iy.toInt iz.toInt j)) _
        unfold cpyI
        rw [if_pos hc9]
        exact v0
      · rw [if_neg hin]
        have v1 := b4 j hj
        have hc9 : ¬ (iy.toInt ≤ (j : Int) ∧ (j : Int) < iy.toInt + iz.toInt) := by omega
        show VR ρ (vI (cpyI (I a) (I b) ix.toInt iy.toInt iz.toInt j)) _
        unfold cpyI
        rw [if_neg hc9]
        exact v1)
  rw [upN_id] at hR'
  have hanw : nw g bb := (hR.2.2.2.2 b bb hbb).2.1 hw
  obtain ⟨t, x1, x2⟩ := kk p e s m args below meth c ρs ρ c0 w0 _ lc _ _ cells slots C hS hL hrest hR' h1 h2 (fun z hz => by
    rcases List.mem_append.mp hz with h4 | h4
    · exact h3 z h4
    · obtain ⟨y, -, hy⟩ := List.mem_map.mp h4
      rw [← hy]
      exact hanw) _ (by rw [← hT]; rfl) X'
  exact ⟨t, step t x1, x2⟩
theorem a_copyR {g : Gt} {d : Nat} {M : Mt} {K : Kt} {X : Xt} {pc : Nat} {ls stk : List Vl} {ty : Nm → Nat} {ln : Nm → Int} {I : Nm → Int → Int} {R : Nm → Int → Option Nm} {c1 w1 : Nat} (hG : Gd g) {idx : Nat} {a b : Nm} {sp dp n : Int} (hd : decode M.2.1 pc = .ok (.invokestatic idx, 3)) (hY : YV M.1.cls idx) (hls : ls.length = M.2.2.1) (hj : ∀ v ∈ stk, v ≠ vJ) (hrm : (stk.map wgt).sum ≤ 18) (hd1 : 1 ≤ d)
    (hta : ty a = 8) (htb : ty b = 8) (hw : wr b = true) (g0 : 0 ≤ sp) (g1 : 0 ≤ dp) (g2 : 0 ≤ n) (g3 : sp + n ≤ ln a) (g4 : dp + n ≤ ln b) (hel : ∀ i : Int, 0 ≤ i → i < n → ∀ y, R a (sp + i) = some y → ∃ cv, ty y = 100 + cv ∧ AV 8 cv) 
    (kk : SW g d M K X (pc + 3) ls stk (ty, ln, I, upN R b (cpyI (R a) (R b) sp dp n), c1, w1)) : SW g d M K X pc ls (vI n :: vI dp :: vR (some b) :: vI sp :: vR (some a) :: stk) (ty, ln, I, R, c1, w1) := by
  intro p e s m args below meth c ρs ρ c0 w0 H lc st locs cells slots C hS hL hst hR h1 h2 h3
  obtain ⟨_, s1, rfl, ⟨iz, rfl, rfl⟩, hs1⟩ := SR_cons hst
  obtain ⟨_, s2, rfl, ⟨iy, rfl, rfl⟩, hs2⟩ := SR_cons hs1
  obtain ⟨_, s3, rfl, hxb, hs3⟩ := SR_cons hs2
  obtain ⟨_, s4, rfl, ⟨ix, rfl, rfl⟩, hs4⟩ := SR_cons hs3
  obtain ⟨_, rest, rfl, hxa, hrest⟩ := SR_cons hs4
  obtain ⟨aa, haa, rfl⟩ := VR_r hxa
  obtain ⟨bb, hbb, rfl⟩ := VR_r hxb
  obtain ⟨hex, hb, hml, -, -, hown, hW, -⟩ := id C
  have hKs := hG.K hW
  obtain ⟨N0, f0, a1, a2, a3, a4⟩ := hR.arr haa hta (by decide)
  obtain ⟨N1, f1, b1, b2, b3, b4⟩ := hR.arr hbb htb (by decide)
  have a1' : (N0 : Int) = ln a := a1
  have b1' : (N1 : Int) = ln b := b1
  have ex := clampI g0
  have ey := clampI g1
  have ez := clampI g2
  have hwt := SR_wgt hrest hj
  obtain ⟨-, k0, hk0, cm0, hkk0⟩ := (arrK hKs 8 (by decide) (by decide)).1 N0 f0
  obtain ⟨-, k1, hk1, cm1, hkk1⟩ := (arrK hKs 8 (by decide) (by decide)).1 N1 f1
  have hRA8 := (arrK hKs 8 (by decide) (by decide)).2
  have hl : bb < H.size := (Array.getElem?_eq_some_iff.mp b3).1
  have nl : ∀ z : Int32, 0 ≤ z.toInt → ¬ z < 0 := fun z hz q => by
    have := Int32.lt_iff_toInt_lt.mp q
    have ez : (0 : Int32).toInt = 0 := rfl
    omega
  intro T hT X0
  obtain ⟨vm', X', step⟩ := X0.arraycopy hex hown (hG.wd hW hY.1 rfl) (hG.wd hW hY.2.1 rfl) (hG.wd hW hY.2.2.1 rfl) (hG.wd hW hY.2.2.2 rfl) (src := aa) (dst := bb) (cs := arrV (gC g 8) N0 f0) (cd := arrV (gC g 8) N1 f1) (srcPos := ix) (destPos := iy) (n := iz) (by rw [hT]; exact a3) (by rw [hT]; exact b3)
    (fun _ h => by cases h) (fun _ h => by cases h) (fun h => by cases h) (fun h => by cases h) hk0 hk1 hkk0 hkk1 rfl (nl ix g0) (nl iy g1) (nl iz g2)
    (by rw [arrV_size]; omega) (by rw [arrV_size]; omega)
    (fun vm₁ hal i hi => by
      have e0 : (arrV (gC g 8) N0 f0).slots.getD (ix.toNatClampNeg + i) .null = f0 (ix.toNatClampNeg + i) := by
        rw [Array.getD_eq_getD_getElem?, arrV_read _ _ (by omega)]
        rfl
      rw [e0]
      have v0 := a4 (ix.toNatClampNeg + i) (by omega)
      rw [elv_r (by decide)] at v0
      have ei : ((ix.toNatClampNeg + i : Nat) : Int) = ix.toInt + (i : Int) := by omega
      rw [ei] at v0
      change VR ρ (vR (R a (ix.toInt + (i : Int)))) _ at v0
      cases hy : R a (ix.toInt + (i : Int)) with
      | none =>
        rw [hy] at v0
        rw [VR_n v0]
        exact ⟨rfl, trivial⟩
      | some y =>
        rw [hy] at v0
        obtain ⟨ay, hay, ey⟩ := VR_r v0
        rw [ey]
        obtain ⟨cv, hcv1, CC, TT, NN, E, hcl, hat, hce⟩ := hel (i : Int) (by omega) (by omega) y hy
        have hE : E = "java/lang/Object" := by
          have : (FieldType.object "java/lang/Object") = .object E := hat
          cases this; rfl
        subst hE
        obtain ⟨q9, V9, hq9, ⟨cellV, g1, g2, g3, -⟩, -⟩ := hR.obj hay hcv1
        have hcls := (hKs.1 cv _ hcl).2
        obtain ⟨kA, comp, r1, r2, r3, -⟩ := hRA8
        cases hk1.symm.trans r1
        cases hkk1.symm.trans r2
        obtain ⟨kC, hkC, -⟩ := hcls.2
        obtain ⟨kE, hkE, -⟩ := Vm.findClass_spec r3
        obtain ⟨kC', hkC', -⟩ := hal.2.2 _ _ hkC
        obtain ⟨kE', hkE', -⟩ := hal.2.2 _ _ hkE
        have hasg : s.vm.assignable ((gD g).1 cv) cm1 = true := by
          rcases hce with rfl | hce
          · have : cm1 = (gD g).1 cv := Option.some.inj (r3.symm.trans hcls.1)
            rw [this]
            exact va_assign hcls
          · obtain ⟨c9, t9, f1, f2, f3⟩ := Cond.castable_spec (va_Nw.use (A := args) rfl (hG.cast hW hce))
            cases hcls.1.symm.trans f1
            cases r3.symm.trans f2
            exact f3
        refine ⟨rfl, cellV, (show T.heap[ay]? = some cellV by rw [hT]; exact g1), (fun q h => by rw [g3] at h; cases h), ⟨kC', by rw [g2]; exact hkC'⟩, ⟨kE', hkE'⟩, ?_⟩
        show vm₁.assignable _ _ = true
        rw [hal.assignable, g2]
        exact hasg)
    (g := F0 m pc lc (.int iz :: .int iy :: .ref bb :: .int ix :: .ref aa :: rest)) rfl (by show lc.size = _; rw [hml]; exact hL.1.trans hls) (rest := rest) rfl (by rw [hb]; exact hd) hd1 (by show 2 * 0 + _ + _ ≤ 30 * d + 128; have hw9 : nativeFrameWords "java/lang/System" "arraycopy" 5 ≤ 60 := (by decide); omega)
  have e1 : copied (arrV (gC g 8) N0 f0) (arrV (gC g 8) N1 f1) ix iy iz = arrV (gC g 8) N1 (va_cpy f0 f1 ix.toNatClampNeg iy.toNatClampNeg iz.toNatClampNeg) := va_copied (fun z => z) (gC g 8) (gC g 8) f0 f1 (by omega)
  rw [e1] at X' step
  have hR' := hR.put (In := I b) (Rn := cpyI (R a) (R b) ix.toInt iy.toInt iz.toInt) (H' := H.setIfInBounds bb (arrV (gC g 8) N1 (va_cpy f0 f1 ix.toNatClampNeg iy.toNatClampNeg iz.toNatClampNeg))) hbb hw (by simp) (fun q hq => by simp [Array.getElem?_setIfInBounds, Ne.symm hq]) (by
    unfold Cel
    rw [htb, if_pos (by decide)]
    refine ⟨N1, va_cpy f0 f1 ix.toNatClampNeg iy.toNatClampNeg iz.toNatClampNeg, b1, b2, ?_, fun j hj => ?_⟩
    · show (H.setIfInBounds bb _)[bb]? = some _
      simp [Array.getElem?_setIfInBounds, hl]
    · unfold va_cpy
      by_cases hin : iy.toNatClampNeg ≤ j ∧ j < iy.toNatClampNeg + iz.toNatClampNeg
      · rw [if_pos hin]
        have v0 := a4 (ix.toNatClampNeg + (j - iy.toNatClampNeg)) (by omega)
        have ei : ((ix.toNatClampNeg + (j - iy.toNatClampNeg) : Nat) : Int) = ix.toInt + ((j : Int) - iy.toInt) := by omega
        rw [ei] at v0
        have hc9 : iy.toInt ≤ (j : Int) ∧ (j : Int) < iy.toInt + iz.toInt := by omega
        show VR ρ (vR (cpyI (R a) (R b) ix.toInt iy.toInt iz.toInt j)) _
        unfold cpyI
        rw [if_pos hc9]
        exact v0
      · rw [if_neg hin]
        have v1 := b4 j hj
        have hc9 : ¬ (iy.toInt ≤ (j : Int) ∧ (j : Int) < iy.toInt + iz.toInt) := by omega
        show VR ρ (vR (cpyI (R a) (R b) ix.toInt iy.toInt iz.toInt j)) _
        unfold cpyI
        rw [if_neg hc9]
        exact v1)
  rw [upN_id] at hR'
  have hanw : nw g bb := (hR.2.2.2.2 b bb hbb).2.1 hw
  obtain ⟨t, x1, x2⟩ := kk p e s m args below meth c ρs ρ c0 w0 _ lc _ _ cells slots C hS hL hrest hR' h1 h2 (fun z hz => by
    rcases List.mem_append.mp hz with h4 | h4
    · exact h3 z h4
    · obtain ⟨y, -, hy⟩ := List.mem_map.mp h4
      rw [← hy]
      exact hanw) _ (by rw [← hT]; rfl) X'
  exact ⟨t, step t x1, x2⟩
