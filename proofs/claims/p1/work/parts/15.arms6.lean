/-! ===== ArrayList's empty array, Class objects, clone ===== -/
theorem a_gets {g : Gt} {d : Nat} {M : Mt} {K : Kt} {X : Xt} {pc : Nat} {ls stk : List Vl} {h : AH} (hG : Gd g) {idx : Nat} (hd : decode M.2.1 pc = .ok (.getstatic idx, 3)) (hlk : Cond.fieldLink M.1.cls idx "java/util/ArrayList" "DEFAULTCAPACITY_EMPTY_ELEMENTDATA" "[Ljava/lang/Object;" ∈ lw_tbl)
    (kk : SW g d M K X (pc + 3) ls (vR (some nE) :: stk) h) : SW g d M K X pc ls stk h := by
  intro p e s m args below meth c ρs ρ c0 w0 H lc st locs cells slots C hS hL hst hR h1 h2 h3
  obtain ⟨hex, hb, hml, -, -, hown, hW, -⟩ := id C
  obtain ⟨cf, kf, fi, f, a, cell, z1, z2, z3, z4, z5, z6, z7, z8⟩ := hG.2.2.2.2.2.1
  have hl : a < (gs g).heap.size := (Array.getElem?_eq_some_iff.mp z5).1
  have hZ : va_Z "java/util/ArrayList" "DEFAULTCAPACITY_EMPTY_ELEMENTDATA" "[Ljava/lang/Object;" (.ref (gE g)) (nw g) s H := va_Z.moved hW.alike ⟨cf, kf, fi, f, a, cell, z1, z2, z3, z4, by rw [hR.2.1 a hl]; exact z5, z6, z7, z8⟩
  obtain ⟨cf', kf', fi', f', a', cell', y1, y2, y3, y4, y5, y6, y7, y8⟩ := hZ
  exact W.gets hex hb hown (hG.wd hW hlk rfl) y1 y2 y3 y4 y5 (fun q => by rw [q] at y6; cases y6) y7 rfl hd
    (kk p e s m args below meth c ρs ρ c0 w0 H lc _ locs cells slots C hS hL ⟨⟨gE g, hR.1.2.1, rfl⟩, hst⟩ hR h1 h2 h3)
theorem va_Mi.mv {C : String} {mi : Nat} {u U : State} (hvm : u.vm.Alike U.vm) (h : va_Mi C mi u) : va_Mi C mi U := by
  obtain ⟨c, k, h1, h2, h3⟩ := h
  obtain ⟨k', hk', he⟩ := hvm.2.2 _ _ h2
  exact ⟨c, k', by rw [hvm.findClass]; exact h1, hk', by rw [he]; exact h3⟩
theorem a_ldcM {g : Gt} {d : Nat} {M : Mt} {K : Kt} {X : Xt} {pc : Nat} {ls stk : List Vl} {h : AH} (hG : Gd g) {idx : Nat} (hd : decode M.2.1 pc = .ok (.ldc idx, 2)) (hlk : Cond.classLink M.1.cls idx "[Ljava/lang/Object;" ∈ lw_tbl)
    (kk : SW g d M K X (pc + 2) ls (vR (some nM) :: stk) h) : SW g d M K X pc ls stk h := by
  intro p e s m args below meth c ρs ρ c0 w0 H lc st locs cells slots C hS hL hst hR h1 h2 h3
  obtain ⟨hex, hb, hml, -, -, hown, hW, -⟩ := id C
  exact va_ldcM hex hb hown (hG.wd hW hlk rfl) (va_Mi.mv hW.alike hG.2.2.2.2.2.2.1) hd
    (kk p e s m args below meth c ρs ρ c0 w0 H lc _ locs cells slots C hS hL ⟨⟨gM g, hR.1.2.2.1, rfl⟩, hst⟩ hR h1 h2 h3)
theorem a_getC {g : Gt} {d : Nat} {M : Mt} {K : Kt} {X : Xt} {pc : Nat} {ls stk : List Vl} {h : AH} (hG : Gd g) {idx : Nat} {n : Nm} (hd : decode M.2.1 pc = .ok (.invokevirtual idx, 3)) (hlk : Cond.methodLink M.1.cls idx ⟨"java/lang/Object", "getClass", "()Ljava/lang/Class;"⟩ ∈ lw_tbl) (hdl : Cond.declares ⟨"java/lang/Object", "getClass", "()Ljava/lang/Class;"⟩ ∈ lw_tbl) (hsl : Cond.selects "[Ljava/lang/Object;" ⟨"java/lang/Object", "getClass", "()Ljava/lang/Class;"⟩ ⟨"java/lang/Object", "getClass", "()Ljava/lang/Class;"⟩ ∈ lw_tbl)
    (hin9 : Cond.instanceMethod ⟨"java/lang/Object", "getClass", "()Ljava/lang/Class;"⟩ ∈ lw_tbl) (hnt : Cond.native ⟨"java/lang/Object", "getClass", "()Ljava/lang/Class;"⟩ ∈ lw_tbl) (ht : hT h n = 8) (hls : ls.length = M.2.2.1) (hj : ∀ v ∈ stk, v ≠ vJ) (hrm : (stk.map wgt).sum ≤ 18) (hd1 : 1 ≤ d)
    (kk : SW g d M K X (pc + 3) ls (vR (some nM) :: stk) h) : SW g d M K X pc ls (vR (some n) :: stk) h := by
  intro p e s m args below meth c ρs ρ c0 w0 H lc st locs cells slots C hS hL hst hR h1 h2 h3
  obtain ⟨xb, rest, rfl, hxb, hrest⟩ := SR_cons hst
  obtain ⟨b, hb9, rfl⟩ := VR_r hxb
  obtain ⟨hex, hb, hml, -, -, hown, hW, -⟩ := id C
  have hwt := SR_wgt hrest hj
  obtain ⟨N0, f0, a1, a2, a3, a4⟩ := hR.arr hb9 ht (by decide)
  have hRA := (arrK (hG.K hW) 8 (by decide) (by decide)).2
  exact va_getC hex hb (by rw [hml]; exact (hL.1.trans hls).symm) hown (hG.wd hW hlk rfl) (hG.wk hW hdl rfl) (hG.wd hW hsl rfl) (hG.wd hW hin9 rfl) (hG.wd hW hnt rfl) (va_Mi.mv hW.alike hG.2.2.2.2.2.2.1) ⟨_, a3, rfl, va_nmO (C := "java/lang/Object") hRA rfl⟩ hd1 (by show _ + 14 ≤ 30 * d + 128; omega) hd
    (kk p e s m args below meth c ρs ρ c0 w0 H lc _ locs cells slots C hS hL ⟨⟨gM g, hR.1.2.2.1, rfl⟩, hrest⟩ hR h1 h2 h3)
theorem a_castA {g : Gt} {d : Nat} {M : Mt} {K : Kt} {X : Xt} {pc : Nat} {ls stk : List Vl} {h : AH} (hG : Gd g) {idx : Nat} {n : Nm} (hd : decode M.2.1 pc = .ok (.checkcast idx, 3)) (hlk : Cond.classLink M.1.cls idx "[I" ∈ lw_tbl) (ht : hT h n = 1) (kk : SW g d M K X (pc + 3) ls (vR (some n) :: stk) h) : SW g d M K X pc ls (vR (some n) :: stk) h := by
  intro p e s m args below meth c ρs ρ c0 w0 H lc st locs cells slots C hS hL hst hR h1 h2 h3
  obtain ⟨xb, rest, rfl, hxb, hrest⟩ := SR_cons hst
  obtain ⟨b, hb9, rfl⟩ := VR_r hxb
  obtain ⟨hex, hb, hml, -, -, hown, hW, -⟩ := id C
  obtain ⟨N0, f0, a1, a2, a3, a4⟩ := hR.arr hb9 ht (by decide)
  have hRA : s.vm.findClass "[I" = some (gC g 1) := (arrK (hG.K hW) 1 (by decide) (by decide)).2
  intro T hT X0
  obtain ⟨vm', X', stp⟩ := X0.checkcastYes hex hown (hG.wd hW hlk rfl) (by rw [hT]; exact a3) rfl hRA (va_asg _ _) (g := F0 m pc lc (.ref b :: rest)) rfl rfl (by rw [hb]; exact hd)
  obtain ⟨t, x1, x2⟩ := kk p e s m args below meth c ρs ρ c0 w0 H lc _ locs cells slots C hS hL (show SR ρ (vR (some n) :: stk) (.ref b :: rest) from ⟨hxb, hrest⟩) hR h1 h2 h3 (T.setVm vm') hT X'
  exact ⟨t, stp t x1, x2⟩
theorem a_clone {g : Gt} {d : Nat} {M : Mt} {K : Kt} {X : Xt} {pc : Nat} {ls stk : List Vl} {ty : Nm → Nat} {ln : Nm → Int} {I : Nm → Int → Int} {R : Nm → Int → Option Nm} {c1 w1 : Nat} (hG : Gd g) {idx : Nat} {a n : Nm} (hd : decode M.2.1 pc = .ok (.invokevirtual idx, 3)) (hlk : Cond.methodLink M.1.cls idx ⟨"[I", "clone", "()Ljava/lang/Object;"⟩ ∈ lw_tbl) (hsm : Cond.sameMethod "[I" "java/lang/Object" "clone" "()Ljava/lang/Object;" ∈ lw_tbl) (hnt : Cond.native ⟨"java/lang/Object", "clone", "()Ljava/lang/Object;"⟩ ∈ lw_tbl) (hin9 : Cond.instanceMethod ⟨"java/lang/Object", "clone", "()Ljava/lang/Object;"⟩ ∈ lw_tbl)
    (hsl : Cond.selects "[I" ⟨"[I", "clone", "()Ljava/lang/Object;"⟩ ⟨"java/lang/Object", "clone", "()Ljava/lang/Object;"⟩ ∈ lw_tbl) (hcs : Cond.castable "[I" "java/lang/Cloneable" ∈ lw_tbl) (ht : ty a = 1) (hn : ty n = 0) (hls : ls.length = M.2.2.1) (hj : ∀ v ∈ stk, v ≠ vJ) (hrm : (stk.map wgt).sum ≤ 18) (hd1 : 1 ≤ d) (hc1 : 1 ≤ c1) (hw1 : ln a ≤ (w1 : Int))
    (kk : SW g d M K X (pc + 3) ls (vR (some n) :: stk) (upN ty n 1, upN ln n (ln a), upN I n (I a), upN R n (R a), c1 - 1, w1 - (ln a).toNat)) : SW g d M K X pc ls (vR (some a) :: stk) (ty, ln, I, R, c1, w1) := by
  intro p e s m args below meth c ρs ρ c0 w0 H lc st locs cells slots C hS hL hst hR h1 h2 h3
  obtain ⟨xb, rest, rfl, hxb, hrest⟩ := SR_cons hst
  obtain ⟨b, hb9, rfl⟩ := VR_r hxb
  obtain ⟨hex, hb, hml, -, -, hown, hW, -⟩ := id C
  have hwt := SR_wgt hrest hj
  obtain ⟨N0, f0, a1, a2, a3, a4⟩ := hR.arr hb9 ht (by decide)
  have a1' : (N0 : Int) = ln a := a1
  have g1 : cells + c1 ≤ c0 := h1
  have g2 : slots + w1 ≤ w0 := h2
  have hRA : s.vm.findClass "[I" = some (gC g 1) := (arrK (hG.K hW) 1 (by decide) (by decide)).2
  obtain ⟨cc0, t0', f1, f2, f3⟩ := Cond.castable_spec (va_Nw.use (A := args) rfl (hG.cast hW hcs))
  cases hRA.symm.trans f1
  have hAO := (arrK (hG.K hW) 1 (by decide) (by decide)).1
  obtain ⟨-, kS, hkS, compS, hkindS⟩ := hAO 0 (fun _ => .null)
  intro T hT X0
  obtain ⟨-, kA, hkA, comp, hkind⟩ := State.isArrayOf_alike X0.warmed.alike (hAO 0 (fun _ => .null))
  have hsz : (arrV (gC g 1) N0 f0).slots.size = N0 := arrV_size _ _ _
  obtain ⟨vm', X', stp⟩ := X0.cloneArray hex hown (hG.wd hW hlk rfl) (hG.wd hW hsm rfl) (hG.wd hW hnt rfl) (hG.wd hW hin9 rfl) (hG.wd hW hsl rfl) (a := b) (cell := arrV (gC g 1) N0 f0) (by rw [hT]; exact a3) (fun k h => by cases h) (fun h => by cases h) hRA f2 f3
    (fun i v hv => by
      have hk' : T.vm.classes[gC g 1]? = some kA := hkA
      have hi : i < N0 := by have := (Array.getElem?_eq_some_iff.mp hv).1; rw [hsz] at this; exact this
      rw [arrV_read _ _ hi] at hv
      cases hv
      obtain ⟨y, ey, -⟩ := a4 i hi
      rw [ey]
      show T.fitsSlot (gC g 1) .none i _ = true
      simp [State.fitsSlot, State.slotType?, hk', hkind, atT, fits])
    (g := F0 m pc lc (.ref b :: rest)) rfl (by show lc.size = _; rw [hml]; exact hL.1.trans hls) rfl (by rw [hb]; exact hd) hd1 (by show 2 * 0 + _ + 14 ≤ 30 * d + 128; omega) (by show cells + 1 ≤ c0; omega) (by rw [hsz]; show slots + N0 ≤ w0; omega) (hloader := Vm.clonesLoader_of_array hkS hkindS)
  rw [hsz] at X'
  obtain ⟨hS', hR'⟩ := hR.new (c' := c1 - 1) (w' := w1 - (ln a).toNat) (n := n) hn (t := 1) (by decide) (z := ln a) (In := I a) (Rn := R a) (cell := arrV (gC g 1) N0 f0) (by
    unfold Cel
    rw [if_pos (by decide)]
    refine ⟨N0, f0, a1, a2, Array.getElem?_push_size, fun j hj => ?_⟩
    obtain ⟨y, ey1, ey2⟩ := a4 j hj
    exact ⟨y, ey1, ey2⟩)
  obtain ⟨t, x1, x2⟩ := kk p e s m args below meth c ρs _ c0 w0 _ lc (.ref H.size :: rest) locs (cells + 1) (slots + N0) C (hS.tr hS') (hL.up hS') ⟨⟨H.size, upN_self _ _ _, rfl⟩, hrest.up hS'⟩ hR' (by show cells + 1 + (c1 - 1) ≤ c0; omega) (by show slots + N0 + (w1 - (ln a).toNat) ≤ w0; omega) h3 _ (by rw [← hT]; rfl) X'
  refine ⟨t, stp t ?_, x2⟩
  rw [hT]
  exact x1
