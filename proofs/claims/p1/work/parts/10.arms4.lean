/-! ===== what is made ===== -/
theorem Cel_new {g : Gt} {ρ : Nm → Option Nat} {t N : Nat} (h9 : t < 9) {a : Nat} {H : Heap} {x : Value} (hN : N < 2 ^ 31) (hH : H[a]? = some ({ cls := gC g t, slots := Array.replicate N x, vm := .none } : Cell)) (hx : VR ρ (elv t (fun _ => 0) (fun _ => none) 0) x) : Cel g ρ t (N : Int) (fun _ => 0) (fun _ => none) a H := by
  unfold Cel
  rw [if_pos h9]
  refine ⟨N, fun _ => x, rfl, hN, by rw [hH, arrV_new], fun j _ => ?_⟩
  have e : elv t (fun _ => 0) (fun _ => none) (j : Int) = elv t (fun _ => 0) (fun _ => none) 0 := by unfold elv; rfl
  rw [e]
  exact hx
theorem a_newa {g : Gt} {d : Nat} {M : Mt} {K : Kt} {X : Xt} {pc : Nat} {ls stk : List Vl} {ty : Nm → Nat} {ln : Nm → Int} {I : Nm → Int → Int} {R : Nm → Int → Option Nm} {c1 w1 : Nat} (hG : Gd g) {q : ArrayType} {t : Nat} {n : Nm} {z : Int} (hd : decode M.2.1 pc = .ok (.newarray q, 2)) (hq : newarray.typeOf q = atT t) (ht : 0 < t ∧ t < 4) (hw9 : Cond.arrayClass (atT t) ∈ lw_tbl) (hn : ty n = 0) (h0 : 0 ≤ z) (hz : z ≤ 60000000) (hc1 : 1 ≤ c1) (hw1 : z ≤ (w1 : Int))
    (kk : SW g d M K X (pc + 2) ls (vR (some n) :: stk) (upN ty n t, upN ln n z, upN I n (fun _ => 0), upN R n (fun _ => none), c1 - 1, w1 - z.toNat)) : SW g d M K X pc ls (vI z :: stk) (ty, ln, I, R, c1, w1) := by
  intro p e s m args below meth c ρs ρ c0 w0 H lc st locs cells slots C hS hL hst hR h1 h2 h3
  obtain ⟨_, st1, rfl, ⟨iy, rfl, rfl⟩, hs⟩ := SR_cons hst
  obtain ⟨hex, hb, -, -, -, hown, hW, -⟩ := id C
  have ej := clampI h0
  have hcb : componentBytes (newarray.typeOf q) ≤ 8 := by
    rw [hq]
    obtain ⟨ht1, ht2⟩ := ht
    match t, ht1, ht2 with
    | 1, _, _ => decide
    | 2, _, _ => decide
    | 3, _, _ => decide
  have hb9 : iy.toNatClampNeg * componentBytes (newarray.typeOf q) ≤ 536870912 := Nat.le_trans (Nat.mul_le_mul_left _ hcb) (by omega)
  have g1 : cells + c1 ≤ c0 := h1
  have g2 : slots + w1 ≤ w0 := h2
  refine W.newa hex hb (by rw [hq]; exact hG.wd hW hw9 rfl) rfl hd rfl (fun z => inI (n := iy.toNatClampNeg + 1) h0 (by omega) (Or.inl z)) hb9 (by show cells + 1 ≤ c0; omega) (by show slots + iy.toNatClampNeg ≤ w0; omega) fun cA kA comp f1 f2 f3 => ?_
  have hcA : cA = gC g t := by
    have hRA := (arrK (hG.K hW) t ht.1 (by omega)).2
    rw [hq] at f1
    have : s.vm.findClass ("[" ++ (atT t).toString) = some (gC g t) := by
      obtain ⟨ht1, ht2⟩ := ht
      match t, ht1, ht2 with
      | 1, _, _ => exact hRA
      | 2, _, _ => exact hRA
      | 3, _, _ => exact hRA
    exact Option.some.inj (f1.symm.trans this)
  subst hcA
  have hx : ∀ ρ', VR ρ' (elv t (fun _ => 0) (fun _ => none) 0) (defaultValue (newarray.typeOf q)) := by
    intro ρ'
    rw [hq]
    obtain ⟨ht1, ht2⟩ := ht
    match t, ht1, ht2 with
    | 1, _, _ => exact ⟨0, rfl, rfl⟩
    | 2, _, _ => exact ⟨0, rfl, rfl⟩
    | 3, _, _ => exact ⟨0, rfl, rfl⟩
  obtain ⟨hS', hR'⟩ := hR.new (c' := c1 - 1) (w' := w1 - iy.toInt.toNat) (n := n) hn (t := t) (by omega) (z := iy.toInt) (cell := { cls := gC g t, slots := Array.replicate iy.toNatClampNeg (defaultValue (newarray.typeOf q)), vm := .none }) (by
    rw [← ej]
    exact Cel_new (by omega) (by have := Int32.toInt_lt iy; omega) Array.getElem?_push_size (hx _))
  exact kk p e s m args below meth c ρs _ c0 w0 _ lc _ locs (cells + 1) (slots + iy.toNatClampNeg) C (hS.tr hS') (hL.up hS') ⟨⟨H.size, upN_self _ _ _, rfl⟩, hs.up hS'⟩ hR' (by show cells + 1 + (c1 - 1) ≤ c0; omega) (by show slots + iy.toNatClampNeg + (w1 - iy.toInt.toNat) ≤ w0; omega) h3
theorem a_anew {g : Gt} {d : Nat} {M : Mt} {K : Kt} {X : Xt} {pc : Nat} {ls stk : List Vl} {ty : Nm → Nat} {ln : Nm → Int} {I : Nm → Int → Int} {R : Nm → Int → Option Nm} {c1 w1 : Nat} (hG : Gd g) {idx t : Nat} {E : String} {n : Nm} {z : Int} (hd : decode M.2.1 pc = .ok (.anewarray idx, 3)) (hE : atT t = .object E) (ht : 3 < t ∧ t < 9) (hk9 : Cond.classLink M.1.cls idx E ∈ lw_tbl) (hw9 : Cond.arrayOver (.object E) ∈ lw_tbl) (hn : ty n = 0) (h0 : 0 ≤ z) (hz : z ≤ 60000000) (hc1 : 1 ≤ c1) (hw1 : z ≤ (w1 : Int))
    (kk : SW g d M K X (pc + 3) ls (vR (some n) :: stk) (upN ty n t, upN ln n z, upN I n (fun _ => 0), upN R n (fun _ => none), c1 - 1, w1 - z.toNat)) : SW g d M K X pc ls (vI z :: stk) (ty, ln, I, R, c1, w1) := by
  intro p e s m args below meth c ρs ρ c0 w0 H lc st locs cells slots C hS hL hst hR h1 h2 h3
  obtain ⟨_, st1, rfl, ⟨iy, rfl, rfl⟩, hs⟩ := SR_cons hst
  obtain ⟨hex, hb, -, -, -, hown, hW, -⟩ := id C
  have ej := clampI h0
  have g1 : cells + c1 ≤ c0 := h1
  have g2 : slots + w1 ≤ w0 := h2
  refine W.anew hex hb hown (hG.wd hW hk9 rfl) (va_AO.use (va_AO.moved hW.alike (va_AO.of (hG.2.1 _ hw9)))) rfl hd rfl (fun z => inI (n := iy.toNatClampNeg + 1) h0 (by omega) (Or.inl z)) (by omega) (by show cells + 1 ≤ c0; omega) (by show slots + iy.toNatClampNeg ≤ w0; omega) fun cA kA comp f1 f2 f3 f4 => ?_
  have hcA : cA = gC g t := by
    have hRA := (arrK (hG.K hW) t (by omega) ht.2).2
    rw [hE] at hRA
    obtain ⟨-, -, -, -, -, h4⟩ := hRA
    exact Option.some.inj (f1.symm.trans h4)
  subst hcA
  obtain ⟨hS', hR'⟩ := hR.new (c' := c1 - 1) (w' := w1 - iy.toInt.toNat) (n := n) hn (t := t) (by omega) (z := iy.toInt) (cell := { cls := gC g t, slots := Array.replicate iy.toNatClampNeg .null, vm := .none }) (by
    rw [← ej]
    exact Cel_new (by omega) (by have := Int32.toInt_lt iy; omega) Array.getElem?_push_size (by rw [elv_r ht.1]; rfl))
  exact kk p e s m args below meth c ρs _ c0 w0 _ lc _ locs (cells + 1) (slots + iy.toNatClampNeg) C (hS.tr hS') (hL.up hS') ⟨⟨H.size, upN_self _ _ _, rfl⟩, hs.up hS'⟩ hR' (by show cells + 1 + (c1 - 1) ≤ c0; omega) (by show slots + iy.toNatClampNeg + (w1 - iy.toInt.toNat) ≤ w0; omega) h3
/-- fresh fields -/
def dfOK (ci k : Nat) : Bool := if frf ci k = true then decide (defaultValue (fyT ci k) = .null) else decide (defaultValue (fyT ci k) = .int 0)
theorem dfAll : ((List.range 11).all fun ci => (List.range 38).all fun k => dfOK ci k || decide (((clT[ci]?).map (fun q => q.2.2)).getD 0 ≤ k)) = true := by decide +kernel
theorem dfl {ci k : Nat} {C : String} {T : u_T} {N : Nat} (hc : clT[ci]? = some (C, T, N)) (hk : k < N) (ρ : Nm → Option Nat) : VR ρ (flv ci (fun _ => 0) (fun _ => none) k) (defaultValue (fyT ci k)) := by
  have h11 : ci < 11 := (List.getElem?_eq_some_iff.mp hc).1
  have h38 : N ≤ 38 := by
    match ci, hc with
    | 0, hc => cases hc; decide
    | 1, hc => cases hc; decide
    | 2, hc => cases hc; decide
    | 3, hc => cases hc; decide
    | 4, hc => cases hc; decide
    | 5, hc => cases hc; decide
    | 6, hc => cases hc; decide
    | 7, hc => cases hc; decide
    | 8, hc => cases hc; decide
    | 9, hc => cases hc; decide
    | 10, hc => cases hc; decide
    | n + 11, hc => cases hc
  have h1 := List.all_eq_true.mp dfAll ci (List.mem_range.mpr h11)
  have h2 := List.all_eq_true.mp h1 k (List.mem_range.mpr (by omega))
  rw [hc] at h2
  have h3 : dfOK ci k = true := by
    rcases Bool.or_eq_true_iff.mp h2 with q | q
    · exact q
    · have := of_decide_eq_true q
      simp at this
      omega
  unfold dfOK at h3
  unfold flv
  split at h3
  · rw [if_pos ‹_›, of_decide_eq_true h3]; rfl
  · rw [if_neg ‹_›, of_decide_eq_true h3]; exact ⟨0, rfl, rfl⟩
/-- 'new' of the class ci by the entry idx -/
def NV (own : String) (idx ci : Nat) : Prop := ∃ (C : String) (T : u_T) (N : Nat), clT[ci]? = some (C, T, N) ∧ Cond.classLink own idx C ∈ lw_tbl ∧ Cond.instantiable C N ∈ lw_tbl ∧ Cond.initialized C ∈ lw_tbl
def nFl (ci : Nat) : Nat := ((clT[ci]?).map (fun q => q.2.2)).getD 0
theorem a_new {g : Gt} {d : Nat} {M : Mt} {K : Kt} {X : Xt} {pc : Nat} {ls stk : List Vl} {ty : Nm → Nat} {ln : Nm → Int} {I : Nm → Int → Int} {R : Nm → Int → Option Nm} {c1 w1 : Nat} (hG : Gd g) {idx ci : Nat} {n : Nm} (hd : decode M.2.1 pc = .ok (.new idx, 3)) (hV : NV M.1.cls idx ci) (hn : ty n = 0) (hc1 : 1 ≤ c1) (hw1 : nFl ci ≤ w1)
    (kk : SW g d M K X (pc + 3) ls (vR (some n) :: stk) (upN ty n (100 + ci), upN ln n 0, upN I n (fun _ => 0), upN R n (fun _ => none), c1 - 1, w1 - nFl ci)) : SW g d M K X pc ls stk (ty, ln, I, R, c1, w1) := by
  intro p e s m args below meth c ρs ρ c0 w0 H lc st locs cells slots C hS hL hst hR h1 h2 h3
  obtain ⟨hex, hb, -, -, -, hown, hW, -⟩ := id C
  obtain ⟨CC, T, N, hcl, hv1, hv2, hv3⟩ := hV
  have hN : nFl ci = N := by unfold nFl; rw [hcl]; rfl
  rw [hN] at hw1 kk
  have g1 : cells + c1 ≤ c0 := h1
  have g2 : slots + w1 ≤ w0 := h2
  have hKs := hG.K hW
  have hts : ∀ w ∈ u_ws CC T N, w.before args s = true := hG.ws hW hcl
  refine W.newc hex hb hown (hG.wd hW hv1 rfl) (hG.wd hW hv2 rfl) (hG.wd hW hv3 rfl) rfl hd (by show cells + 1 ≤ c0; omega) (by show slots + N ≤ w0; omega) fun cC kC f1 f2 f3 f4 => ?_
  have hKc := hKs.1 ci _ hcl
  have hcC : cC = (gD g).1 ci := Option.some.inj (f1.symm.trans hKc.2.1)
  subst hcC
  have hO : t_OB H.size ((gD g).1 ci) N ((gD g).2 ci) (H.push (blank ((gD g).1 ci) kC)) (fun k => defaultValue (fyT ci k)) := u_born (fyT ci) hts (fun _ z => z) hKc f2 Array.getElem?_push_size (clOK ci CC T N hcl).2.2
  obtain ⟨hS', hR'⟩ := hR.new (c' := c1 - 1) (w' := w1 - N) (n := n) hn (t := 100 + ci) (by omega) (z := 0) (In := fun _ => 0) (Rn := fun _ => none) (cell := blank ((gD g).1 ci) kC) (by
    unfold Cel
    rw [if_neg (by omega), if_neg (by omega), if_neg (by omega), show 100 + ci - 100 = ci by omega]
    exact ⟨_, _, hcl, hO, fun k hk => dfl hcl hk _⟩)
  exact kk p e s m args below meth c ρs _ c0 w0 _ lc _ locs (cells + 1) (slots + N) C (hS.tr hS') (hL.up hS') ⟨⟨H.size, upN_self _ _ _, rfl⟩, hst.up hS'⟩ hR' (by show cells + 1 + (c1 - 1) ≤ c0; omega) (by show slots + N + (w1 - N) ≤ w0; omega) h3
/-- a cast to a class that the object is of -/
def KV (own : String) (idx ci : Nat) : Prop := ∃ (C : String) (T : u_T) (N : Nat) (E : String), clT[ci]? = some (C, T, N) ∧ Cond.classLink own idx E ∈ lw_tbl ∧ Cond.castable C E ∈ lw_tbl
theorem a_cast {g : Gt} {d : Nat} {M : Mt} {K : Kt} {X : Xt} {pc : Nat} {ls stk : List Vl} {h : AH} (hG : Gd g) {idx ci : Nat} {n : Nm} (hd : decode M.2.1 pc = .ok (.checkcast idx, 3)) (hV : KV M.1.cls idx ci) (ht : hT h n = 100 + ci) (kk : SW g d M K X (pc + 3) ls (vR (some n) :: stk) h) : SW g d M K X pc ls (vR (some n) :: stk) h := by
  intro p e s m args below meth c ρs ρ c0 w0 H lc st locs cells slots C hS hL hst hR h1 h2 h3
  obtain ⟨x, st1, rfl, hx, hs⟩ := SR_cons hst
  obtain ⟨a, ha, rfl⟩ := VR_r hx
  obtain ⟨hex, hb, -, -, -, hown, hW, -⟩ := id C
  obtain ⟨CC, T, N, E, hcl, hv1, hv2⟩ := hV
  obtain ⟨q, V9, hq, ⟨cellV, g1, g2, g3, -⟩, -⟩ := hR.obj ha ht
  have hcls := ((hG.K hW).1 ci _ hcl).2
  exact va_castY hex hb hown (hG.wd hW hv1 rfl) (hG.cast hW hv2) ⟨cellV, g1, by rw [g3]; rfl, by rw [g2]; exact hcls.1⟩ hd
    (kk p e s m args below meth c ρs ρ c0 w0 H lc _ locs cells slots C hS hL ⟨hx, hs⟩ hR h1 h2 h3)
theorem a_castN {g : Gt} {d : Nat} {M : Mt} {K : Kt} {X : Xt} {pc : Nat} {ls stk : List Vl} {h : AH} {idx : Nat} (hd : decode M.2.1 pc = .ok (.checkcast idx, 3)) (kk : SW g d M K X (pc + 3) ls (vR none :: stk) h) : SW g d M K X pc ls (vR none :: stk) h := by
  intro p e s m args below meth c ρs ρ c0 w0 H lc st locs cells slots C hS hL hst hR h1 h2 h3
  obtain ⟨x, st1, rfl, hx, hs⟩ := SR_cons hst
  cases VR_n hx
  obtain ⟨hex, hb, -, -, -, hown, hW, -⟩ := id C
  exact lv_castN hex hb hd (kk p e s m args below meth c ρs ρ c0 w0 H lc _ locs cells slots C hS hL ⟨hx, hs⟩ hR h1 h2 h3)
theorem a_ldc {g : Gt} {d : Nat} {M : Mt} {K : Kt} {X : Xt} {pc : Nat} {ls stk : List Vl} {h : AH} (hG : Gd g) {idx : Nat} {y : Int32} {z : Int} (hd : decode M.2.1 pc = .ok (.ldc idx, 2)) (hw : Cond.constant M.1.cls idx y ∈ lw_tbl) (hz : y.toInt = z) (kk : SW g d M K X (pc + 2) ls (vI z :: stk) h) : SW g d M K X pc ls stk h := by
  intro p e s m args below meth c ρs ρ c0 w0 H lc st locs cells slots C hS hL hst hR h1 h2 h3
  obtain ⟨hex, hb, -, -, -, hown, hW, -⟩ := id C
  exact lv_ldc hex hb hown (hG.wd hW hw rfl) hd (kk p e s m args below meth c ρs ρ c0 w0 H lc _ locs cells slots C hS hL ⟨⟨y, rfl, hz⟩, hst⟩ hR h1 h2 h3)
theorem a_ldc2 {g : Gt} {d : Nat} {M : Mt} {K : Kt} {X : Xt} {pc : Nat} {ls stk : List Vl} {h : AH} (hG : Gd g) {idx : Nat} {y : Int64} {z : Int} (hd : decode M.2.1 pc = .ok (.ldc2_w idx, 3)) (hw : Cond.constantLong M.1.cls idx y ∈ lw_tbl) (hz : y.toInt = z) (kk : SW g d M K X (pc + 3) ls (vL z :: stk) h) : SW g d M K X pc ls stk h := by
  intro p e s m args below meth c ρs ρ c0 w0 H lc st locs cells slots C hS hL hst hR h1 h2 h3
  obtain ⟨hex, hb, -, -, -, hown, hW, -⟩ := id C
  exact lv_ldc2 hex hb hown (hG.wd hW hw rfl) hd (kk p e s m args below meth c ρs ρ c0 w0 H lc _ locs cells slots C hS hL ⟨⟨y, rfl, hz⟩, hst⟩ hR h1 h2 h3)
theorem a_table {g : Gt} {d : Nat} {M : Mt} {K : Kt} {X : Xt} {pc : Nat} {ls stk : List Vl} {h : AH} {x dflt lo hi : Int} {offs : Array Int} {len tgt : Nat} (hd : decode M.2.1 pc = .ok (.tableswitch dflt lo hi offs, len)) (ht : (if x < lo ∨ hi < x then some dflt else offs[(x - lo).toNat]?) = some ((tgt : Int) - pc)) (kk : SW g d M K X tgt ls stk h) : SW g d M K X pc ls (vI x :: stk) h := by
  intro p e s m args below meth c ρs ρ c0 w0 H lc st locs cells slots C hS hL hst hR h1 h2 h3
  obtain ⟨_, st1, rfl, ⟨iy, rfl, rfl⟩, hs⟩ := SR_cons hst
  obtain ⟨hex, hb, -, -, -, hown, hW, -⟩ := id C
  split at ht
  · exact lv_tableOut hex hb hd ‹_› (by have := Option.some.inj ht; omega) (kk p e s m args below meth c ρs ρ c0 w0 H lc _ locs cells slots C hS hL hs hR h1 h2 h3)
  · rename_i hn
    exact lv_tableIn hex hb hd (fun q => hn (Or.inl q)) (fun q => hn (Or.inr q)) ht (by omega) (kk p e s m args below meth c ρs ρ c0 w0 H lc _ locs cells slots C hS hL hs hR h1 h2 h3)
theorem W.mono {p : Program} {l : Launch} {e : Env} {R : Room} {s : State} {m : MethodId} {args : Array Value} {below : List Frame} {meth : Method} {c : Code} {H : Heap} {locs : List Loc} {cells slots : Nat} {Q Q' : State → Prop} {f : JFrame} (hq : ∀ t, Q t → Q' t) (k : W p l e R s m args below meth c H locs cells slots Q f) : W p l e R s m args below meth c H locs cells slots Q' f := by
  intro T hT X0
  obtain ⟨t, a, b⟩ := k T hT X0
  exact ⟨t, a, hq t b⟩
theorem endR {g : Gt} {ρs ρ : Nm → Option Nat} {K : Kt} {X : Xt} {s : State} {below : List Frame} {c0 w0 cells slots : Nat} {h : AH} {H : Heap} {args : Array Value} {o : Outcome} (hS : Sb ρs ρ) (hR : Rep g ρ h H) (h1 : cells + hc h ≤ c0) (h2 : slots + hw h ≤ w0)
    (ho : (o = .returned none ∧ K none h) ∨ (∃ v x, o = .returned (some x) ∧ VR ρ v x ∧ v ≠ vJ ∧ K (some v) h)) : ∀ t, MQ below (fun _ _ o' t => o' = o ∧ t.heap = H) args s cells slots (nw g) t → Qf g ρs K X s below c0 w0 t := by
  rintro t ⟨o', b1, b2, ⟨rfl, b3⟩, L, ⟨-, b4, b5⟩, b6⟩
  refine ⟨o', b1, b2, h, ρ, L, hS, by rw [b3]; exact hR, b4, b5.mono (by omega) (by omega), b6, by omega, by omega, ?_⟩
  rcases ho with q | q
  · exact Or.inl q
  · exact Or.inr (Or.inl q)
theorem a_iret {g : Gt} {d : Nat} {M : Mt} {K : Kt} {X : Xt} {pc : Nat} {ls stk : List Vl} {h : AH} {z : Int} (hd : decode M.2.1 pc = .ok (.ireturn, 1)) (hr : M.2.2.2.1 = some .int ∨ (M.2.2.2.1 = some .boolean ∧ (z = 0 ∨ z = 1))) (k : K (some (vI z)) h) : SW g d M K X pc ls [vI z] h := by
  intro p e s m args below meth c ρs ρ c0 w0 H lc st locs cells slots C hS hL hst hR h1 h2 h3
  obtain ⟨_, st1, rfl, ⟨iy, rfl, rfl⟩, hs⟩ := SR_cons hst
  cases SR_nil hs
  obtain ⟨hex, hb, -, hrt, hlk, hown, hW, -⟩ := id C
  refine W.mono (endR (o := .returned (some (.int iy))) (args := args) hS hR h1 h2 (Or.inr ⟨vI iy.toInt, _, rfl, ⟨iy, rfl, rfl⟩, (fun q => nomatch q), k⟩)) ?_
  rcases hr with hr | ⟨hr, hz⟩
  · exact W.iret hex hb (hrt.trans hr) (fun t ht _ => ⟨rfl, ht⟩) h3 hd hlk
  · have : iy = 0 ∨ iy = 1 := by
      rcases hz with q | q
      · exact Or.inl (Int32.toInt_inj.mp q)
      · exact Or.inr (Int32.toInt_inj.mp q)
    exact W.zret hex hb (hrt.trans hr) (by rcases this with rfl | rfl <;> rfl) (fun t ht _ => ⟨rfl, ht⟩) h3 hd hlk
theorem a_vret {g : Gt} {d : Nat} {M : Mt} {K : Kt} {X : Xt} {pc : Nat} {ls stk : List Vl} {h : AH} (hd : decode M.2.1 pc = .ok (.return_, 1)) (hr : M.2.2.2.1 = none) (k : K none h) : SW g d M K X pc ls [] h := by
  intro p e s m args below meth c ρs ρ c0 w0 H lc st locs cells slots C hS hL hst hR h1 h2 h3
  cases SR_nil hst
  obtain ⟨hex, hb, -, hrt, hlk, hown, hW, -⟩ := id C
  exact W.mono (endR (o := .returned none) (args := args) hS hR h1 h2 (Or.inl ⟨rfl, k⟩)) (W.vret hex hb (hrt.trans hr) (fun t ht _ => ⟨rfl, ht⟩) h3 hd hlk)
theorem a_aret {g : Gt} {d : Nat} {M : Mt} {K : Kt} {X : Xt} {pc : Nat} {ls stk : List Vl} {h : AH} {z : Option Nm} {rt : FieldType} (hd : decode M.2.1 pc = .ok (.areturn, 1)) (hr : M.2.2.2.1 = some rt) (hrt9 : (∃ n, rt = .object n) ∨ ∃ t, rt = .array t) (k : K (some (vR z)) h) : SW g d M K X pc ls [vR z] h := by
  intro p e s m args below meth c ρs ρ c0 w0 H lc st locs cells slots C hS hL hst hR h1 h2 h3
  obtain ⟨x, st1, rfl, hx, hs⟩ := SR_cons hst
  cases SR_nil hs
  obtain ⟨hex, hb, -, hrt, hlk, hown, hW, -⟩ := id C
  have hxx : x = .null ∨ ∃ a, x = .ref a := by
    cases z with
    | none => exact Or.inl (VR_n hx)
    | some n => obtain ⟨a, -, e⟩ := VR_r hx; exact Or.inr ⟨a, e⟩
  exact W.mono (endR (o := .returned (some x)) (args := args) hS hR h1 h2 (Or.inr ⟨vR z, x, rfl, hx, (fun q => by cases z <;> exact nomatch q), k⟩)) (W.aret hex hb (hrt.trans hr) hrt9 hxx (fun t ht _ => ⟨rfl, ht⟩) h3 hd hlk)
