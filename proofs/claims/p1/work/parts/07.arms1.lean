/-! ===== instructions, an arm each: what stands behind it stands ahead of it ===== -/
theorem a_iconst {g : Gt} {d : Nat} {M : Mt} {K : Kt} {X : Xt} {pc : Nat} {ls stk : List Vl} {h : AH} {n : Int} {z : Int} (hd : decode M.2.1 pc = .ok (.iconst n, 1)) (hz : (Int32.ofInt n).toInt = z) (k : SW g d M K X (pc + 1) ls (vI z :: stk) h) : SW g d M K X pc ls stk h := by
  intro p e s m args below meth c ρs ρ c0 w0 H lc st locs cells slots C hS hL hst hR h1 h2 h3
  exact lv_iconst C.1 C.2.1 hd rfl (k p e s m args below meth c ρs ρ c0 w0 H lc _ locs cells slots C hS hL ⟨⟨_, rfl, hz⟩, hst⟩ hR h1 h2 h3)
theorem a_bipush {g : Gt} {d : Nat} {M : Mt} {K : Kt} {X : Xt} {pc : Nat} {ls stk : List Vl} {h : AH} {n : Int} {z : Int} (hd : decode M.2.1 pc = .ok (.bipush n, 2)) (hz : (Int8.ofInt n).toInt32.toInt = z) (k : SW g d M K X (pc + 2) ls (vI z :: stk) h) : SW g d M K X pc ls stk h := by
  intro p e s m args below meth c ρs ρ c0 w0 H lc st locs cells slots C hS hL hst hR h1 h2 h3
  exact lv_bipush C.1 C.2.1 hd rfl (k p e s m args below meth c ρs ρ c0 w0 H lc _ locs cells slots C hS hL ⟨⟨_, rfl, hz⟩, hst⟩ hR h1 h2 h3)
theorem a_sipush {g : Gt} {d : Nat} {M : Mt} {K : Kt} {X : Xt} {pc : Nat} {ls stk : List Vl} {h : AH} {n : Int} {z : Int} (hd : decode M.2.1 pc = .ok (.sipush n, 3)) (hz : (Int16.ofInt n).toInt32.toInt = z) (k : SW g d M K X (pc + 3) ls (vI z :: stk) h) : SW g d M K X pc ls stk h := by
  intro p e s m args below meth c ρs ρ c0 w0 H lc st locs cells slots C hS hL hst hR h1 h2 h3
  exact lv_sipush C.1 C.2.1 hd rfl (k p e s m args below meth c ρs ρ c0 w0 H lc _ locs cells slots C hS hL ⟨⟨_, rfl, hz⟩, hst⟩ hR h1 h2 h3)
theorem a_lconst {g : Gt} {d : Nat} {M : Mt} {K : Kt} {X : Xt} {pc : Nat} {ls stk : List Vl} {h : AH} {n : Fin 2} {z : Int} (hd : decode M.2.1 pc = .ok (.lconst n, 1)) (hz : (Int64.ofNat (n : Nat)).toInt = z) (k : SW g d M K X (pc + 1) ls (vL z :: stk) h) : SW g d M K X pc ls stk h := by
  intro p e s m args below meth c ρs ρ c0 w0 H lc st locs cells slots C hS hL hst hR h1 h2 h3
  exact lv_lconst C.1 C.2.1 hd rfl (k p e s m args below meth c ρs ρ c0 w0 H lc _ locs cells slots C hS hL ⟨⟨_, rfl, hz⟩, hst⟩ hR h1 h2 h3)
theorem a_null {g : Gt} {d : Nat} {M : Mt} {K : Kt} {X : Xt} {pc : Nat} {ls stk : List Vl} {h : AH} (hd : decode M.2.1 pc = .ok (.aconst_null, 1)) (k : SW g d M K X (pc + 1) ls (vR none :: stk) h) : SW g d M K X pc ls stk h := by
  intro p e s m args below meth c ρs ρ c0 w0 H lc st locs cells slots C hS hL hst hR h1 h2 h3
  exact lv_null C.1 C.2.1 hd (k p e s m args below meth c ρs ρ c0 w0 H lc _ locs cells slots C hS hL ⟨rfl, hst⟩ hR h1 h2 h3)
theorem a_iload_n {g : Gt} {d : Nat} {M : Mt} {K : Kt} {X : Xt} {pc : Nat} {ls stk : List Vl} {h : AH} {j : Fin 4} {i : Nat} {z : Int} (hd : decode M.2.1 pc = .ok (.iload_n j, 1)) (hi : (j : Nat) = i) (hl : ls[i]? = some (vI z)) (k : SW g d M K X (pc + 1) ls (vI z :: stk) h) : SW g d M K X pc ls stk h := by
  intro p e s m args below meth c ρs ρ c0 w0 H lc st locs cells slots C hS hL hst hR h1 h2 h3
  obtain ⟨x, e1, y, rfl, hy⟩ := hL.get hl (fun q => nomatch q)
  exact lv_iload_n C.1 C.2.1 hd hi e1 (k p e s m args below meth c ρs ρ c0 w0 H lc _ locs cells slots C hS hL ⟨⟨_, rfl, hy⟩, hst⟩ hR h1 h2 h3)
theorem a_lload_n {g : Gt} {d : Nat} {M : Mt} {K : Kt} {X : Xt} {pc : Nat} {ls stk : List Vl} {h : AH} {j : Fin 4} {i : Nat} {z : Int} (hd : decode M.2.1 pc = .ok (.lload_n j, 1)) (hi : (j : Nat) = i) (hl : ls[i]? = some (vL z)) (k : SW g d M K X (pc + 1) ls (vL z :: stk) h) : SW g d M K X pc ls stk h := by
  intro p e s m args below meth c ρs ρ c0 w0 H lc st locs cells slots C hS hL hst hR h1 h2 h3
  obtain ⟨x, e1, y, rfl, hy⟩ := hL.get hl (fun q => nomatch q)
  exact lv_lload_n C.1 C.2.1 hd hi e1 (k p e s m args below meth c ρs ρ c0 w0 H lc _ locs cells slots C hS hL ⟨⟨_, rfl, hy⟩, hst⟩ hR h1 h2 h3)
theorem a_aload_n {g : Gt} {d : Nat} {M : Mt} {K : Kt} {X : Xt} {pc : Nat} {ls stk : List Vl} {h : AH} {j : Fin 4} {i : Nat} {z : Option Nm} (hd : decode M.2.1 pc = .ok (.aload_n j, 1)) (hi : (j : Nat) = i) (hl : ls[i]? = some (vR z)) (k : SW g d M K X (pc + 1) ls (vR z :: stk) h) : SW g d M K X pc ls stk h := by
  intro p e s m args below meth c ρs ρ c0 w0 H lc st locs cells slots C hS hL hst hR h1 h2 h3
  obtain ⟨x, e1, hy⟩ := hL.get hl (fun q => nomatch q)
  cases z with
  | none =>
    rw [VR_n hy] at e1
    exact lv_aload_nN C.1 C.2.1 hd hi e1 (k p e s m args below meth c ρs ρ c0 w0 H lc _ locs cells slots C hS hL ⟨rfl, hst⟩ hR h1 h2 h3)
  | some n =>
    obtain ⟨a, ha, rfl⟩ := VR_r hy
    exact lv_aload_n C.1 C.2.1 hd hi e1 (k p e s m args below meth c ρs ρ c0 w0 H lc _ locs cells slots C hS hL ⟨⟨a, ha, rfl⟩, hst⟩ hR h1 h2 h3)
theorem a_iload {g : Gt} {d : Nat} {M : Mt} {K : Kt} {X : Xt} {pc : Nat} {ls stk : List Vl} {h : AH} {i : Nat} {z : Int} (hd : decode M.2.1 pc = .ok (.iload i, 2)) (hl : ls[i]? = some (vI z)) (k : SW g d M K X (pc + 2) ls (vI z :: stk) h) : SW g d M K X pc ls stk h := by
  intro p e s m args below meth c ρs ρ c0 w0 H lc st locs cells slots C hS hL hst hR h1 h2 h3
  obtain ⟨x, e1, y, rfl, hy⟩ := hL.get hl (fun q => nomatch q)
  exact lv_iload C.1 C.2.1 hd e1 (k p e s m args below meth c ρs ρ c0 w0 H lc _ locs cells slots C hS hL ⟨⟨_, rfl, hy⟩, hst⟩ hR h1 h2 h3)
theorem a_lload {g : Gt} {d : Nat} {M : Mt} {K : Kt} {X : Xt} {pc : Nat} {ls stk : List Vl} {h : AH} {i : Nat} {z : Int} (hd : decode M.2.1 pc = .ok (.lload i, 2)) (hl : ls[i]? = some (vL z)) (k : SW g d M K X (pc + 2) ls (vL z :: stk) h) : SW g d M K X pc ls stk h := by
  intro p e s m args below meth c ρs ρ c0 w0 H lc st locs cells slots C hS hL hst hR h1 h2 h3
  obtain ⟨x, e1, y, rfl, hy⟩ := hL.get hl (fun q => nomatch q)
  exact lv_lload C.1 C.2.1 hd e1 (k p e s m args below meth c ρs ρ c0 w0 H lc _ locs cells slots C hS hL ⟨⟨_, rfl, hy⟩, hst⟩ hR h1 h2 h3)
theorem a_aload {g : Gt} {d : Nat} {M : Mt} {K : Kt} {X : Xt} {pc : Nat} {ls stk : List Vl} {h : AH} {i : Nat} {z : Option Nm} (hd : decode M.2.1 pc = .ok (.aload i, 2)) (hl : ls[i]? = some (vR z)) (k : SW g d M K X (pc + 2) ls (vR z :: stk) h) : SW g d M K X pc ls stk h := by
  intro p e s m args below meth c ρs ρ c0 w0 H lc st locs cells slots C hS hL hst hR h1 h2 h3
  obtain ⟨x, e1, hy⟩ := hL.get hl (fun q => nomatch q)
  cases z with
  | none =>
    rw [VR_n hy] at e1
    exact lv_aloadN C.1 C.2.1 hd e1 (k p e s m args below meth c ρs ρ c0 w0 H lc _ locs cells slots C hS hL ⟨rfl, hst⟩ hR h1 h2 h3)
  | some n =>
    obtain ⟨a, ha, rfl⟩ := VR_r hy
    exact lv_aload C.1 C.2.1 hd e1 (k p e s m args below meth c ρs ρ c0 w0 H lc _ locs cells slots C hS hL ⟨⟨a, ha, rfl⟩, hst⟩ hR h1 h2 h3)
theorem a_istore {g : Gt} {d : Nat} {M : Mt} {K : Kt} {X : Xt} {pc : Nat} {ls stk : List Vl} {h : AH} {i : Nat} {z : Int} (hd : decode M.2.1 pc = .ok (.istore i, 2)) (hi1 : i < ls.length) (hn : noL ls i) (k : SW g d M K X (pc + 2) (ls.set i (vI z)) stk h) : SW g d M K X pc ls (vI z :: stk) h := by
  intro p e s m args below meth c ρs ρ c0 w0 H lc st locs cells slots C hS hL hst hR h1 h2 h3
  obtain ⟨x, st', rfl, hx, hs⟩ := SR_cons hst
  obtain ⟨y, rfl, hy⟩ := VR_i hx
  obtain ⟨lc', e1, hL'⟩ := hL.set1 hi1 hn hx rfl
  intro T hT X0
  obtain ⟨t, a, b⟩ := k p e s m args below meth c ρs ρ c0 w0 H lc' _ locs cells slots C hS hL' hs hR h1 h2 h3 T hT X0
  refine ⟨t, ?_, b⟩
  jvm_step X0.here [X0.here.top, C.1, C.2.1, hd, e1]
  exact a
theorem a_astore {g : Gt} {d : Nat} {M : Mt} {K : Kt} {X : Xt} {pc : Nat} {ls stk : List Vl} {h : AH} {i : Nat} {z : Vl} (hz : z = vX ∨ ∃ q, z = vR q) (hd : decode M.2.1 pc = .ok (.astore i, 2)) (hi1 : i < ls.length) (hn : noL ls i) (k : SW g d M K X (pc + 2) (ls.set i z) stk h) : SW g d M K X pc ls (z :: stk) h := by
  intro p e s m args below meth c ρs ρ c0 w0 H lc st locs cells slots C hS hL hst hR h1 h2 h3
  obtain ⟨x, st', rfl, hx, hs⟩ := SR_cons hst
  have hxx : x = .null ∨ ∃ a, x = .ref a := by
    rcases hz with rfl | ⟨q, rfl⟩
    · exact Or.inr (VR_x hx)
    · cases q with
      | none => exact Or.inl (VR_n hx)
      | some n => obtain ⟨a, -, e⟩ := VR_r hx; exact Or.inr ⟨a, e⟩
  rcases hxx with rfl | ⟨q, rfl⟩
  · obtain ⟨lc', e1, hL'⟩ := hL.set1 hi1 hn hx rfl
    intro T hT X0
    obtain ⟨t, a, b⟩ := k p e s m args below meth c ρs ρ c0 w0 H lc' _ locs cells slots C hS hL' hs hR h1 h2 h3 T hT X0
    refine ⟨t, ?_, b⟩
    jvm_step X0.here [X0.here.top, C.1, C.2.1, hd, e1]
    exact ⟨rfl, a⟩
  · obtain ⟨lc', e1, hL'⟩ := hL.set1 hi1 hn hx rfl
    intro T hT X0
    obtain ⟨t, a, b⟩ := k p e s m args below meth c ρs ρ c0 w0 H lc' _ locs cells slots C hS hL' hs hR h1 h2 h3 T hT X0
    refine ⟨t, ?_, b⟩
    jvm_step X0.here [X0.here.top, C.1, C.2.1, hd, e1]
    exact ⟨rfl, a⟩
theorem a_istore_n {g : Gt} {d : Nat} {M : Mt} {K : Kt} {X : Xt} {pc : Nat} {ls stk : List Vl} {h : AH} {j : Fin 4} {i : Nat} {z : Int} (hd : decode M.2.1 pc = .ok (.istore_n j, 1)) (hi : (j : Nat) = i) (hi1 : i < ls.length) (hn : noL ls i) (k : SW g d M K X (pc + 1) (ls.set i (vI z)) stk h) : SW g d M K X pc ls (vI z :: stk) h := by
  intro p e s m args below meth c ρs ρ c0 w0 H lc st locs cells slots C hS hL hst hR h1 h2 h3
  subst hi
  obtain ⟨x, st', rfl, hx, hs⟩ := SR_cons hst
  obtain ⟨y, rfl, hy⟩ := VR_i hx
  obtain ⟨lc', e1, hL'⟩ := hL.set1 hi1 hn hx rfl
  intro T hT X0
  obtain ⟨t, a, b⟩ := k p e s m args below meth c ρs ρ c0 w0 H lc' _ locs cells slots C hS hL' hs hR h1 h2 h3 T hT X0
  refine ⟨t, ?_, b⟩
  jvm_step X0.here [X0.here.top, C.1, C.2.1, hd, e1]
  exact a
theorem a_astore_n {g : Gt} {d : Nat} {M : Mt} {K : Kt} {X : Xt} {pc : Nat} {ls stk : List Vl} {h : AH} {j : Fin 4} {i : Nat} {z : Vl} (hz : z = vX ∨ ∃ q, z = vR q) (hd : decode M.2.1 pc = .ok (.astore_n j, 1)) (hi : (j : Nat) = i) (hi1 : i < ls.length) (hn : noL ls i) (k : SW g d M K X (pc + 1) (ls.set i z) stk h) : SW g d M K X pc ls (z :: stk) h := by
  intro p e s m args below meth c ρs ρ c0 w0 H lc st locs cells slots C hS hL hst hR h1 h2 h3
  subst hi
  obtain ⟨x, st', rfl, hx, hs⟩ := SR_cons hst
  have hxx : x = .null ∨ ∃ a, x = .ref a := by
    rcases hz with rfl | ⟨q, rfl⟩
    · exact Or.inr (VR_x hx)
    · cases q with
      | none => exact Or.inl (VR_n hx)
      | some n => obtain ⟨a, -, e⟩ := VR_r hx; exact Or.inr ⟨a, e⟩
  rcases hxx with rfl | ⟨q, rfl⟩
  · obtain ⟨lc', e1, hL'⟩ := hL.set1 hi1 hn hx rfl
    intro T hT X0
    obtain ⟨t, a, b⟩ := k p e s m args below meth c ρs ρ c0 w0 H lc' _ locs cells slots C hS hL' hs hR h1 h2 h3 T hT X0
    refine ⟨t, ?_, b⟩
    jvm_step X0.here [X0.here.top, C.1, C.2.1, hd, e1]
    exact ⟨rfl, a⟩
  · obtain ⟨lc', e1, hL'⟩ := hL.set1 hi1 hn hx rfl
    intro T hT X0
    obtain ⟨t, a, b⟩ := k p e s m args below meth c ρs ρ c0 w0 H lc' _ locs cells slots C hS hL' hs hR h1 h2 h3 T hT X0
    refine ⟨t, ?_, b⟩
    jvm_step X0.here [X0.here.top, C.1, C.2.1, hd, e1]
    exact ⟨rfl, a⟩
theorem a_lstore {g : Gt} {d : Nat} {M : Mt} {K : Kt} {X : Xt} {pc : Nat} {ls stk : List Vl} {h : AH} {i : Nat} {z : Int} (hd : decode M.2.1 pc = .ok (.lstore i, 2)) (hi1 : i + 1 < ls.length) (hn : noL ls i) (k : SW g d M K X (pc + 2) ((ls.set i (vL z)).set (i + 1) vJ) stk h) : SW g d M K X pc ls (vL z :: stk) h := by
  intro p e s m args below meth c ρs ρ c0 w0 H lc st locs cells slots C hS hL hst hR h1 h2 h3
  obtain ⟨x, st', rfl, hx, hs⟩ := SR_cons hst
  obtain ⟨y, rfl, hy⟩ := VR_l hx
  obtain ⟨lc', e1, hL'⟩ := hL.set2 hi1 hn hx rfl
  intro T hT X0
  obtain ⟨t, a, b⟩ := k p e s m args below meth c ρs ρ c0 w0 H lc' _ locs cells slots C hS hL' hs hR h1 h2 h3 T hT X0
  refine ⟨t, ?_, b⟩
  jvm_step X0.here [X0.here.top, C.1, C.2.1, hd, e1]
  exact a
theorem a_iinc {g : Gt} {d : Nat} {M : Mt} {K : Kt} {X : Xt} {pc : Nat} {ls stk : List Vl} {h : AH} {i : Nat} {z n : Int} (hd : decode M.2.1 pc = .ok (.iinc i n, 3)) (hl : ls[i]? = some (vI z)) (hn : noL ls i) (k : SW g d M K X (pc + 3) (ls.set i (vI (w32 (z + n)))) stk h) : SW g d M K X pc ls stk h := by
  intro p e s m args below meth c ρs ρ c0 w0 H lc st locs cells slots C hS hL hst hR h1 h2 h3
  obtain ⟨x, e0, y, rfl, hy⟩ := hL.get hl (fun q => nomatch q)
  have hi1 : i < ls.length := (List.getElem?_eq_some_iff.mp hl).1
  have hv : VR ρ (vI (w32 (z + n))) (.int (y + Int32.ofInt n)) := ⟨_, rfl, by unfold w32; rw [Int32.ofInt_add, ← hy, Int32.ofInt_toInt]⟩
  obtain ⟨lc', e1, hL'⟩ := hL.set1 hi1 hn hv rfl
  intro T hT X0
  obtain ⟨t, a, b⟩ := k p e s m args below meth c ρs ρ c0 w0 H lc' _ locs cells slots C hS hL' hst hR h1 h2 h3 T hT X0
  refine ⟨t, ?_, b⟩
  jvm_step X0.here [X0.here.top, ↓top_set X0.here.top, C.1, C.2.1, hd, e0, e1]
  exact a
theorem a_iadd {g : Gt} {d : Nat} {M : Mt} {K : Kt} {X : Xt} {pc : Nat} {ls stk : List Vl} {h : AH} {x y : Int} (hd : decode M.2.1 pc = .ok (.iadd, 1)) (k : SW g d M K X (pc + 1) ls (vI (w32 (x + y)) :: stk) h) : SW g d M K X pc ls (vI y :: vI x :: stk) h := by
  intro p e s m args below meth c ρs ρ c0 w0 H lc st locs cells slots C hS hL hst hR h1 h2 h3
  obtain ⟨_, st1, rfl, ⟨iy, rfl, rfl⟩, hs1⟩ := SR_cons hst
  obtain ⟨_, st2, rfl, ⟨ix, rfl, rfl⟩, hs⟩ := SR_cons hs1
  exact lv_iadd C.1 C.2.1 hd (k p e s m args below meth c ρs ρ c0 w0 H lc _ locs cells slots C hS hL ⟨⟨_, rfl, i32_add ix iy⟩, hs⟩ hR h1 h2 h3)
theorem a_isub {g : Gt} {d : Nat} {M : Mt} {K : Kt} {X : Xt} {pc : Nat} {ls stk : List Vl} {h : AH} {x y : Int} (hd : decode M.2.1 pc = .ok (.isub, 1)) (k : SW g d M K X (pc + 1) ls (vI (w32 (x - y)) :: stk) h) : SW g d M K X pc ls (vI y :: vI x :: stk) h := by
  intro p e s m args below meth c ρs ρ c0 w0 H lc st locs cells slots C hS hL hst hR h1 h2 h3
  obtain ⟨_, st1, rfl, ⟨iy, rfl, rfl⟩, hs1⟩ := SR_cons hst
  obtain ⟨_, st2, rfl, ⟨ix, rfl, rfl⟩, hs⟩ := SR_cons hs1
  exact lv_isub C.1 C.2.1 hd (k p e s m args below meth c ρs ρ c0 w0 H lc _ locs cells slots C hS hL ⟨⟨_, rfl, i32_sub ix iy⟩, hs⟩ hR h1 h2 h3)
theorem a_imul {g : Gt} {d : Nat} {M : Mt} {K : Kt} {X : Xt} {pc : Nat} {ls stk : List Vl} {h : AH} {x y : Int} (hd : decode M.2.1 pc = .ok (.imul, 1)) (k : SW g d M K X (pc + 1) ls (vI (w32 (x * y)) :: stk) h) : SW g d M K X pc ls (vI y :: vI x :: stk) h := by
  intro p e s m args below meth c ρs ρ c0 w0 H lc st locs cells slots C hS hL hst hR h1 h2 h3
  obtain ⟨_, st1, rfl, ⟨iy, rfl, rfl⟩, hs1⟩ := SR_cons hst
  obtain ⟨_, st2, rfl, ⟨ix, rfl, rfl⟩, hs⟩ := SR_cons hs1
  exact lv_imul C.1 C.2.1 hd (k p e s m args below meth c ρs ρ c0 w0 H lc _ locs cells slots C hS hL ⟨⟨_, rfl, i32_mul ix iy⟩, hs⟩ hR h1 h2 h3)
theorem a_idiv {g : Gt} {d : Nat} {M : Mt} {K : Kt} {X : Xt} {pc : Nat} {ls stk : List Vl} {h : AH} {x y : Int} (hd : decode M.2.1 pc = .ok (.idiv, 1)) (hne : y ≠ 0) (k : SW g d M K X (pc + 1) ls (vI (w32 (x.tdiv y)) :: stk) h) : SW g d M K X pc ls (vI y :: vI x :: stk) h := by
  intro p e s m args below meth c ρs ρ c0 w0 H lc st locs cells slots C hS hL hst hR h1 h2 h3
  obtain ⟨_, st1, rfl, ⟨iy, rfl, rfl⟩, hs1⟩ := SR_cons hst
  obtain ⟨_, st2, rfl, ⟨ix, rfl, rfl⟩, hs⟩ := SR_cons hs1
  exact lv_idiv C.1 C.2.1 hd (fun q => hne (by rw [q]; rfl)) (k p e s m args below meth c ρs ρ c0 w0 H lc _ locs cells slots C hS hL ⟨⟨_, rfl, (by unfold w32; rw [Int32.toInt_ofInt, Int32.toInt_div])⟩, hs⟩ hR h1 h2 h3)
theorem a_irem {g : Gt} {d : Nat} {M : Mt} {K : Kt} {X : Xt} {pc : Nat} {ls stk : List Vl} {h : AH} {x y : Int} (hd : decode M.2.1 pc = .ok (.irem, 1)) (hne : y ≠ 0) (k : SW g d M K X (pc + 1) ls (vI (x.tmod y) :: stk) h) : SW g d M K X pc ls (vI y :: vI x :: stk) h := by
  intro p e s m args below meth c ρs ρ c0 w0 H lc st locs cells slots C hS hL hst hR h1 h2 h3
  obtain ⟨_, st1, rfl, ⟨iy, rfl, rfl⟩, hs1⟩ := SR_cons hst
  obtain ⟨_, st2, rfl, ⟨ix, rfl, rfl⟩, hs⟩ := SR_cons hs1
  exact lv_irem C.1 C.2.1 hd (fun q => hne (by rw [q]; rfl)) (k p e s m args below meth c ρs ρ c0 w0 H lc _ locs cells slots C hS hL ⟨⟨_, rfl, rem_toInt ix iy⟩, hs⟩ hR h1 h2 h3)
theorem a_iand {g : Gt} {d : Nat} {M : Mt} {K : Kt} {X : Xt} {pc : Nat} {ls stk : List Vl} {h : AH} {x y : Int} (hd : decode M.2.1 pc = .ok (.iand, 1)) (k : SW g d M K X (pc + 1) ls (vI (and32 x y) :: stk) h) : SW g d M K X pc ls (vI y :: vI x :: stk) h := by
  intro p e s m args below meth c ρs ρ c0 w0 H lc st locs cells slots C hS hL hst hR h1 h2 h3
  obtain ⟨_, st1, rfl, ⟨iy, rfl, rfl⟩, hs1⟩ := SR_cons hst
  obtain ⟨_, st2, rfl, ⟨ix, rfl, rfl⟩, hs⟩ := SR_cons hs1
  exact lv_iand C.1 C.2.1 hd (k p e s m args below meth c ρs ρ c0 w0 H lc _ locs cells slots C hS hL ⟨⟨_, rfl, (by unfold and32; rw [Int32.ofInt_toInt, Int32.ofInt_toInt])⟩, hs⟩ hR h1 h2 h3)
theorem a_ixor {g : Gt} {d : Nat} {M : Mt} {K : Kt} {X : Xt} {pc : Nat} {ls stk : List Vl} {h : AH} {x y : Int} (hd : decode M.2.1 pc = .ok (.ixor, 1)) (k : SW g d M K X (pc + 1) ls (vI (xor32 x y) :: stk) h) : SW g d M K X pc ls (vI y :: vI x :: stk) h := by
  intro p e s m args below meth c ρs ρ c0 w0 H lc st locs cells slots C hS hL hst hR h1 h2 h3
  obtain ⟨_, st1, rfl, ⟨iy, rfl, rfl⟩, hs1⟩ := SR_cons hst
  obtain ⟨_, st2, rfl, ⟨ix, rfl, rfl⟩, hs⟩ := SR_cons hs1
  exact lv_ixor C.1 C.2.1 hd (k p e s m args below meth c ρs ρ c0 w0 H lc _ locs cells slots C hS hL ⟨⟨_, rfl, (by unfold xor32; rw [Int32.ofInt_toInt, Int32.ofInt_toInt])⟩, hs⟩ hR h1 h2 h3)
theorem a_ishl {g : Gt} {d : Nat} {M : Mt} {K : Kt} {X : Xt} {pc : Nat} {ls stk : List Vl} {h : AH} {x y : Int} (hd : decode M.2.1 pc = .ok (.ishl, 1)) (k : SW g d M K X (pc + 1) ls (vI (shl32 x y) :: stk) h) : SW g d M K X pc ls (vI y :: vI x :: stk) h := by
  intro p e s m args below meth c ρs ρ c0 w0 H lc st locs cells slots C hS hL hst hR h1 h2 h3
  obtain ⟨_, st1, rfl, ⟨iy, rfl, rfl⟩, hs1⟩ := SR_cons hst
  obtain ⟨_, st2, rfl, ⟨ix, rfl, rfl⟩, hs⟩ := SR_cons hs1
  exact lv_ishl C.1 C.2.1 hd (k p e s m args below meth c ρs ρ c0 w0 H lc _ locs cells slots C hS hL ⟨⟨_, rfl, (by unfold shl32; rw [Int32.ofInt_toInt, Int32.ofInt_toInt])⟩, hs⟩ hR h1 h2 h3)
theorem a_ishr {g : Gt} {d : Nat} {M : Mt} {K : Kt} {X : Xt} {pc : Nat} {ls stk : List Vl} {h : AH} {x y : Int} (hd : decode M.2.1 pc = .ok (.ishr, 1)) (k : SW g d M K X (pc + 1) ls (vI (shr32 x y) :: stk) h) : SW g d M K X pc ls (vI y :: vI x :: stk) h := by
  intro p e s m args below meth c ρs ρ c0 w0 H lc st locs cells slots C hS hL hst hR h1 h2 h3
  obtain ⟨_, st1, rfl, ⟨iy, rfl, rfl⟩, hs1⟩ := SR_cons hst
  obtain ⟨_, st2, rfl, ⟨ix, rfl, rfl⟩, hs⟩ := SR_cons hs1
  exact lv_ishr C.1 C.2.1 hd (k p e s m args below meth c ρs ρ c0 w0 H lc _ locs cells slots C hS hL ⟨⟨_, rfl, (by unfold shr32; rw [Int32.ofInt_toInt, Int32.ofInt_toInt])⟩, hs⟩ hR h1 h2 h3)
theorem a_ladd {g : Gt} {d : Nat} {M : Mt} {K : Kt} {X : Xt} {pc : Nat} {ls stk : List Vl} {h : AH} {x y : Int} (hd : decode M.2.1 pc = .ok (.ladd, 1)) (k : SW g d M K X (pc + 1) ls (vL (w64 (x + y)) :: stk) h) : SW g d M K X pc ls (vL y :: vL x :: stk) h := by
  intro p e s m args below meth c ρs ρ c0 w0 H lc st locs cells slots C hS hL hst hR h1 h2 h3
  obtain ⟨_, st1, rfl, ⟨iy, rfl, rfl⟩, hs1⟩ := SR_cons hst
  obtain ⟨_, st2, rfl, ⟨ix, rfl, rfl⟩, hs⟩ := SR_cons hs1
  exact lv_ladd C.1 C.2.1 hd (k p e s m args below meth c ρs ρ c0 w0 H lc _ locs cells slots C hS hL ⟨⟨_, rfl, i64_add ix iy⟩, hs⟩ hR h1 h2 h3)
theorem a_lmul {g : Gt} {d : Nat} {M : Mt} {K : Kt} {X : Xt} {pc : Nat} {ls stk : List Vl} {h : AH} {x y : Int} (hd : decode M.2.1 pc = .ok (.lmul, 1)) (k : SW g d M K X (pc + 1) ls (vL (w64 (x * y)) :: stk) h) : SW g d M K X pc ls (vL y :: vL x :: stk) h := by
  intro p e s m args below meth c ρs ρ c0 w0 H lc st locs cells slots C hS hL hst hR h1 h2 h3
  obtain ⟨_, st1, rfl, ⟨iy, rfl, rfl⟩, hs1⟩ := SR_cons hst
  obtain ⟨_, st2, rfl, ⟨ix, rfl, rfl⟩, hs⟩ := SR_cons hs1
  exact lv_lmul C.1 C.2.1 hd (k p e s m args below meth c ρs ρ c0 w0 H lc _ locs cells slots C hS hL ⟨⟨_, rfl, i64_mul ix iy⟩, hs⟩ hR h1 h2 h3)
theorem a_lrem {g : Gt} {d : Nat} {M : Mt} {K : Kt} {X : Xt} {pc : Nat} {ls stk : List Vl} {h : AH} {x y : Int} (hd : decode M.2.1 pc = .ok (.lrem, 1)) (hne : y ≠ 0) (k : SW g d M K X (pc + 1) ls (vL (rem64 x y) :: stk) h) : SW g d M K X pc ls (vL y :: vL x :: stk) h := by
  intro p e s m args below meth c ρs ρ c0 w0 H lc st locs cells slots C hS hL hst hR h1 h2 h3
  obtain ⟨_, st1, rfl, ⟨iy, rfl, rfl⟩, hs1⟩ := SR_cons hst
  obtain ⟨_, st2, rfl, ⟨ix, rfl, rfl⟩, hs⟩ := SR_cons hs1
  exact lv_lrem C.1 C.2.1 hd (fun q => hne (by rw [q]; rfl)) (k p e s m args below meth c ρs ρ c0 w0 H lc _ locs cells slots C hS hL ⟨⟨_, rfl, (by unfold rem64; rw [Int64.ofInt_toInt, Int64.ofInt_toInt])⟩, hs⟩ hR h1 h2 h3)
theorem a_i2l {g : Gt} {d : Nat} {M : Mt} {K : Kt} {X : Xt} {pc : Nat} {ls stk : List Vl} {h : AH} {x : Int} (hd : decode M.2.1 pc = .ok (.i2l, 1)) (k : SW g d M K X (pc + 1) ls (vL x :: stk) h) : SW g d M K X pc ls (vI x :: stk) h := by
  intro p e s m args below meth c ρs ρ c0 w0 H lc st locs cells slots C hS hL hst hR h1 h2 h3
  obtain ⟨_, st1, rfl, ⟨iy, rfl, rfl⟩, hs⟩ := SR_cons hst
  exact lv_i2l C.1 C.2.1 hd rfl (k p e s m args below meth c ρs ρ c0 w0 H lc _ locs cells slots C hS hL ⟨⟨_, rfl, Int32.toInt_toInt64 iy⟩, hs⟩ hR h1 h2 h3)
theorem a_l2i {g : Gt} {d : Nat} {M : Mt} {K : Kt} {X : Xt} {pc : Nat} {ls stk : List Vl} {h : AH} {x : Int} (hd : decode M.2.1 pc = .ok (.l2i, 1)) (k : SW g d M K X (pc + 1) ls (vI (w32 x) :: stk) h) : SW g d M K X pc ls (vL x :: stk) h := by
  intro p e s m args below meth c ρs ρ c0 w0 H lc st locs cells slots C hS hL hst hR h1 h2 h3
  obtain ⟨_, st1, rfl, ⟨iy, rfl, rfl⟩, hs⟩ := SR_cons hst
  exact lv_l2i C.1 C.2.1 hd rfl (k p e s m args below meth c ρs ρ c0 w0 H lc _ locs cells slots C hS hL ⟨⟨_, rfl, (by unfold w32; rw [Int32.toInt_ofInt, Int64.toInt_toInt32])⟩, hs⟩ hR h1 h2 h3)
theorem lg_cmp_int (x y : Int64) : (lg_cmp x y).toInt = cmp64 x.toInt y.toInt := by
  unfold lg_cmp cmp64
  simp only [Int64.lt_iff_toInt_lt, ← Int64.toInt_inj]
  split <;> split <;> (try split) <;> first | rfl | omega | decide
theorem a_lcmp {g : Gt} {d : Nat} {M : Mt} {K : Kt} {X : Xt} {pc : Nat} {ls stk : List Vl} {h : AH} {x y : Int} (hd : decode M.2.1 pc = .ok (.lcmp, 1)) (k : SW g d M K X (pc + 1) ls (vI (cmp64 x y) :: stk) h) : SW g d M K X pc ls (vL y :: vL x :: stk) h := by
  intro p e s m args below meth c ρs ρ c0 w0 H lc st locs cells slots C hS hL hst hR h1 h2 h3
  obtain ⟨_, st1, rfl, ⟨iy, rfl, rfl⟩, hs1⟩ := SR_cons hst
  obtain ⟨_, st2, rfl, ⟨ix, rfl, rfl⟩, hs⟩ := SR_cons hs1
  exact W.lcmp C.1 C.2.1 hd (k p e s m args below meth c ρs ρ c0 w0 H lc _ locs cells slots C hS hL ⟨⟨_, rfl, lg_cmp_int ix iy⟩, hs⟩ hR h1 h2 h3)
theorem a_dup {g : Gt} {d : Nat} {M : Mt} {K : Kt} {X : Xt} {pc : Nat} {ls stk : List Vl} {h : AH} {v : Vl} (hv : oneW v = true) (hd : decode M.2.1 pc = .ok (.dup, 1)) (k : SW g d M K X (pc + 1) ls (v :: v :: stk) h) : SW g d M K X pc ls (v :: stk) h := by
  intro p e s m args below meth c ρs ρ c0 w0 H lc st locs cells slots C hS hL hst hR h1 h2 h3
  obtain ⟨x, st1, rfl, hx, hs⟩ := SR_cons hst
  exact lv_dup C.1 C.2.1 hd (VR_one hx hv) (k p e s m args below meth c ρs ρ c0 w0 H lc _ locs cells slots C hS hL ⟨hx, hx, hs⟩ hR h1 h2 h3)
theorem a_pop {g : Gt} {d : Nat} {M : Mt} {K : Kt} {X : Xt} {pc : Nat} {ls stk : List Vl} {h : AH} {v : Vl} (hv : oneW v = true) (hd : decode M.2.1 pc = .ok (.pop, 1)) (k : SW g d M K X (pc + 1) ls stk h) : SW g d M K X pc ls (v :: stk) h := by
  intro p e s m args below meth c ρs ρ c0 w0 H lc st locs cells slots C hS hL hst hR h1 h2 h3
  obtain ⟨x, st1, rfl, hx, hs⟩ := SR_cons hst
  exact lv_pop C.1 C.2.1 hd (VR_one hx hv) (k p e s m args below meth c ρs ρ c0 w0 H lc _ locs cells slots C hS hL hs hR h1 h2 h3)
theorem a_dup_x1 {g : Gt} {d : Nat} {M : Mt} {K : Kt} {X : Xt} {pc : Nat} {ls stk : List Vl} {h : AH} {v u : Vl} (hv : oneW v = true) (hu : oneW u = true) (hd : decode M.2.1 pc = .ok (.dup_x1, 1)) (k : SW g d M K X (pc + 1) ls (v :: u :: v :: stk) h) : SW g d M K X pc ls (v :: u :: stk) h := by
  intro p e s m args below meth c ρs ρ c0 w0 H lc st locs cells slots C hS hL hst hR h1 h2 h3
  obtain ⟨x, st1, rfl, hx, hs1⟩ := SR_cons hst
  obtain ⟨y, st2, rfl, hy, hs⟩ := SR_cons hs1
  exact lv_dup_x1 C.1 C.2.1 hd (VR_one hx hv) (VR_one hy hu) (k p e s m args below meth c ρs ρ c0 w0 H lc _ locs cells slots C hS hL ⟨hx, hy, hx, hs⟩ hR h1 h2 h3)
theorem a_dup2 {g : Gt} {d : Nat} {M : Mt} {K : Kt} {X : Xt} {pc : Nat} {ls stk : List Vl} {h : AH} {v u : Vl} (hv : oneW v = true) (hu : oneW u = true) (hd : decode M.2.1 pc = .ok (.dup2, 1)) (k : SW g d M K X (pc + 1) ls (v :: u :: v :: u :: stk) h) : SW g d M K X pc ls (v :: u :: stk) h := by
  intro p e s m args below meth c ρs ρ c0 w0 H lc st locs cells slots C hS hL hst hR h1 h2 h3
  obtain ⟨x, st1, rfl, hx, hs1⟩ := SR_cons hst
  obtain ⟨y, st2, rfl, hy, hs⟩ := SR_cons hs1
  exact lv_dup2_11 C.1 C.2.1 hd (VR_one hx hv) (VR_one hy hu) (k p e s m args below meth c ρs ρ c0 w0 H lc _ locs cells slots C hS hL ⟨hx, hy, hx, hy, hs⟩ hR h1 h2 h3)
theorem a_if_eq {g : Gt} {d : Nat} {M : Mt} {K : Kt} {X : Xt} {pc : Nat} {ls stk : List Vl} {h : AH} {x off : Int} {tgt : Nat} (hd : decode M.2.1 pc = .ok (.ifCond .eq off, 3)) (ht : (pc : Int) + off = (tgt : Int)) (kt : x = 0 → SW g d M K X tgt ls stk h) (kf : ¬ (x = 0) → SW g d M K X (pc + 3) ls stk h) : SW g d M K X pc ls (vI x :: stk) h := by
  intro p e s m args below meth c ρs ρ c0 w0 H lc st locs cells slots C hS hL hst hR h1 h2 h3
  obtain ⟨_, st1, rfl, ⟨ix, rfl, rfl⟩, hs⟩ := SR_cons hst
  have ez : (0 : Int32).toInt = 0 := rfl
  refine lv_if_eq C.1 C.2.1 hd ht (fun q => kt ?_ p e s m args below meth c ρs ρ c0 w0 H lc _ locs cells slots C hS hL hs hR h1 h2 h3) (fun q => kf ?_ p e s m args below meth c ρs ρ c0 w0 H lc _ locs cells slots C hS hL hs hR h1 h2 h3)
  all_goals (simp only [← Int32.toInt_inj, Int32.lt_iff_toInt_lt, Int32.le_iff_toInt_le, ez] at q; omega)
theorem a_icmp_eq {g : Gt} {d : Nat} {M : Mt} {K : Kt} {X : Xt} {pc : Nat} {ls stk : List Vl} {h : AH} {x y off : Int} {tgt : Nat} (hd : decode M.2.1 pc = .ok (.if_icmp .eq off, 3)) (ht : (pc : Int) + off = (tgt : Int)) (kt : x = y → SW g d M K X tgt ls stk h) (kf : ¬ (x = y) → SW g d M K X (pc + 3) ls stk h) : SW g d M K X pc ls (vI y :: vI x :: stk) h := by
  intro p e s m args below meth c ρs ρ c0 w0 H lc st locs cells slots C hS hL hst hR h1 h2 h3
  obtain ⟨_, st1, rfl, ⟨iy, rfl, rfl⟩, hs1⟩ := SR_cons hst
  obtain ⟨_, st2, rfl, ⟨ix, rfl, rfl⟩, hs⟩ := SR_cons hs1
  refine lv_icmp_eq C.1 C.2.1 hd ht (fun q => kt ?_ p e s m args below meth c ρs ρ c0 w0 H lc _ locs cells slots C hS hL hs hR h1 h2 h3) (fun q => kf ?_ p e s m args below meth c ρs ρ c0 w0 H lc _ locs cells slots C hS hL hs hR h1 h2 h3)
  all_goals (simp only [← Int32.toInt_inj, Int32.lt_iff_toInt_lt, Int32.le_iff_toInt_le] at q; omega)
theorem a_if_ne {g : Gt} {d : Nat} {M : Mt} {K : Kt} {X : Xt} {pc : Nat} {ls stk : List Vl} {h : AH} {x off : Int} {tgt : Nat} (hd : decode M.2.1 pc = .ok (.ifCond .ne off, 3)) (ht : (pc : Int) + off = (tgt : Int)) (kt : ¬ x = 0 → SW g d M K X tgt ls stk h) (kf : ¬ (¬ x = 0) → SW g d M K X (pc + 3) ls stk h) : SW g d M K X pc ls (vI x :: stk) h := by
  intro p e s m args below meth c ρs ρ c0 w0 H lc st locs cells slots C hS hL hst hR h1 h2 h3
  obtain ⟨_, st1, rfl, ⟨ix, rfl, rfl⟩, hs⟩ := SR_cons hst
  have ez : (0 : Int32).toInt = 0 := rfl
  refine lv_if_ne C.1 C.2.1 hd ht (fun q => kt ?_ p e s m args below meth c ρs ρ c0 w0 H lc _ locs cells slots C hS hL hs hR h1 h2 h3) (fun q => kf ?_ p e s m args below meth c ρs ρ c0 w0 H lc _ locs cells slots C hS hL hs hR h1 h2 h3)
  all_goals (simp only [← Int32.toInt_inj, Int32.lt_iff_toInt_lt, Int32.le_iff_toInt_le, ez] at q; omega)
theorem a_icmp_ne {g : Gt} {d : Nat} {M : Mt} {K : Kt} {X : Xt} {pc : Nat} {ls stk : List Vl} {h : AH} {x y off : Int} {tgt : Nat} (hd : decode M.2.1 pc = .ok (.if_icmp .ne off, 3)) (ht : (pc : Int) + off = (tgt : Int)) (kt : ¬ x = y → SW g d M K X tgt ls stk h) (kf : ¬ (¬ x = y) → SW g d M K X (pc + 3) ls stk h) : SW g d M K X pc ls (vI y :: vI x :: stk) h := by
  intro p e s m args below meth c ρs ρ c0 w0 H lc st locs cells slots C hS hL hst hR h1 h2 h3
  obtain ⟨_, st1, rfl, ⟨iy, rfl, rfl⟩, hs1⟩ := SR_cons hst
  obtain ⟨_, st2, rfl, ⟨ix, rfl, rfl⟩, hs⟩ := SR_cons hs1
  refine lv_icmp_ne C.1 C.2.1 hd ht (fun q => kt ?_ p e s m args below meth c ρs ρ c0 w0 H lc _ locs cells slots C hS hL hs hR h1 h2 h3) (fun q => kf ?_ p e s m args below meth c ρs ρ c0 w0 H lc _ locs cells slots C hS hL hs hR h1 h2 h3)
  all_goals (simp only [← Int32.toInt_inj, Int32.lt_iff_toInt_lt, Int32.le_iff_toInt_le] at q; omega)
theorem a_if_lt {g : Gt} {d : Nat} {M : Mt} {K : Kt} {X : Xt} {pc : Nat} {ls stk : List Vl} {h : AH} {x off : Int} {tgt : Nat} (hd : decode M.2.1 pc = .ok (.ifCond .lt off, 3)) (ht : (pc : Int) + off = (tgt : Int)) (kt : x < 0 → SW g d M K X tgt ls stk h) (kf : ¬ (x < 0) → SW g d M K X (pc + 3) ls stk h) : SW g d M K X pc ls (vI x :: stk) h := by
  intro p e s m args below meth c ρs ρ c0 w0 H lc st locs cells slots C hS hL hst hR h1 h2 h3
  obtain ⟨_, st1, rfl, ⟨ix, rfl, rfl⟩, hs⟩ := SR_cons hst
  have ez : (0 : Int32).toInt = 0 := rfl
  refine lv_if_lt C.1 C.2.1 hd ht (fun q => kt ?_ p e s m args below meth c ρs ρ c0 w0 H lc _ locs cells slots C hS hL hs hR h1 h2 h3) (fun q => kf ?_ p e s m args below meth c ρs ρ c0 w0 H lc _ locs cells slots C hS hL hs hR h1 h2 h3)
  all_goals (simp only [← Int32.toInt_inj, Int32.lt_iff_toInt_lt, Int32.le_iff_toInt_le, ez] at q; omega)
theorem a_icmp_lt {g : Gt} {d : Nat} {M : Mt} {K : Kt} {X : Xt} {pc : Nat} {ls stk : List Vl} {h : AH} {x y off : Int} {tgt : Nat} (hd : decode M.2.1 pc = .ok (.if_icmp .lt off, 3)) (ht : (pc : Int) + off = (tgt : Int)) (kt : x < y → SW g d M K X tgt ls stk h) (kf : ¬ (x < y) → SW g d M K X (pc + 3) ls stk h) : SW g d M K X pc ls (vI y :: vI x :: stk) h := by
  intro p e s m args below meth c ρs ρ c0 w0 H lc st locs cells slots C hS hL hst hR h1 h2 h3
  obtain ⟨_, st1, rfl, ⟨iy, rfl, rfl⟩, hs1⟩ := SR_cons hst
  obtain ⟨_, st2, rfl, ⟨ix, rfl, rfl⟩, hs⟩ := SR_cons hs1
  refine lv_icmp_lt C.1 C.2.1 hd ht (fun q => kt ?_ p e s m args below meth c ρs ρ c0 w0 H lc _ locs cells slots C hS hL hs hR h1 h2 h3) (fun q => kf ?_ p e s m args below meth c ρs ρ c0 w0 H lc _ locs cells slots C hS hL hs hR h1 h2 h3)
  all_goals (simp only [← Int32.toInt_inj, Int32.lt_iff_toInt_lt, Int32.le_iff_toInt_le] at q; omega)
theorem a_if_ge {g : Gt} {d : Nat} {M : Mt} {K : Kt} {X : Xt} {pc : Nat} {ls stk : List Vl} {h : AH} {x off : Int} {tgt : Nat} (hd : decode M.2.1 pc = .ok (.ifCond .ge off, 3)) (ht : (pc : Int) + off = (tgt : Int)) (kt : 0 ≤ x → SW g d M K X tgt ls stk h) (kf : ¬ (0 ≤ x) → SW g d M K X (pc + 3) ls stk h) : SW g d M K X pc ls (vI x :: stk) h := by
  intro p e s m args below meth c ρs ρ c0 w0 H lc st locs cells slots C hS hL hst hR h1 h2 h3
  obtain ⟨_, st1, rfl, ⟨ix, rfl, rfl⟩, hs⟩ := SR_cons hst
  have ez : (0 : Int32).toInt = 0 := rfl
  refine lv_if_ge C.1 C.2.1 hd ht (fun q => kt ?_ p e s m args below meth c ρs ρ c0 w0 H lc _ locs cells slots C hS hL hs hR h1 h2 h3) (fun q => kf ?_ p e s m args below meth c ρs ρ c0 w0 H lc _ locs cells slots C hS hL hs hR h1 h2 h3)
  all_goals (simp only [← Int32.toInt_inj, Int32.lt_iff_toInt_lt, Int32.le_iff_toInt_le, ez] at q; omega)
theorem a_icmp_ge {g : Gt} {d : Nat} {M : Mt} {K : Kt} {X : Xt} {pc : Nat} {ls stk : List Vl} {h : AH} {x y off : Int} {tgt : Nat} (hd : decode M.2.1 pc = .ok (.if_icmp .ge off, 3)) (ht : (pc : Int) + off = (tgt : Int)) (kt : y ≤ x → SW g d M K X tgt ls stk h) (kf : ¬ (y ≤ x) → SW g d M K X (pc + 3) ls stk h) : SW g d M K X pc ls (vI y :: vI x :: stk) h := by
  intro p e s m args below meth c ρs ρ c0 w0 H lc st locs cells slots C hS hL hst hR h1 h2 h3
  obtain ⟨_, st1, rfl, ⟨iy, rfl, rfl⟩, hs1⟩ := SR_cons hst
  obtain ⟨_, st2, rfl, ⟨ix, rfl, rfl⟩, hs⟩ := SR_cons hs1
  refine lv_icmp_ge C.1 C.2.1 hd ht (fun q => kt ?_ p e s m args below meth c ρs ρ c0 w0 H lc _ locs cells slots C hS hL hs hR h1 h2 h3) (fun q => kf ?_ p e s m args below meth c ρs ρ c0 w0 H lc _ locs cells slots C hS hL hs hR h1 h2 h3)
  all_goals (simp only [← Int32.toInt_inj, Int32.lt_iff_toInt_lt, Int32.le_iff_toInt_le] at q; omega)
theorem a_if_gt {g : Gt} {d : Nat} {M : Mt} {K : Kt} {X : Xt} {pc : Nat} {ls stk : List Vl} {h : AH} {x off : Int} {tgt : Nat} (hd : decode M.2.1 pc = .ok (.ifCond .gt off, 3)) (ht : (pc : Int) + off = (tgt : Int)) (kt : 0 < x → SW g d M K X tgt ls stk h) (kf : ¬ (0 < x) → SW g d M K X (pc + 3) ls stk h) : SW g d M K X pc ls (vI x :: stk) h := by
  intro p e s m args below meth c ρs ρ c0 w0 H lc st locs cells slots C hS hL hst hR h1 h2 h3
  obtain ⟨_, st1, rfl, ⟨ix, rfl, rfl⟩, hs⟩ := SR_cons hst
  have ez : (0 : Int32).toInt = 0 := rfl
  refine lv_if_gt C.1 C.2.1 hd ht (fun q => kt ?_ p e s m args below meth c ρs ρ c0 w0 H lc _ locs cells slots C hS hL hs hR h1 h2 h3) (fun q => kf ?_ p e s m args below meth c ρs ρ c0 w0 H lc _ locs cells slots C hS hL hs hR h1 h2 h3)
  all_goals (simp only [← Int32.toInt_inj, Int32.lt_iff_toInt_lt, Int32.le_iff_toInt_le, ez] at q; omega)
theorem a_icmp_gt {g : Gt} {d : Nat} {M : Mt} {K : Kt} {X : Xt} {pc : Nat} {ls stk : List Vl} {h : AH} {x y off : Int} {tgt : Nat} (hd : decode M.2.1 pc = .ok (.if_icmp .gt off, 3)) (ht : (pc : Int) + off = (tgt : Int)) (kt : y < x → SW g d M K X tgt ls stk h) (kf : ¬ (y < x) → SW g d M K X (pc + 3) ls stk h) : SW g d M K X pc ls (vI y :: vI x :: stk) h := by
  intro p e s m args below meth c ρs ρ c0 w0 H lc st locs cells slots C hS hL hst hR h1 h2 h3
  obtain ⟨_, st1, rfl, ⟨iy, rfl, rfl⟩, hs1⟩ := SR_cons hst
  obtain ⟨_, st2, rfl, ⟨ix, rfl, rfl⟩, hs⟩ := SR_cons hs1
  refine lv_icmp_gt C.1 C.2.1 hd ht (fun q => kt ?_ p e s m args below meth c ρs ρ c0 w0 H lc _ locs cells slots C hS hL hs hR h1 h2 h3) (fun q => kf ?_ p e s m args below meth c ρs ρ c0 w0 H lc _ locs cells slots C hS hL hs hR h1 h2 h3)
  all_goals (simp only [← Int32.toInt_inj, Int32.lt_iff_toInt_lt, Int32.le_iff_toInt_le] at q; omega)
theorem a_if_le {g : Gt} {d : Nat} {M : Mt} {K : Kt} {X : Xt} {pc : Nat} {ls stk : List Vl} {h : AH} {x off : Int} {tgt : Nat} (hd : decode M.2.1 pc = .ok (.ifCond .le off, 3)) (ht : (pc : Int) + off = (tgt : Int)) (kt : x ≤ 0 → SW g d M K X tgt ls stk h) (kf : ¬ (x ≤ 0) → SW g d M K X (pc + 3) ls stk h) : SW g d M K X pc ls (vI x :: stk) h := by
  intro p e s m args below meth c ρs ρ c0 w0 H lc st locs cells slots C hS hL hst hR h1 h2 h3
  obtain ⟨_, st1, rfl, ⟨ix, rfl, rfl⟩, hs⟩ := SR_cons hst
  have ez : (0 : Int32).toInt = 0 := rfl
  refine lv_if_le C.1 C.2.1 hd ht (fun q => kt ?_ p e s m args below meth c ρs ρ c0 w0 H lc _ locs cells slots C hS hL hs hR h1 h2 h3) (fun q => kf ?_ p e s m args below meth c ρs ρ c0 w0 H lc _ locs cells slots C hS hL hs hR h1 h2 h3)
  all_goals (simp only [← Int32.toInt_inj, Int32.lt_iff_toInt_lt, Int32.le_iff_toInt_le, ez] at q; omega)
theorem a_icmp_le {g : Gt} {d : Nat} {M : Mt} {K : Kt} {X : Xt} {pc : Nat} {ls stk : List Vl} {h : AH} {x y off : Int} {tgt : Nat} (hd : decode M.2.1 pc = .ok (.if_icmp .le off, 3)) (ht : (pc : Int) + off = (tgt : Int)) (kt : x ≤ y → SW g d M K X tgt ls stk h) (kf : ¬ (x ≤ y) → SW g d M K X (pc + 3) ls stk h) : SW g d M K X pc ls (vI y :: vI x :: stk) h := by
  intro p e s m args below meth c ρs ρ c0 w0 H lc st locs cells slots C hS hL hst hR h1 h2 h3
  obtain ⟨_, st1, rfl, ⟨iy, rfl, rfl⟩, hs1⟩ := SR_cons hst
  obtain ⟨_, st2, rfl, ⟨ix, rfl, rfl⟩, hs⟩ := SR_cons hs1
  refine lv_icmp_le C.1 C.2.1 hd ht (fun q => kt ?_ p e s m args below meth c ρs ρ c0 w0 H lc _ locs cells slots C hS hL hs hR h1 h2 h3) (fun q => kf ?_ p e s m args below meth c ρs ρ c0 w0 H lc _ locs cells slots C hS hL hs hR h1 h2 h3)
  all_goals (simp only [← Int32.toInt_inj, Int32.lt_iff_toInt_lt, Int32.le_iff_toInt_le] at q; omega)
theorem a_goto {g : Gt} {d : Nat} {M : Mt} {K : Kt} {X : Xt} {pc : Nat} {ls stk : List Vl} {h : AH} {off : Int} {tgt : Nat} (hd : decode M.2.1 pc = .ok (.goto off, 3)) (ht : (pc : Int) + off = (tgt : Int)) (k : SW g d M K X tgt ls stk h) : SW g d M K X pc ls stk h := by
  intro p e s m args below meth c ρs ρ c0 w0 H lc st locs cells slots C hS hL hst hR h1 h2 h3
  exact lv_goto C.1 C.2.1 hd ht (k p e s m args below meth c ρs ρ c0 w0 H lc _ locs cells slots C hS hL hst hR h1 h2 h3)
theorem a_ifnull {g : Gt} {d : Nat} {M : Mt} {K : Kt} {X : Xt} {pc : Nat} {ls stk : List Vl} {h : AH} {z : Option Nm} {off : Int} {tgt : Nat} (hd : decode M.2.1 pc = .ok (.ifnull off, 3)) (ht : (pc : Int) + off = (tgt : Int)) (kt : z = none → SW g d M K X tgt ls stk h) (kf : ¬ z = none → SW g d M K X (pc + 3) ls stk h) : SW g d M K X pc ls (vR z :: stk) h := by
  intro p e s m args below meth c ρs ρ c0 w0 H lc st locs cells slots C hS hL hst hR h1 h2 h3
  obtain ⟨x, st1, rfl, hx, hs⟩ := SR_cons hst
  cases z with
  | none =>
    cases VR_n hx
    exact lv_ifnullN C.1 C.2.1 hd ht (kt rfl p e s m args below meth c ρs ρ c0 w0 H lc _ locs cells slots C hS hL hs hR h1 h2 h3)
  | some n =>
    obtain ⟨a, ha, rfl⟩ := VR_r hx
    exact lv_ifnull C.1 C.2.1 hd (kf (fun q => nomatch q) p e s m args below meth c ρs ρ c0 w0 H lc _ locs cells slots C hS hL hs hR h1 h2 h3)
theorem a_ifnonnull {g : Gt} {d : Nat} {M : Mt} {K : Kt} {X : Xt} {pc : Nat} {ls stk : List Vl} {h : AH} {z : Option Nm} {off : Int} {tgt : Nat} (hd : decode M.2.1 pc = .ok (.ifnonnull off, 3)) (ht : (pc : Int) + off = (tgt : Int)) (kt : ¬ z = none → SW g d M K X tgt ls stk h) (kf : z = none → SW g d M K X (pc + 3) ls stk h) : SW g d M K X pc ls (vR z :: stk) h := by
  intro p e s m args below meth c ρs ρ c0 w0 H lc st locs cells slots C hS hL hst hR h1 h2 h3
  obtain ⟨x, st1, rfl, hx, hs⟩ := SR_cons hst
  cases z with
  | none =>
    cases VR_n hx
    exact lv_ifnonnullN C.1 C.2.1 hd (kf rfl p e s m args below meth c ρs ρ c0 w0 H lc _ locs cells slots C hS hL hs hR h1 h2 h3)
  | some n =>
    obtain ⟨a, ha, rfl⟩ := VR_r hx
    exact lv_ifnonnull C.1 C.2.1 hd ht (kt (fun q => nomatch q) p e s m args below meth c ρs ρ c0 w0 H lc _ locs cells slots C hS hL hs hR h1 h2 h3)
theorem VR_rf {ρ : Nm → Option Nat} {z : Option Nm} {x : Value} (h : VR ρ (vR z) x) : ∃ q : Option Nat, x = va_rf q ∧ (z = none ↔ q = none) ∧ ∀ n a, z = some n → q = some a → ρ n = some a := by
  cases z with
  | none => exact ⟨none, VR_n h, by simp, fun n a e => nomatch e⟩
  | some n =>
    obtain ⟨a, ha, rfl⟩ := VR_r h
    exact ⟨some a, rfl, by simp, fun n' a' e e' => by cases e; cases e'; exact ha⟩
theorem a_acmp_eq {g : Gt} {d : Nat} {M : Mt} {K : Kt} {X : Xt} {pc : Nat} {ls stk : List Vl} {h : AH} {zx zy : Option Nm} {off : Int} {tgt : Nat} (hd : decode M.2.1 pc = .ok (.if_acmp .eq off, 3)) (ht : (pc : Int) + off = (tgt : Int)) (hq9 : zx = zy ∨ (zx ≠ some nM ∧ zy ≠ some nM)) (kt : zx = zy → SW g d M K X tgt ls stk h) (kf : ¬ (zx = zy) → SW g d M K X (pc + 3) ls stk h) : SW g d M K X pc ls (vR zy :: vR zx :: stk) h := by
  intro p e s m args below meth c ρs ρ c0 w0 H lc st locs cells slots C hS hL hst hR h1 h2 h3
  obtain ⟨_, st1, rfl, hy, hs1⟩ := SR_cons hst
  obtain ⟨_, st2, rfl, hx, hs⟩ := SR_cons hs1
  obtain ⟨qy, rfl, y1, y2⟩ := VR_rf hy
  obtain ⟨qx, rfl, x1, x2⟩ := VR_rf hx
  have key : zx = zy ↔ qx = qy := by
    cases zx with
    | none => cases x1.mp rfl; exact ⟨fun q => (y1.mp q.symm).symm, fun q => (y1.mpr q.symm).symm⟩
    | some n =>
      cases qx with
      | none => exact absurd (x1.mpr rfl) (fun q => nomatch q)
      | some a =>
        have hn := x2 n a rfl rfl
        cases zy with
        | none => cases y1.mp rfl; exact ⟨(fun q => nomatch q), (fun q => nomatch q)⟩
        | some n' =>
          cases qy with
          | none => exact absurd (y1.mpr rfl) (fun q => nomatch q)
          | some a' =>
            have hn' := y2 n' a' rfl rfl
            constructor
            · intro q; cases q; rw [hn] at hn'; exact hn'
            · intro q; cases q
              rcases hq9 with q9 | ⟨q9, q8⟩
              · exact q9
              · rw [hR.2.2.2.1 n n' a (fun y => q9 (by rw [y])) (fun y => q8 (by rw [y])) hn hn']
  exact lv_acmp_eq C.1 C.2.1 hd ht (fun q => kt (by first | exact key.mpr q | exact fun z => q (key.mp z)) p e s m args below meth c ρs ρ c0 w0 H lc _ locs cells slots C hS hL hs hR h1 h2 h3) (fun q => kf (by first | exact fun z => q (key.mp z) | exact fun z => z (key.mpr q)) p e s m args below meth c ρs ρ c0 w0 H lc _ locs cells slots C hS hL hs hR h1 h2 h3)
theorem a_acmp_ne {g : Gt} {d : Nat} {M : Mt} {K : Kt} {X : Xt} {pc : Nat} {ls stk : List Vl} {h : AH} {zx zy : Option Nm} {off : Int} {tgt : Nat} (hd : decode M.2.1 pc = .ok (.if_acmp .ne off, 3)) (ht : (pc : Int) + off = (tgt : Int)) (hq9 : zx = zy ∨ (zx ≠ some nM ∧ zy ≠ some nM)) (kt : ¬ zx = zy → SW g d M K X tgt ls stk h) (kf : ¬ (¬ zx = zy) → SW g d M K X (pc + 3) ls stk h) : SW g d M K X pc ls (vR zy :: vR zx :: stk) h := by
  intro p e s m args below meth c ρs ρ c0 w0 H lc st locs cells slots C hS hL hst hR h1 h2 h3
  obtain ⟨_, st1, rfl, hy, hs1⟩ := SR_cons hst
  obtain ⟨_, st2, rfl, hx, hs⟩ := SR_cons hs1
  obtain ⟨qy, rfl, y1, y2⟩ := VR_rf hy
  obtain ⟨qx, rfl, x1, x2⟩ := VR_rf hx
  have key : zx = zy ↔ qx = qy := by
    cases zx with
    | none => cases x1.mp rfl; exact ⟨fun q => (y1.mp q.symm).symm, fun q => (y1.mpr q.symm).symm⟩
    | some n =>
      cases qx with
      | none => exact absurd (x1.mpr rfl) (fun q => nomatch q)
      | some a =>
        have hn := x2 n a rfl rfl
        cases zy with
        | none => cases y1.mp rfl; exact ⟨(fun q => nomatch q), (fun q => nomatch q)⟩
        | some n' =>
          cases qy with
          | none => exact absurd (y1.mpr rfl) (fun q => nomatch q)
          | some a' =>
            have hn' := y2 n' a' rfl rfl
            constructor
            · intro q; cases q; rw [hn] at hn'; exact hn'
            · intro q; cases q
              rcases hq9 with q9 | ⟨q9, q8⟩
              · exact q9
              · rw [hR.2.2.2.1 n n' a (fun y => q9 (by rw [y])) (fun y => q8 (by rw [y])) hn hn']
  exact lv_acmp_ne C.1 C.2.1 hd ht (fun q => kt (by first | exact key.mpr q | exact fun z => q (key.mp z)) p e s m args below meth c ρs ρ c0 w0 H lc _ locs cells slots C hS hL hs hR h1 h2 h3) (fun q => kf (by first | exact fun z => q (key.mp z) | exact fun z => z (key.mpr q)) p e s m args below meth c ρs ρ c0 w0 H lc _ locs cells slots C hS hL hs hR h1 h2 h3)
