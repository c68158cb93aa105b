/-! ===== rows of rows: multianewarray ===== -/
theorem ao_moved {t : FieldType} {A B : Array Value} {u U : State} (hvm : u.vm.Alike U.vm) (h : (Cond.arrayOver (.array t)).before A u = true) : (Cond.arrayOver (.array t)).before B U = true := by
  obtain ⟨comp, c, k, h1, h2, h3, h4, h5⟩ := Jvm.Stand.arrayOver_specB h
  obtain ⟨k', hk', he⟩ := hvm.2.2 _ _ h3
  have hi : (U.vm.classes.findIdx? fun (x : Class) => match x.kind with | .array component _ => component == comp | _ => false) = some c := by
    refine (va_idx_bare U.vm comp).symm.trans ?_
    first | rw [hvm.bare_eq] | rw [← hvm.bare_eq]
    exact (va_idx_bare u.vm comp).trans h2
  have hkind : k'.kind = .array comp (.array t) := by rw [he]; exact h4
  have f1 : U.vm.findClass (FieldType.array t).toString = some comp := by rw [hvm.findClass]; exact h1
  have f2 : U.vm.findClass ("[" ++ (FieldType.array t).toString) = some c := by rw [hvm.findClass]; exact h5
  unfold Cond.before Cond.holds
  simp only [Cond.value]
  rw [f1, Option.bind_some]
  refine (congrArg (fun o : Option Nat => (o.bind (fun c => (U.vm.classes[c]?).map fun (k : Class) => match k.kind with | .array _ ty => decide (ty = FieldType.array t) && decide (U.vm.findClass ("[" ++ (FieldType.array t).toString) = some c) | _ => false) == some true)) hi).trans ?_
  simp [hk', hkind, f2]
/-- the outer array stands; its first rows made and put -/
def mr (h : AH) (q : Nm) (k : Int) (r : Nat → Nm) : Nat → AH
  | 0 => h
  | i + 1 => setR (newH (mr h q k r i) (r i) 1 k k.toNat) q i (some (r i))
theorem mr_ty {h : AH} {q : Nm} {k : Int} {r : Nat → Nm} {m : Nm} : ∀ i : Nat, (∀ j, j < i → m ≠ r j) → hT (mr h q k r i) m = hT h m
  | 0, _ => rfl
  | i + 1, hj => by
    show upN (hT (mr h q k r i)) (r i) 1 m = _
    rw [upN_ne _ _ (hj i (Nat.lt_succ_self i))]
    exact mr_ty i (fun j h' => hj j (Nat.lt_succ_of_lt h'))
theorem mr_ln {h : AH} {q : Nm} {k : Int} {r : Nat → Nm} {m : Nm} : ∀ i : Nat, (∀ j, j < i → m ≠ r j) → hN (mr h q k r i) m = hN h m
  | 0, _ => rfl
  | i + 1, hj => by
    show upN (hN (mr h q k r i)) (r i) k m = _
    rw [upN_ne _ _ (hj i (Nat.lt_succ_self i))]
    exact mr_ln i (fun j h' => hj j (Nat.lt_succ_of_lt h'))
theorem mr_c {h : AH} {q : Nm} {k : Int} {r : Nat → Nm} : ∀ i : Nat, hc (mr h q k r i) = hc h - i
  | 0 => rfl
  | i + 1 => by
    show hc (mr h q k r i) - 1 = _
    rw [mr_c i]
    omega
theorem mr_w {h : AH} {q : Nm} {k : Int} {r : Nat → Nm} : ∀ i : Nat, hw (mr h q k r i) = hw h - i * k.toNat
  | 0 => by simp [mr]
  | i + 1 => by
    show hw (mr h q k r i) - k.toNat = _
    rw [mr_w i, Nat.add_mul, Nat.one_mul]
    omega
theorem Rep.rows {g : Gt} {ρ : Nm → Option Nat} {h : AH} (T : State) {cI : Int} (hRp : Rep g ρ h T.heap) {q : Nm} {r : Nat → Nm} {N K : Nat} (hq : hT h q = 0) (hwq : wr q = true) (hr : ∀ i, i < N → hT h (r i) = 0 ∧ r i ≠ q) (hj : ∀ i j, i < N → j < N → r i = r j → i = j) (hN1 : N < 2 ^ 31) (hK : K < 2 ^ 31) (hcI : cI = (K : Int)) :
    ∀ i : Nat, i ≤ N → ∃ ρ', Sb ρ ρ' ∧ ρ' q = some T.heap.size ∧ Rep g ρ' (mr (newH h q 5 (N : Int) N) q cI r i) (Jvm.Free.Multi.fill T (gC g 5) (gC g 1) N K (.int 0) i).heap
  | 0, _ => by
    obtain ⟨a1, a2⟩ := hRp.new (c' := hc h - 1) (w' := hw h - N) (n := q) hq (t := 5) (by decide) (z := (N : Int)) (cell := { cls := gC g 5, slots := Array.replicate N .null, vm := .none }) (Cel_new (by decide) hN1 Array.getElem?_push_size (by rw [elv_r (by decide)]; rfl))
    exact ⟨_, a1, upN_self _ _ _, a2⟩
  | i + 1, hi => by
    obtain ⟨ρ1, s1, e1, R1⟩ := Rep.rows T hRp hq hwq hr hj hN1 hK hcI i (by omega)
    have hne : ∀ j, j < i → r i ≠ r j := fun j hji e => by have := hj i j (by omega) (by omega) e; omega
    have hf : hT (mr (newH h q 5 (N : Int) N) q cI r i) (r i) = 0 := by
      rw [mr_ty i hne]
      show upN (hT h) q 5 (r i) = 0
      rw [upN_ne _ _ (hr i (by omega)).2]
      exact (hr i (by omega)).1
    obtain ⟨f1, f2, -, -⟩ := Jvm.Free.Multi.fill_facts T (gC g 5) (gC g 1) N K (.int 0) i
    obtain ⟨s2, R2⟩ := R1.new (c' := hc (mr (newH h q 5 (N : Int) N) q cI r i) - 1) (w' := hw (mr (newH h q 5 (N : Int) N) q cI r i) - cI.toNat) (n := r i) hf (t := 1) (by decide) (z := cI) (cell := { cls := gC g 1, slots := Array.replicate K (.int 0), vm := .none }) (by rw [hcI]; exact Cel_new (by decide) hK Array.getElem?_push_size ⟨0, rfl, rfl⟩)
    have e2 := s2 _ _ e1
    have hqi : ∀ j, j < i → q ≠ r j := fun j hji => Ne.symm (hr j (by omega)).2
    have tq : hT (mr (newH h q 5 (N : Int) N) q cI r i) q = 5 := by
      rw [mr_ty i hqi]
      exact upN_self _ _ _
    have tq' : upN (hT (mr (newH h q 5 (N : Int) N) q cI r i)) (r i) 1 q = 5 := by rw [upN_ne _ _ (Ne.symm (hr i (by omega)).2)]; exact tq
    obtain ⟨N9, f9, g1, g2, g3, g4⟩ := R2.arr e2 tq' (by decide)
    have lq : hN (mr (newH h q 5 (N : Int) N) q cI r i) q = (N : Int) := by
      rw [mr_ln i hqi]
      exact upN_self _ _ _
    have lq' : upN (hN (mr (newH h q 5 (N : Int) N) q cI r i)) (r i) cI q = (N : Int) := by rw [upN_ne _ _ (Ne.symm (hr i (by omega)).2)]; exact lq
    have hlt : T.heap.size < (Jvm.Free.Multi.fill T (gC g 5) (gC g 1) N K (.int 0) i).heap.size := by rw [f1]; omega
    have hpush : ((Jvm.Free.Multi.fill T (gC g 5) (gC g 1) N K (.int 0) i).pushCell (Jvm.Free.Multi.innerC (gC g 1) K (.int 0))).heap[T.heap.size]? = some (Jvm.Free.Multi.outerC (gC g 5) N T.heap.size i) := by
      rw [State.heap_pushCell_of_lt (h := hlt)]
      exact f2
    have hsame : (Jvm.Free.Multi.outerC (gC g 5) N T.heap.size i) = arrV (gC g 5) N9 f9 := Option.some.inj (hpush.symm.trans g3)
    have R3 := R2.put (H' := (Jvm.Free.Multi.fill T (gC g 5) (gC g 1) N K (.int 0) (i + 1)).heap) (In := upN (hI (mr (newH h q 5 (N : Int) N) q cI r i)) (r i) (fun _ => 0) q) (Rn := upI (upN (hR (mr (newH h q 5 (N : Int) N) q cI r i)) (r i) (fun _ => none) q) i (some (r i))) e2 hwq (by simp [Jvm.Free.Multi.fill, State.setCell, State.pushCell]) (fun z hz => State.heap_setCell_other (Ne.symm hz)) (by
      show Cel g _ (upN (hT (mr (newH h q 5 (N : Int) N) q cI r i)) (r i) 1 q) (upN (hN (mr (newH h q 5 (N : Int) N) q cI r i)) (r i) cI q) _ _ _ _
      rw [tq']
      unfold Cel
      rw [if_pos (by decide)]
      refine CA.put g1 g2 g4 (x := .ref (T.heap.size + 1 + i)) (jn := i) ((State.heap_setCell_self hpush).trans ?_) ?_ ?_
      · show some ((Jvm.Free.Multi.outerC (gC g 5) N T.heap.size i).setSlot i (.ref (T.heap.size + 1 + i))) = _
        rw [hsame]
      · rw [elv_r (by decide), upI_self]
        exact ⟨_, by rw [upN_self], by rw [f1]⟩
      · intro j2 h2j
        exact elv_othR h2j)
    rw [upN_id] at R3
    exact ⟨_, s1.tr s2, e2, R3⟩
theorem mw1 : Cond.arrayOver (.array .int) ∈ lw_tbl := List.mem_of_getElem? (i := 110) (of_decide_eq_true (by decide +kernel))
theorem mw2 : Cond.arrayClass .int ∈ lw_tbl := List.mem_of_getElem? (i := 108) (of_decide_eq_true (by decide +kernel))
theorem a_mna {g : Gt} {d : Nat} {M : Mt} {K : Kt} {X : Xt} {pc : Nat} {ls stk : List Vl} {h : AH} (hG : Gd g) {idx : Nat} {q : Nm} {r : Nat → Nm} {n k : Int} (hd : decode M.2.1 pc = .ok (.multianewarray idx 2, 4)) (hk9 : Cond.classLink M.1.cls idx "[[I" ∈ lw_tbl) (n0 : 0 ≤ n) (hn : n ≤ 1000000) (k0 : 0 ≤ k) (hk : k ≤ 1000000) (hc1 : 1 + n.toNat ≤ hc h) (hw1 : n.toNat + n.toNat * k.toNat ≤ hw h) (hq : hT h q = 0) (hwq : wr q = true) (hr : ∀ i, i < n.toNat → hT h (r i) = 0 ∧ r i ≠ q) (hj : ∀ i j, i < n.toNat → j < n.toNat → r i = r j → i = j)
    (kk : SW g d M K X (pc + 4) ls (vR (some q) :: stk) (mr (newH h q 5 n n.toNat) q k r n.toNat)) : SW g d M K X pc ls (vI k :: vI n :: stk) h := by
  intro p e s m args below meth c ρs ρ c0 w0 H lc st locs cells slots C hS hL hst hRp h1 h2 h3
  obtain ⟨_, st1, rfl, ⟨ik, rfl, rfl⟩, hs1⟩ := SR_cons hst
  obtain ⟨_, st2, rfl, ⟨iy, rfl, rfl⟩, hs⟩ := SR_cons hs1
  obtain ⟨hex, hb, -, -, -, hown, hW, -⟩ := id C
  have en := clampI n0
  have ek := clampI k0
  have e8 : iy.toInt.toNat = iy.toNatClampNeg := by omega
  have e9 : ik.toInt.toNat = ik.toNatClampNeg := by omega
  rw [e8] at hc1 hw1 hr hj kk
  rw [e9] at hw1
  have es : "[" ++ (FieldType.array .int).toString = "[[I" := by decide +kernel
  intro T hT9 Xs
  obtain ⟨vm₁, cA, comp, -, fA, fC, -, -, X', step⟩ := Xs.multianewarray2F hex (ty := .int) hown (by rw [es]; exact hG.wd hW hk9 rfl) (ao_moved hW.alike (hG.2.1 _ mw1)) (hG.wd hW mw2 rfl) (g := F0 m pc lc (.int ik :: .int iy :: st2)) rfl (by rw [hb]; exact hd) rfl (fun z => inI (n := iy.toNatClampNeg + 1) n0 (by omega) (Or.inl z)) (fun z => inI (n := ik.toNatClampNeg + 1) k0 (by omega) (Or.inl z)) (by omega) (by show ik.toNatClampNeg * 4 ≤ _; omega) (by omega) rfl rfl (by show cells + (1 + iy.toNatClampNeg) ≤ c0; omega) (by show slots + (iy.toNatClampNeg + iy.toNatClampNeg * ik.toNatClampNeg) ≤ w0; omega)
  have hA5 : s.vm.findClass ("[" ++ (FieldType.array .int).toString) = some (gC g 5) := (arrK (hG.K hW) 5 (by decide) (by decide)).2
  have hA1 : s.vm.findClass ("[" ++ FieldType.int.toString) = some (gC g 1) := (arrK (hG.K hW) 1 (by decide) (by decide)).2
  have c5 : cA = gC g 5 := Option.some.inj (fA.symm.trans hA5)
  have c1 : comp = gC g 1 := Option.some.inj (fC.symm.trans hA1)
  subst c5 c1
  obtain ⟨ρ', s1, e1, R1⟩ := Rep.rows (T.setVm vm₁) (h := h) (ρ := ρ) (cI := ik.toInt) (K := ik.toNatClampNeg) (by show Rep g ρ h T.heap; rw [hT9]; exact hRp) hq hwq hr hj (by omega) (by omega) ek.symm iy.toNatClampNeg (Nat.le_refl _)
  rw [en] at R1
  have eT : (T.setVm vm₁).heap.size = H.size := by show T.heap.size = _; rw [hT9]
  rw [eT] at e1
  have eT' : T.heap.size = H.size := by rw [hT9]
  obtain ⟨t, a1, b1⟩ := kk p e s m args below meth c ρs ρ' c0 w0 _ lc (.ref H.size :: st2) locs (cells + 1 + iy.toNatClampNeg) (slots + iy.toNatClampNeg + iy.toNatClampNeg * ik.toNatClampNeg) C (hS.tr s1) (hL.up s1) ⟨⟨H.size, e1, rfl⟩, hs.up s1⟩ R1 (by
    rw [mr_c]
    show cells + 1 + iy.toNatClampNeg + (hc h - 1 - iy.toNatClampNeg) ≤ c0
    omega) (by
    rw [mr_w, e9]
    show slots + iy.toNatClampNeg + iy.toNatClampNeg * ik.toNatClampNeg + (hw h - iy.toNatClampNeg - iy.toNatClampNeg * ik.toNatClampNeg) ≤ w0
    omega) h3 _ rfl X'
  refine ⟨t, step t ?_, b1⟩
  rw [eT']
  exact a1
