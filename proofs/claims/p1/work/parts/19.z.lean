def newH (h : AH) (n : Nm) (t : Nat) (z : Int) (b : Nat) : AH := (upN (hT h) n t, upN (hN h) n z, upN (hI h) n (fun _ => 0), upN (hR h) n (fun _ => none), hc h - 1, hw h - b)
def setI (h : AH) (n : Nm) (j z : Int) : AH := (hT h, hN h, up2 (hI h) n j z, hR h, hc h, hw h)
def setR (h : AH) (n : Nm) (j : Int) (z : Option Nm) : AH := (hT h, hN h, hI h, up2 (hR h) n j z, hc h, hw h)
def onSe {α : Type} (z : Option α) (f : α → Prop) (b : Prop) : Prop := match z with
  | some a => f a
  | none => b
theorem onSe_mono {α : Type} {z : Option α} {f f' : α → Prop} {b b' : Prop} (h : ∀ a, f a → f' a) (hb : b → b') : onSe z f b → onSe z f' b' := by
  cases z with
  | none => exact hb
  | some a => exact h a
theorem onSe_e {α : Type} {z : Option α} {f : α → Prop} {b : Prop} (h : onSe z f b) : (∃ a, z = some a ∧ f a) ∨ b := by
  cases z with
  | none => exact Or.inr h
  | some a => exact Or.inl ⟨a, rfl, h⟩
/-- entries that name int[][] -/
def rY (o idx : Nat) : Bool := (o == 2 && idx == 18) || (o == 5 && idx == 21)
theorem rY_ok {o idx : Nat} (h : rY o idx = true) : Cond.classLink (oN o) idx "[[I" ∈ lw_tbl := by
  unfold rY at h
  simp only [Bool.or_eq_true, Bool.and_eq_true, beq_iff_eq] at h
  rcases h with ⟨rfl, rfl⟩ | ⟨rfl, rfl⟩
  · exact List.mem_of_getElem? (i := 109) (of_decide_eq_true (by decide +kernel))
  · exact List.mem_of_getElem? (i := 313) (of_decide_eq_true (by decide +kernel))
/-! ===== rows of rows: multianewarray ===== -/
theorem ao_moved {t : FieldType} {A B : Array Value} {u U : State} (hvm : u.vm.Alike U.vm) (h : (Cond.arrayOver (.array t)).before A u = true) : (Cond.arrayOver (.array t)).before B U = true := by
  obtain ⟨comp, c, k, h1, h2, h3, h4, h5⟩ := Jvm.Stand.arrayOver_specB h
  obtain ⟨k', hk', he⟩ := hvm.2.2 _ _ h3
  have hi : (U.vm.classes.findIdx? fun (x : Class) => match x.kind with | .array component _ => component == comp | _ => false) = some c := by
    refine (va_idx_bare U.vm comp).symm.trans ?_
    first | rw [hvm.bare_eq] | rw [← hvm.bare_eq]
    exact (va_idx_bare u.vm comp).trans h2
  have hkind : k'.kind = .array comp (.array t) := by rw [he]; exact h4
  have f1 : U.vm.findClass (FieldType.array t).toString = some comp := by rw [hvm.findClass]; exact h1
  have f2 : U.vm.findClass ("[" ++ (FieldType.array t).toString) = some c := by rw [hvm.findClass]; exact h5
  unfold Cond.before Cond.holds
  simp only [Cond.value]
  rw [f1, Option.bind_some]
  refine (congrArg (fun o : Option Nat => (o.bind (fun c => (U.vm.classes[c]?).map fun (k : Class) => match k.kind with | .array _ ty => decide (ty = FieldType.array t) && decide (U.vm.findClass ("[" ++ (FieldType.array t).toString) = some c) | _ => false) == some true)) hi).trans ?_
  simp [hk', hkind, f2]
/-- the outer array stands; its first rows made and put -/
def mr (h : AH) (q : Nm) (k : Int) (r : Nat → Nm) : Nat → AH
  | 0 => h
  | i + 1 => setR (newH (mr h q k r i) (r i) 1 k k.toNat) q i (some (r i))
theorem mr_ty {h : AH} {q : Nm} {k : Int} {r : Nat → Nm} {m : Nm} : ∀ i : Nat, (∀ j, j < i → m ≠ r j) → hT (mr h q k r i) m = hT h m
  | 0, _ => rfl
  | i + 1, hj => by
    show upN (hT (mr h q k r i)) (r i) 1 m = _
    rw [upN_ne _ _ (hj i (Nat.lt_succ_self i))]
    exact mr_ty i (fun j h' => hj j (Nat.lt_succ_of_lt h'))
theorem mr_ln {h : AH} {q : Nm} {k : Int} {r : Nat → Nm} {m : Nm} : ∀ i : Nat, (∀ j, j < i → m ≠ r j) → hN (mr h q k r i) m = hN h m
  | 0, _ => rfl
  | i + 1, hj => by
    show upN (hN (mr h q k r i)) (r i) k m = _
    rw [upN_ne _ _ (hj i (Nat.lt_succ_self i))]
    exact mr_ln i (fun j h' => hj j (Nat.lt_succ_of_lt h'))
theorem mr_c {h : AH} {q : Nm} {k : Int} {r : Nat → Nm} : ∀ i : Nat, hc (mr h q k r i) = hc h - i
  | 0 => rfl
  | i + 1 => by
    show hc (mr h q k r i) - 1 = _
    rw [mr_c i]
    omega
theorem mr_w {h : AH} {q : Nm} {k : Int} {r : Nat → Nm} : ∀ i : Nat, hw (mr h q k r i) = hw h - i * k.toNat
  | 0 => by simp [mr]
  | i + 1 => by
    show hw (mr h q k r i) - k.toNat = _
    rw [mr_w i, Nat.add_mul, Nat.one_mul]
    omega
theorem Rep.rows {g : Gt} {ρ : Nm → Option Nat} {h : AH} (T : State) {cI : Int} (hRp : Rep g ρ h T.heap) {q : Nm} {r : Nat → Nm} {N K : Nat} (hq : hT h q = 0) (hwq : wr q = true) (hr : ∀ i, i < N → hT h (r i) = 0 ∧ r i ≠ q) (hj : ∀ i j, i < N → j < N → r i = r j → i = j) (hN1 : N < 2 ^ 31) (hK : K < 2 ^ 31) (hcI : cI = (K : Int)) :
    ∀ i : Nat, i ≤ N → ∃ ρ', Sb ρ ρ' ∧ ρ' q = some T.heap.size ∧ Rep g ρ' (mr (newH h q 5 (N : Int) N) q cI r i) (Jvm.Free.Multi.fill T (gC g 5) (gC g 1) N K (.int 0) i).heap
  | 0, _ => by
    obtain ⟨a1, a2⟩ := hRp.new (c' := hc h - 1) (w' := hw h - N) (n := q) hq (t := 5) (by decide) (z := (N : Int)) (cell := { cls := gC g 5, slots := Array.replicate N .null, vm := .none }) (Cel_new (by decide) hN1 Array.getElem?_push_size (by rw [elv_r (by decide)]; rfl))
    exact ⟨_, a1, upN_self _ _ _, a2⟩
  | i + 1, hi => by
    obtain ⟨ρ1, s1, e1, R1⟩ := Rep.rows T hRp hq hwq hr hj hN1 hK hcI i (by omega)
    have hne : ∀ j, j < i → r i ≠ r j := fun j hji e => by have := hj i j (by omega) (by omega) e; omega
    have hf : hT (mr (newH h q 5 (N : Int) N) q cI r i) (r i) = 0 := by
      rw [mr_ty i hne]
      show upN (hT h) q 5 (r i) = 0
      rw [upN_ne _ _ (hr i (by omega)).2]
      exact (hr i (by omega)).1
    obtain ⟨f1, f2, -, -⟩ := Jvm.Free.Multi.fill_facts T (gC g 5) (gC g 1) N K (.int 0) i
    obtain ⟨s2, R2⟩ := R1.new (c' := hc (mr (newH h q 5 (N : Int) N) q cI r i) - 1) (w' := hw (mr (newH h q 5 (N : Int) N) q cI r i) - cI.toNat) (n := r i) hf (t := 1) (by decide) (z := cI) (cell := { cls := gC g 1, slots := Array.replicate K (.int 0), vm := .none }) (by rw [hcI]; exact Cel_new (by decide) hK Array.getElem?_push_size ⟨0, rfl, rfl⟩)
    have e2 := s2 _ _ e1
    have hqi : ∀ j, j < i → q ≠ r j := fun j hji => Ne.symm (hr j (by omega)).2
    have tq : hT (mr (newH h q 5 (N : Int) N) q cI r i) q = 5 := by
      rw [mr_ty i hqi]
      exact upN_self _ _ _
    have tq' : upN (hT (mr (newH h q 5 (N : Int) N) q cI r i)) (r i) 1 q = 5 := by rw [upN_ne _ _ (Ne.symm (hr i (by omega)).2)]; exact tq
    obtain ⟨N9, f9, g1, g2, g3, g4⟩ := R2.arr e2 tq' (by decide)
    have lq : hN (mr (newH h q 5 (N : Int) N) q cI r i) q = (N : Int) := by
      rw [mr_ln i hqi]
      exact upN_self _ _ _
    have lq' : upN (hN (mr (newH h q 5 (N : Int) N) q cI r i)) (r i) cI q = (N : Int) := by rw [upN_ne _ _ (Ne.symm (hr i (by omega)).2)]; exact lq
    have hlt : T.heap.size < (Jvm.Free.Multi.fill T (gC g 5) (gC g 1) N K (.int 0) i).heap.size := by rw [f1]; omega
    have hpush : ((Jvm.Free.Multi.fill T (gC g 5) (gC g 1) N K (.int 0) i).pushCell (Jvm.Free.Multi.innerC (gC g 1) K (.int 0))).heap[T.heap.size]? = some (Jvm.Free.Multi.outerC (gC g 5) N T.heap.size i) := by
      rw [State.heap_pushCell_of_lt (h := hlt)]
      exact f2
    have hsame : (Jvm.Free.Multi.outerC (gC g 5) N T.heap.size i) = arrV (gC g 5) N9 f9 := Option.some.inj (hpush.symm.trans g3)
    have R3 := R2.put (H' := (Jvm.Free.Multi.fill T (gC g 5) (gC g 1) N K (.int 0) (i + 1)).heap) (In := upN (hI (mr (newH h q 5 (N : Int) N) q cI r i)) (r i) (fun _ => 0) q) (Rn := upI (upN (hR (mr (newH h q 5 (N : Int) N) q cI r i)) (r i) (fun _ => none) q) i (some (r i))) e2 hwq (by simp [Jvm.Free.Multi.fill, State.setCell, State.pushCell]) (fun z hz => State.heap_setCell_other (Ne.symm hz)) (by
      show Cel g _ (upN (hT (mr (newH h q 5 (N : Int) N) q cI r i)) (r i) 1 q) (upN (hN (mr (newH h q 5 (N : Int) N) q cI r i)) (r i) cI q) _ _ _ _
      rw [tq']
      unfold Cel
      rw [if_pos (by decide)]
      refine CA.put g1 g2 g4 (x := .ref (T.heap.size + 1 + i)) (jn := i) ((State.heap_setCell_self hpush).trans ?_) ?_ ?_
      · show some ((Jvm.Free.Multi.outerC (gC g 5) N T.heap.size i).setSlot i (.ref (T.heap.size + 1 + i))) = _
        rw [hsame]
      · rw [elv_r (by decide), upI_self]
        exact ⟨_, by rw [upN_self], by rw [f1]⟩
      · intro j2 h2j
        exact elv_othR h2j)
    rw [upN_id] at R3
    exact ⟨_, s1.tr s2, e2, R3⟩
theorem mw1 : Cond.arrayOver (.array .int) ∈ lw_tbl := List.mem_of_getElem? (i := 110) (of_decide_eq_true (by decide +kernel))
theorem mw2 : Cond.arrayClass .int ∈ lw_tbl := List.mem_of_getElem? (i := 108) (of_decide_eq_true (by decide +kernel))
theorem a_mna {g : Gt} {d : Nat} {M : Mt} {K : Kt} {X : Xt} {pc : Nat} {ls stk : List Vl} {h : AH} (hG : Gd g) {idx : Nat} {q : Nm} {r : Nat → Nm} {n k : Int} (hd : decode M.2.1 pc = .ok (.multianewarray idx 2, 4)) (hk9 : Cond.classLink M.1.cls idx "[[I" ∈ lw_tbl) (n0 : 0 ≤ n) (hn : n ≤ 1000000) (k0 : 0 ≤ k) (hk : k ≤ 1000000) (hc1 : 1 + n.toNat ≤ hc h) (hw1 : n.toNat + n.toNat * k.toNat ≤ hw h) (hq : hT h q = 0) (hwq : wr q = true) (hr : ∀ i, i < n.toNat → hT h (r i) = 0 ∧ r i ≠ q) (hj : ∀ i j, i < n.toNat → j < n.toNat → r i = r j → i = j)
    (kk : SW g d M K X (pc + 4) ls (vR (some q) :: stk) (mr (newH h q 5 n n.toNat) q k r n.toNat)) : SW g d M K X pc ls (vI k :: vI n :: stk) h := by
  intro p e s m args below meth c ρs ρ c0 w0 H lc st locs cells slots C hS hL hst hRp h1 h2 h3
  obtain ⟨_, st1, rfl, ⟨ik, rfl, rfl⟩, hs1⟩ := SR_cons hst
  obtain ⟨_, st2, rfl, ⟨iy, rfl, rfl⟩, hs⟩ := SR_cons hs1
  obtain ⟨hex, hb, -, -, -, hown, hW, -⟩ := id C
  have en := clampI n0
  have ek := clampI k0
  have e8 : iy.toInt.toNat = iy.toNatClampNeg := by omega
  have e9 : ik.toInt.toNat = ik.toNatClampNeg := by omega
  rw [e8] at hc1 hw1 hr hj kk
  rw [e9] at hw1
  have es : "[" ++ (FieldType.array .int).toString = "[[I" := by decide +kernel
  intro T hT9 Xs
  obtain ⟨vm₁, cA, comp, -, fA, fC, -, -, X', step⟩ := Xs.multianewarray2F hex (ty := .int) hown (by rw [es]; exact hG.wd hW hk9 rfl) (ao_moved hW.alike (hG.2.1 _ mw1)) (hG.wd hW mw2 rfl) (g := F0 m pc lc (.int ik :: .int iy :: st2)) rfl (by rw [hb]; exact hd) rfl (fun z => inI (n := iy.toNatClampNeg + 1) n0 (by omega) (Or.inl z)) (fun z => inI (n := ik.toNatClampNeg + 1) k0 (by omega) (Or.inl z)) (by omega) (by show ik.toNatClampNeg * 4 ≤ _; omega) (by omega) rfl rfl (by show cells + (1 + iy.toNatClampNeg) ≤ c0; omega) (by show slots + (iy.toNatClampNeg + iy.toNatClampNeg * ik.toNatClampNeg) ≤ w0; omega)
  have hA5 : s.vm.findClass ("[" ++ (FieldType.array .int).toString) = some (gC g 5) := (arrK (hG.K hW) 5 (by decide) (by decide)).2
  have hA1 : s.vm.findClass ("[" ++ FieldType.int.toString) = some (gC g 1) := (arrK (hG.K hW) 1 (by decide) (by decide)).2
  have c5 : cA = gC g 5 := Option.some.inj (fA.symm.trans hA5)
  have c1 : comp = gC g 1 := Option.some.inj (fC.symm.trans hA1)
  subst c5 c1
  obtain ⟨ρ', s1, e1, R1⟩ := Rep.rows (T.setVm vm₁) (h := h) (ρ := ρ) (cI := ik.toInt) (K := ik.toNatClampNeg) (by show Rep g ρ h T.heap; rw [hT9]; exact hRp) hq hwq hr hj (by omega) (by omega) ek.symm iy.toNatClampNeg (Nat.le_refl _)
  rw [en] at R1
  have eT : (T.setVm vm₁).heap.size = H.size := by show T.heap.size = _; rw [hT9]
  rw [eT] at e1
  have eT' : T.heap.size = H.size := by rw [hT9]
  obtain ⟨t, a1, b1⟩ := kk p e s m args below meth c ρs ρ' c0 w0 _ lc (.ref H.size :: st2) locs (cells + 1 + iy.toNatClampNeg) (slots + iy.toNatClampNeg + iy.toNatClampNeg * ik.toNatClampNeg) C (hS.tr s1) (hL.up s1) ⟨⟨H.size, e1, rfl⟩, hs.up s1⟩ R1 (by
    rw [mr_c]
    show cells + 1 + iy.toNatClampNeg + (hc h - 1 - iy.toNatClampNeg) ≤ c0
    omega) (by
    rw [mr_w, e9]
    show slots + iy.toNatClampNeg + iy.toNatClampNeg * ik.toNatClampNeg + (hw h - iy.toNatClampNeg - iy.toNatClampNeg * ik.toNatClampNeg) ≤ w0
    omega) h3 _ rfl X'
  refine ⟨t, step t ?_, b1⟩
  rw [eT']
  exact a1
/-! ===== a constructor of a nest mate ===== -/
theorem x_callIN {p : Program} {l : Launch} {e : Env} {R : Room} {s : State} {m : MethodId} {args : Array Value} {below : List Frame} {meth : Method} {c : Code} {T : State} {locs : List Loc} {cells slots : Nat} {M : Mt} (X : Stand p l e R s m args below meth c T locs cells slots) (hexec : p.tables.exec = Jvm.exec) {own : String} {index : Nat} {bytes : ByteArray} {maxL : Nat}
    (hown : s.vm.findClass own = some m.cls) (hy1 : M.1.name = "<init>") {host : String} (hlink : (Cond.methodLinkNest own index M.1 host).before args s = true) (hinst : (Cond.instanceMethod M.1).before args s = true) (hcode : (Cond.code M.1 bytes maxL none).before args s = true) (hy : M.1.cls ≠ "java/lang/invoke/MethodHandle" ∧ M.1.cls ≠ "java/lang/invoke/VarHandle")
    {W9 : Nat} {Pre : Pt → Array Value → Prop} {Post : Pt → Array Value → Option Value → Pt → Prop} {PostX : Pt → Array Value → Addr → Pt → Prop} (hK : vx_Back l R p e below s args M.1 3 W9 Pre Post PostX) {f : JFrame} (hg : f.method = m) (hsize : f.locals.size = c.maxLocals) {b : Addr} {A1 rest : List Value} (hlen : ∀ sig, parseMethodDescriptor M.1.desc = some sig → A1.length = sig.parameters.length)
    (hstack : f.stack = A1.reverse ++ .ref b :: rest) (hW : 2 * f.monitorRoom + (rest.map fun v => v.category).sum ≤ W9) (hdg : decode c.code f.pc = .ok (.invokespecial index, 3)) (hpre : ∀ vm₁, s.WarmedH vm₁ → Pre ⟨T.setVm vm₁, locs, cells, slots⟩ (Value.ref b :: A1).toArray) :
    (∃ (v : Option Value) (vm₁ : Vm) (B : Pt), s.WarmedH vm₁ ∧ Stand p l e R s m args below meth c B.U B.locs B.cells B.slots ∧ Post ⟨T.setVm vm₁, locs, cells, slots⟩ (Value.ref b :: A1).toArray v B ∧
      ∀ target, Steps p.tables e below (B.U.setTop { f with pc := f.pc + 3, stack := v.toList ++ rest }) target → Steps p.tables e below (T.setTop f) target) ∨
    (∃ (q : Addr) (vm₁ : Vm) (B : Pt), s.WarmedH vm₁ ∧ Stand p l e R s m args below meth c B.U B.locs B.cells B.slots ∧ PostX ⟨T.setVm vm₁, locs, cells, slots⟩ (Value.ref b :: A1).toArray q B ∧
      Steps p.tables e below (T.setTop f) ((B.U.setTop { f with stack := rest }).pushFrame (.throwing q))) := by
  subst hg
  have hpl : e.platform.magicAccessors = ({} : Platform).magicAccessors := by rw [X.admits.platform]
  obtain ⟨mk, methM, cM, kP, vm₁, hnamed, hmethM, hcodeM, -, hlocalsM, -, hkP, -, hW₁, hstep₁⟩ := Steps.initColdArgsNest (e := e) X.here hexec X.warmed hpl hown hy1 hy hlink hinst hcode (f := f) rfl hlen hstack hdg
  have X₁ := X.noted hW₁
  rcases hK f.method meth c ⟨T.setVm vm₁, locs, cells, slots⟩ { f with stack := rest } (.invokespecial index) mk (Value.ref b :: A1).toArray X₁ rfl hsize hdg hW (X₁.named hnamed) (hpre vm₁ X₁.warmed) with ⟨v, B, X', hpost, hsteps⟩ | ⟨q, B, X', hpost, hsteps⟩
  · exact Or.inl ⟨v, vm₁, B, X₁.warmed, X', hpost, fun target h => hstep₁ _ fun acts => by rw [doInvoke_state]; exact hsteps.trans h⟩
  · exact Or.inr ⟨q, vm₁, B, X₁.warmed, X', hpost, hstep₁ _ fun acts => by rw [doInvoke_state]; exact hsteps⟩
theorem a_callIN {g : Gt} {d : Nat} {M : Mt} {K : Kt} {X : Xt} {pc : Nat} {ls stk : List Vl} {h : AH} {N : Mt} {idx : Nat} {n : Nm} {vs : List Vl} (hG : Gd g) (hd : decode M.2.1 pc = .ok (.invokespecial idx, 3)) (hV : MV N) (hpar : (parseMethodDescriptor N.1.desc).map (fun q => q.parameters.length) = some vs.length) (hj : ∀ v ∈ stk, v ≠ vJ) (hrm : (stk.map wgt).sum + N.2.2.1 + 11 ≤ 30) (hls : ls.length = M.2.2.1) (hni : N.1.name = "<init>") (hcd : N.2.2.2.1 = none) (hnt : N.2.2.2.2.1 = []) {host : String} (hlk : Cond.methodLinkNest M.1.cls idx N.1 host ∈ lw_tbl) (hin9 : Cond.instanceMethod N.1 ∈ lw_tbl)
    (hC : CT g d N (vR (some n) :: vs) h (fun v h' => SW g (d + 1) M K X (pc + 3) ls (v.toList ++ stk) h') (TH g (d + 1) M K X pc ls)) : SW g (d + 1) M K X pc ls (vs.reverse ++ vR (some n) :: stk) h := by
  intro p e s m args below meth c ρs ρ c0 w0 H lc st locs cells slots C hS hL hst hR h1 h2 h3
  obtain ⟨ys, rest0, rfl, hys, hrest0⟩ := SR_app hst
  obtain ⟨xb, rest, rfl, hxb, hrest⟩ := SR_cons hrest0
  obtain ⟨b, hb9, rfl⟩ := VR_r hxb
  obtain ⟨hex, hb, hml, -, -, hown, hW, -⟩ := id C
  have hxs : SR ρ vs ys.reverse := by have := SR_rev hys; rwa [List.reverse_reverse] at this
  have hlen := SR_len hxs
  have hwt := SR_wgt hrest hj
  have hcw : codeW N = Cond.code N.1 N.2.1 N.2.2.1 none := by unfold codeW; rw [hnt, hcd]
  intro T hT X0
  exact call_fin (AA := (Value.ref b :: ys.reverse).toArray) C hS hL hrest h1 h2 h3 (x_callIN (M := N) X0 hex hown hni (va_Nw.use rfl (va_Nw.warmM hW (va_Nw.of rfl (hG.2.1 _ hlk)))) (hG.wd hW hin9 rfl) (bytes := N.2.1) (maxL := N.2.2.1) (by rw [← hcw]; exact hG.wd hW hV.2.2.1 hV.2.2.2.1) hV.2.1 (x_back (W9 := (stk.map wgt).sum) (ρ := ρ) hG hW hV hC (Nat.le_refl _) (by show _ ≤ 30 * (d + 1) + 128; omega))
    (f := F0 m pc lc (ys ++ .ref b :: rest)) rfl (by rw [hml]; exact hL.1.trans hls) (A1 := ys.reverse) (rest := rest) (fun sig hsig => by rw [hsig] at hpar; have q := Option.some.inj hpar; exact hlen.symm.trans q.symm) (by rw [List.reverse_reverse]) (by show 2 * 0 + _ ≤ _; omega) (by rw [hb]; exact hd) (fun vm₁ hW₁ => ⟨⟨_, rfl, ⟨hxb, hxs⟩, State.WarmedH.trans hW hW₁, by show Rep g ρ h T.heap; rw [hT]; exact hR⟩, h1, h2⟩))
