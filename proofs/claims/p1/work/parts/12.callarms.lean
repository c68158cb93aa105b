/-! ===== the three calls ===== -/
theorem x_callS {p : Program} {l : Launch} {e : Env} {R : Room} {s : State} {m : MethodId} {args : Array Value} {below : List Frame} {meth : Method} {c : Code} {T : State} {locs : List Loc} {cells slots : Nat} {M : Mt} (X : Stand p l e R s m args below meth c T locs cells slots) (hexec : p.tables.exec = Jvm.exec) {own : String} {index : Nat}
    (hown : s.vm.findClass own = some m.cls) (hlink : (Cond.methodLink own index M.1).before args s = true) (hstat : (Cond.static M.1).before args s = true) (hinit : (Cond.initialized M.1.cls).before args s = true) (hcode : (codeW M).before args s = true) (hy : M.1.cls ≠ "java/lang/invoke/MethodHandle" ∧ M.1.cls ≠ "java/lang/invoke/VarHandle")
    {W9 : Nat} {Pre : Pt → Array Value → Prop} {Post : Pt → Array Value → Option Value → Pt → Prop} {PostX : Pt → Array Value → Addr → Pt → Prop} (hK : vx_Back l R p e below s args M.1 3 W9 Pre Post PostX) {f : JFrame} (hg : f.method = m) (hsize : f.locals.size = c.maxLocals) {AA rest : List Value} (hlen : ∀ sig, parseMethodDescriptor M.1.desc = some sig → AA.length = sig.parameters.length)
    (hstack : f.stack = AA.reverse ++ rest) (hW : 2 * f.monitorRoom + (rest.map fun v => v.category).sum ≤ W9) (hdg : decode c.code f.pc = .ok (.invokestatic index, 3)) (hpre : ∀ vm₁, s.WarmedH vm₁ → Pre ⟨T.setVm vm₁, locs, cells, slots⟩ AA.toArray) :
    (∃ (v : Option Value) (vm₁ : Vm) (B : Pt), s.WarmedH vm₁ ∧ Stand p l e R s m args below meth c B.U B.locs B.cells B.slots ∧ Post ⟨T.setVm vm₁, locs, cells, slots⟩ AA.toArray v B ∧
      ∀ target, Steps p.tables e below (B.U.setTop { f with pc := f.pc + 3, stack := v.toList ++ rest }) target → Steps p.tables e below (T.setTop f) target) ∨
    (∃ (q : Addr) (vm₁ : Vm) (B : Pt), s.WarmedH vm₁ ∧ Stand p l e R s m args below meth c B.U B.locs B.cells B.slots ∧ PostX ⟨T.setVm vm₁, locs, cells, slots⟩ AA.toArray q B ∧
      Steps p.tables e below (T.setTop f) ((B.U.setTop { f with stack := rest }).pushFrame (.throwing q))) := by
  obtain ⟨mk, hnamed⟩ := codeW_named hcode
  obtain ⟨methM, cM, hmethM, -, -, -, -, -, -, hsigM⟩ := codeW_spec hnamed hcode
  have hstatic : methM.isStatic = true := Cond.static_spec hnamed hmethM hstat
  obtain ⟨kP, hkP, -⟩ := className_of_methodNamed hnamed
  have hinitP : kP.init = .initialized := Cond.initialized_spec (findClass_of_methodNamed hnamed) hkP hinit
  obtain ⟨vm₁, X₁, hstep₁⟩ := X.invokestatic hexec hown hlink hnamed hmethM hstatic hkP hinitP hy (g := f) hg (argsL := AA) (rest := rest) (hlen _ hsigM) hstack hdg
  rcases hK m meth c ⟨T.setVm vm₁, locs, cells, slots⟩ { f with stack := rest } (.invokestatic index) mk AA.toArray X₁ hg hsize hdg hW (X₁.named hnamed) (hpre vm₁ X₁.warmed) with ⟨v, B, X', hpost, hsteps⟩ | ⟨q, B, X', hpost, hsteps⟩
  · exact Or.inl ⟨v, vm₁, B, X₁.warmed, X', hpost, fun target h => hstep₁ _ fun acts => by rw [doInvoke_state]; exact hsteps.trans h⟩
  · exact Or.inr ⟨q, vm₁, B, X₁.warmed, X', hpost, hstep₁ _ fun acts => by rw [doInvoke_state]; exact hsteps⟩
theorem x_callV {p : Program} {l : Launch} {e : Env} {R : Room} {s : State} {m : MethodId} {args : Array Value} {below : List Frame} {meth : Method} {c : Code} {T : State} {locs : List Loc} {cells slots : Nat} {M : Mt} (X : Stand p l e R s m args below meth c T locs cells slots) (hexec : p.tables.exec = Jvm.exec) {own C : String} {index : Nat}
    (hown : s.vm.findClass own = some m.cls) (hlink : (Cond.methodLink own index M.1).before args s = true) (hinst : (Cond.instanceMethod M.1).before args s = true) (hsel : (Cond.selects C M.1 M.1).before args s = true) (hcode : (codeW M).before args s = true) (hy : M.1.cls ≠ "java/lang/invoke/MethodHandle" ∧ M.1.cls ≠ "java/lang/invoke/VarHandle")
    {W9 : Nat} {Pre : Pt → Array Value → Prop} {Post : Pt → Array Value → Option Value → Pt → Prop} {PostX : Pt → Array Value → Addr → Pt → Prop} (hK : vx_Back l R p e below s args M.1 3 W9 Pre Post PostX) {b : Addr} {cellB : Cell} (hcell : T.heap[b]? = some cellB) (hobj : cellB.vm.isStatics = false) (hcls : s.vm.findClass C = some cellB.cls)
    {f : JFrame} (hg : f.method = m) (hsize : f.locals.size = c.maxLocals) {A1 rest : List Value} (hlen : ∀ sig, parseMethodDescriptor M.1.desc = some sig → A1.length = sig.parameters.length)
    (hstack : f.stack = A1.reverse ++ .ref b :: rest) (hW : 2 * f.monitorRoom + (rest.map fun v => v.category).sum ≤ W9) (hdg : decode c.code f.pc = .ok (.invokevirtual index, 3)) (hpre : ∀ vm₁, s.WarmedH vm₁ → Pre ⟨T.setVm vm₁, locs, cells, slots⟩ (Value.ref b :: A1).toArray) :
    (∃ (v : Option Value) (vm₁ : Vm) (B : Pt), s.WarmedH vm₁ ∧ Stand p l e R s m args below meth c B.U B.locs B.cells B.slots ∧ Post ⟨T.setVm vm₁, locs, cells, slots⟩ (Value.ref b :: A1).toArray v B ∧
      ∀ target, Steps p.tables e below (B.U.setTop { f with pc := f.pc + 3, stack := v.toList ++ rest }) target → Steps p.tables e below (T.setTop f) target) ∨
    (∃ (q : Addr) (vm₁ : Vm) (B : Pt), s.WarmedH vm₁ ∧ Stand p l e R s m args below meth c B.U B.locs B.cells B.slots ∧ PostX ⟨T.setVm vm₁, locs, cells, slots⟩ (Value.ref b :: A1).toArray q B ∧
      Steps p.tables e below (T.setTop f) ((B.U.setTop { f with stack := rest }).pushFrame (.throwing q))) := by
  obtain ⟨mk, methM, hnamed, hmethM, hstM, habM⟩ := Cond.instanceMethod_spec hinst
  obtain ⟨methM', cM, hmethM', -, -, -, -, -, -, hsigM⟩ := codeW_spec hnamed hcode
  cases hmethM.symm.trans hmethM'
  obtain ⟨c2, r2, m2, q1, q2, q3, q4, kP, hkP, hkPi⟩ := Cond.selects_spec hsel
  cases hcls.symm.trans q1
  cases (State.methodFound?_of_named hnamed hy).symm.trans q2
  cases hnamed.symm.trans q3
  have hselP : selectMethod e.platform s.vm cellB.cls mk = .method mk := by rw [Launch.admits_selectMethod X.admits]; exact q4
  obtain ⟨vm₁, X₁, hstep₁⟩ := X.invokevirtual hexec hown hlink hnamed hmethM hstM hkP hkPi hy (a := b) (cell := cellB) hcell
    (fun z h => by rw [h] at hobj; cases hobj) hselP hmethM habM hkP hkPi (g := f) hg (argsL := A1) (rest := rest) (hlen _ hsigM) hstack hdg
  rcases hK m meth c ⟨T.setVm vm₁, locs, cells, slots⟩ { f with stack := rest } (.invokevirtual index) mk (Value.ref b :: A1).toArray X₁ hg hsize hdg hW (X₁.named hnamed) (hpre vm₁ X₁.warmed) with ⟨v, B, X', hpost, hsteps⟩ | ⟨q, B, X', hpost, hsteps⟩
  · exact Or.inl ⟨v, vm₁, B, X₁.warmed, X', hpost, fun target h => hstep₁ _ fun acts => by rw [doInvoke_state]; exact hsteps.trans h⟩
  · exact Or.inr ⟨q, vm₁, B, X₁.warmed, X', hpost, hstep₁ _ fun acts => by rw [doInvoke_state]; exact hsteps⟩
theorem x_callI {p : Program} {l : Launch} {e : Env} {R : Room} {s : State} {m : MethodId} {args : Array Value} {below : List Frame} {meth : Method} {c : Code} {T : State} {locs : List Loc} {cells slots : Nat} {M : Mt} (X : Stand p l e R s m args below meth c T locs cells slots) (hexec : p.tables.exec = Jvm.exec) {own : String} {index : Nat} {bytes : ByteArray} {maxL : Nat}
    (hown : s.vm.findClass own = some m.cls) (hy1 : M.1.name = "<init>") (hlink : (Cond.methodLink own index M.1).before args s = true) (hinst : (Cond.instanceMethod M.1).before args s = true) (hcode : (Cond.code M.1 bytes maxL none).before args s = true) (hy : M.1.cls ≠ "java/lang/invoke/MethodHandle" ∧ M.1.cls ≠ "java/lang/invoke/VarHandle")
    {W9 : Nat} {Pre : Pt → Array Value → Prop} {Post : Pt → Array Value → Option Value → Pt → Prop} {PostX : Pt → Array Value → Addr → Pt → Prop} (hK : vx_Back l R p e below s args M.1 3 W9 Pre Post PostX) {f : JFrame} (hg : f.method = m) (hsize : f.locals.size = c.maxLocals) {b : Addr} {A1 rest : List Value} (hlen : ∀ sig, parseMethodDescriptor M.1.desc = some sig → A1.length = sig.parameters.length)
    (hstack : f.stack = A1.reverse ++ .ref b :: rest) (hW : 2 * f.monitorRoom + (rest.map fun v => v.category).sum ≤ W9) (hdg : decode c.code f.pc = .ok (.invokespecial index, 3)) (hpre : ∀ vm₁, s.WarmedH vm₁ → Pre ⟨T.setVm vm₁, locs, cells, slots⟩ (Value.ref b :: A1).toArray) :
    (∃ (v : Option Value) (vm₁ : Vm) (B : Pt), s.WarmedH vm₁ ∧ Stand p l e R s m args below meth c B.U B.locs B.cells B.slots ∧ Post ⟨T.setVm vm₁, locs, cells, slots⟩ (Value.ref b :: A1).toArray v B ∧
      ∀ target, Steps p.tables e below (B.U.setTop { f with pc := f.pc + 3, stack := v.toList ++ rest }) target → Steps p.tables e below (T.setTop f) target) ∨
    (∃ (q : Addr) (vm₁ : Vm) (B : Pt), s.WarmedH vm₁ ∧ Stand p l e R s m args below meth c B.U B.locs B.cells B.slots ∧ PostX ⟨T.setVm vm₁, locs, cells, slots⟩ (Value.ref b :: A1).toArray q B ∧
      Steps p.tables e below (T.setTop f) ((B.U.setTop { f with stack := rest }).pushFrame (.throwing q))) := by
  subst hg
  have hpl : e.platform.magicAccessors = ({} : Platform).magicAccessors := by rw [X.admits.platform]
  obtain ⟨mk, methM, cM, kP, vm₁, hnamed, hmethM, hcodeM, -, hlocalsM, -, hkP, -, hW₁, hstep₁⟩ := Steps.initColdArgs (e := e) X.here hexec X.warmed hpl hown hy1 hy hlink hinst hcode (f := f) rfl hlen hstack hdg
  have X₁ := X.noted hW₁
  rcases hK f.method meth c ⟨T.setVm vm₁, locs, cells, slots⟩ { f with stack := rest } (.invokespecial index) mk (Value.ref b :: A1).toArray X₁ rfl hsize hdg hW (X₁.named hnamed) (hpre vm₁ X₁.warmed) with ⟨v, B, X', hpost, hsteps⟩ | ⟨q, B, X', hpost, hsteps⟩
  · exact Or.inl ⟨v, vm₁, B, X₁.warmed, X', hpost, fun target h => hstep₁ _ fun acts => by rw [doInvoke_state]; exact hsteps.trans h⟩
  · exact Or.inr ⟨q, vm₁, B, X₁.warmed, X', hpost, hstep₁ _ fun acts => by rw [doInvoke_state]; exact hsteps⟩
/-! ===== where an exception goes ===== -/
/-- thrown at pc: what the method comes to -/
def TH (g : Gt) (d : Nat) (M : Mt) (K : Kt) (X : Xt) (pc : Nat) (ls : List Vl) : Xt := fun k h =>
  ∀ (p : Program) (e : Env) (s : State) (m : MethodId) (args : Array Value) (below : List Frame) (meth : Method) (c : Code) (ρs ρ : Nm → Option Nat) (c0 w0 : Nat) (H : Heap) (lc : Array Slot) (st : List Value) (locs : List Loc) (cells slots : Nat) (q : Addr) (ce : Cell),
    Cx g M p s m meth c → Sb ρs ρ → LR ρ ls lc → Rep g ρ h H → cells + hc h ≤ c0 → slots + hw h ≤ w0 → (∀ q ∈ locs, nw g q.base) → H[q]? = some ce → ce.vm = .none → (gs g).vm.findClass (exN k) = some ce.cls →
    vx_W p (gl g) e (rmv d c0 w0) s m args below meth c H locs cells slots (Qf g ρs K X s below c0 w0) (F0 m pc lc st) q
theorem TH.out {g : Gt} {d : Nat} {M : Mt} {K : Kt} {X : Xt} {pc : Nat} {ls : List Vl} {k : Nat} {h : AH} (ht : M.2.2.2.2.1 = []) (hx : X k h) : TH g d M K X pc ls k h := by
  intro p e s m args below meth c ρs ρ c0 w0 H lc st locs cells slots q ce C hS hL hR h1 h2 h3 hce hcv hcl T hT X0
  obtain ⟨-, -, -, -, hlk, -, -, htb, -⟩ := C
  rw [ht] at htb
  obtain ⟨st1, hrun, hend, hW, hsm⟩ := X0.leaveThrown q (g := F0 m pc lc st) rfl rfl rfl (by rw [htb]; exact fun x hx => nomatch hx) hlk
  refine ⟨_, st1, .threw q, hrun, hend, h, ρ, locs, hS, ?_, hW, hsm.mono (by omega) (by omega), h3, by omega, by omega, Or.inr (Or.inr ⟨q, k, ce, rfl, hx, ?_, hcv, hcl⟩)⟩
  · show Rep g ρ h T.heap
    rw [hT]; exact hR
  · show T.heap[q]? = some ce
    rw [hT]; exact hce
theorem exCls {g : Gt} {s : State} (hW : (gs g).WarmedH s.vm) {k : Nat} {c : ClassId} (h : (gs g).vm.findClass (exN k) = some c) : s.vm.findClass (exN k) = some c := by
  rw [hW.alike.findClass]; exact h
/-- a table of two rows: the first takes 1, the second takes 2 -/
theorem TH.c1 {g : Gt} {d : Nat} {M : Mt} {K : Kt} {X : Xt} {pc : Nat} {ls : List Vl} {h : AH} {a1 b1 p1 t1 : Nat} {q2 : List (Nat × Nat × Nat × Nat)} (hG : Gd g) (ht : M.2.2.2.2.1 = (a1, b1, p1, t1) :: q2) (hcv9 : a1 ≤ pc ∧ pc < b1) (h0 : t1 ≠ 0) (hlk9 : Cond.classLink M.1.cls t1 (exN 1) ∈ lw_tbl) (hcs : Cond.castable (exN 1) (exN 1) ∈ lw_tbl)
    (kk : SW g d M K X p1 ls [vX] h) : TH g d M K X pc ls 1 h := by
  intro p e s m args below meth c ρs ρ c0 w0 H lc st locs cells slots q ce C hS hL hR h1 h2 h3 hce hcv hcl
  obtain ⟨hex, hb, -, -, hlk, hown, hW, htb, -⟩ := id C
  rw [ht] at htb
  exact vx_catch hown [] { startPc := a1, endPc := b1, handlerPc := p1, catchType := t1 } (tableOf q2) (by rw [htb]; rfl) (fun z hz => nomatch hz) (by simp [covers, hcv9.1, hcv9.2]) h0 (hG.wd hW hlk9 rfl) (va_Nw.use (A := args) rfl (hG.cast hW hcs)) hce hcv (exCls hW hcl)
    (kk p e s m args below meth c ρs ρ c0 w0 H lc _ locs cells slots C hS hL ⟨⟨q, rfl⟩, trivial⟩ hR h1 h2 h3)
theorem TH.c2 {g : Gt} {d : Nat} {M : Mt} {K : Kt} {X : Xt} {pc : Nat} {ls : List Vl} {h : AH} {a1 b1 p1 t1 a2 b2 p2 t2 : Nat} (hG : Gd g) (ht : M.2.2.2.2.1 = [(a1, b1, p1, t1), (a2, b2, p2, t2)]) (hcv9 : a2 ≤ pc ∧ pc < b2) (h01 : t1 ≠ 0) (h0 : t2 ≠ 0) (hlk1 : Cond.classLink M.1.cls t1 (exN 1) ∈ lw_tbl) (hlk9 : Cond.classLink M.1.cls t2 (exN 2) ∈ lw_tbl) (hcs : Cond.castable (exN 2) (exN 2) ∈ lw_tbl)
    (kk : SW g d M K X p2 ls [vX] h) : TH g d M K X pc ls 2 h := by
  intro p e s m args below meth c ρs ρ c0 w0 H lc st locs cells slots q ce C hS hL hR h1 h2 h3 hce hcv hcl
  obtain ⟨hex, hb, -, -, hlk, hown, hW, htb, -⟩ := id C
  rw [ht] at htb
  exact vx_catch hown [{ startPc := a1, endPc := b1, handlerPc := p1, catchType := t1 }] { startPc := a2, endPc := b2, handlerPc := p2, catchType := t2 } [] (by rw [htb]; rfl)
    (fun z hz => by rw [List.mem_singleton.mp hz]; exact Or.inr ⟨h01, exN 1, hG.wd hW hlk1 rfl, va_Nc.moved hW.alike hG.2.2.2.2.2.2.2⟩) (by simp [covers, hcv9.1, hcv9.2]) h0 (hG.wd hW hlk9 rfl) (va_Nw.use (A := args) rfl (hG.cast hW hcs)) hce hcv (exCls hW hcl)
    (kk p e s m args below meth c ρs ρ c0 w0 H lc _ locs cells slots C hS hL ⟨⟨q, rfl⟩, trivial⟩ hR h1 h2 h3)
/-- the weight of a stack -/
def wgt (v : Vl) : Nat := match v with
  | .inr (.inl _) => 2
  | _ => 1
theorem VR_wgt {ρ : Nm → Option Nat} {v : Vl} {x : Value} (h : VR ρ v x) (hj : v ≠ vJ) : x.category ≤ wgt v := by
  by_cases h2 : x.category = 2
  · obtain ⟨z, rfl⟩ := VR_two h hj h2
    rw [h2]; exact Nat.le_refl 2
  · have : x.category = 1 := by rcases lv_cat x with q | q <;> omega
    rw [this]
    unfold wgt
    split <;> omega
theorem SR_wgt {ρ : Nm → Option Nat} : ∀ {vs : List Vl} {xs : List Value}, SR ρ vs xs → (∀ v ∈ vs, v ≠ vJ) → (xs.map fun v => v.category).sum ≤ (vs.map wgt).sum
  | [], [], _, _ => Nat.le_refl _
  | v :: vs, x :: xs, k, hj => by
    have h1 := VR_wgt k.1 (hj v List.mem_cons_self)
    have h2 := SR_wgt k.2 (fun w hw => hj w (List.mem_cons_of_mem _ hw))
    simp only [List.map_cons, List.sum_cons]
    omega
  | [], _ :: _, k, _ => k.elim
  | _ :: _, [], k, _ => k.elim
theorem call_fin {g : Gt} {d : Nat} {M : Mt} {K : Kt} {X : Xt} {pc : Nat} {ls stk : List Vl} {h : AH} {AA : Array Value} {p : Program} {e : Env} {s : State} {m : MethodId} {args : Array Value} {below : List Frame} {meth : Method} {c : Code} {ρs ρ : Nm → Option Nat} {c0 w0 : Nat} {lc : Array Slot} {st rest : List Value} {locs : List Loc} {cells slots : Nat} {T : State}
    (C : Cx g M p s m meth c) (hS : Sb ρs ρ) (hL : LR ρ ls lc) (hr : SR ρ stk rest) (h1 : cells + hc h ≤ c0) (h2 : slots + hw h ≤ w0) (h3 : ∀ q ∈ locs, nw g q.base)
    (res : (∃ (v : Option Value) (vm₁ : Vm) (B : Pt), s.WarmedH vm₁ ∧ Stand p (gl g) e (rmv d c0 w0) s m args below meth c B.U B.locs B.cells B.slots ∧ xPost g ρ h (fun v h' => SW g d M K X (pc + 3) ls (v.toList ++ stk) h') ⟨T.setVm vm₁, locs, cells, slots⟩ AA v B ∧
      ∀ target, Steps p.tables e below (B.U.setTop { F0 m pc lc st with pc := (F0 m pc lc st).pc + 3, stack := v.toList ++ rest }) target → Steps p.tables e below (T.setTop (F0 m pc lc st)) target) ∨
    (∃ (q : Addr) (vm₁ : Vm) (B : Pt), s.WarmedH vm₁ ∧ Stand p (gl g) e (rmv d c0 w0) s m args below meth c B.U B.locs B.cells B.slots ∧ xPostX g ρ h (TH g d M K X pc ls) ⟨T.setVm vm₁, locs, cells, slots⟩ AA q B ∧
      Steps p.tables e below (T.setTop (F0 m pc lc st)) ((B.U.setTop { F0 m pc lc st with stack := rest }).pushFrame (.throwing q)))) :
    ∃ t, Steps p.tables e below (T.setTop (F0 m pc lc st)) t ∧ Qf g ρs K X s below c0 w0 t := by
  rcases res with ⟨v, vm₁, B, hW₁, X', ⟨h', ρ', ⟨f1, f2, ⟨L, f3, f4⟩, f5, f6, f7, f8⟩, hv⟩, stp⟩ | ⟨q, vm₁, B, hW₁, X', ⟨h', ρ', ⟨f1, f2, ⟨L, f3, f4⟩, f5, f6, f7, f8⟩, k, ce, hk, hce, hcv, hcl⟩, stp⟩
  · have hl : ∀ q ∈ B.locs, nw g q.base := by
      rw [f3]
      intro z hz
      rcases List.mem_append.mp hz with h4 | h4
      · exact h3 z h4
      · exact f4 z h4
    have g1 : B.cells = cells + (hc h - hc h') := f5
    have g2 : B.slots = slots + (hw h - hw h') := f6
    rcases hv with ⟨rfl, hk⟩ | ⟨v', x, rfl, hvx, hj, hk⟩
    · obtain ⟨t, a, b⟩ := hk p e s m args below meth c ρs ρ' c0 w0 B.U.heap lc rest B.locs B.cells B.slots C (hS.tr f1) (hL.up f1) (hr.up f1) f2 (by omega) (by omega) hl B.U rfl X'
      exact ⟨t, stp t a, b⟩
    · obtain ⟨t, a, b⟩ := hk p e s m args below meth c ρs ρ' c0 w0 B.U.heap lc (x :: rest) B.locs B.cells B.slots C (hS.tr f1) (hL.up f1) ⟨hvx, hr.up f1⟩ f2 (by omega) (by omega) hl B.U rfl X'
      exact ⟨t, stp t a, b⟩
  · have hl : ∀ q ∈ B.locs, nw g q.base := by
      rw [f3]
      intro z hz
      rcases List.mem_append.mp hz with h4 | h4
      · exact h3 z h4
      · exact f4 z h4
    have g1 : B.cells = cells + (hc h - hc h') := f5
    have g2 : B.slots = slots + (hw h - hw h') := f6
    obtain ⟨t, a, b⟩ := hk p e s m args below meth c ρs ρ' c0 w0 B.U.heap lc rest B.locs B.cells B.slots q ce C (hS.tr f1) (hL.up f1) f2 (by omega) (by omega) hl hce hcv hcl B.U rfl X'
    exact ⟨t, stp.trans a, b⟩
theorem a_callS {g : Gt} {d : Nat} {M : Mt} {K : Kt} {X : Xt} {pc : Nat} {ls stk : List Vl} {h : AH} {N : Mt} {idx : Nat} {vs : List Vl} (hG : Gd g) (hd : decode M.2.1 pc = .ok (.invokestatic idx, 3)) (hV : MV N) (hpar : (parseMethodDescriptor N.1.desc).map (fun q => q.parameters.length) = some vs.length) (hj : ∀ v ∈ stk, v ≠ vJ) (hrm : (stk.map wgt).sum + N.2.2.1 + 11 ≤ 30) (hls : ls.length = M.2.2.1) (hlk : Cond.methodLink M.1.cls idx N.1 ∈ lw_tbl) (hst9 : Cond.static N.1 ∈ lw_tbl)
    (hC : CT g d N vs h (fun v h' => SW g (d + 1) M K X (pc + 3) ls (v.toList ++ stk) h') (TH g (d + 1) M K X pc ls)) : SW g (d + 1) M K X pc ls (vs.reverse ++ stk) h := by
  intro p e s m args below meth c ρs ρ c0 w0 H lc st locs cells slots C hS hL hst hR h1 h2 h3
  obtain ⟨ys, rest, rfl, hys, hrest⟩ := SR_app hst
  obtain ⟨hex, hb, hml, -, -, hown, hW, -⟩ := id C
  have hxs : SR ρ vs ys.reverse := by have := SR_rev hys; rwa [List.reverse_reverse] at this
  have hlen := SR_len hxs
  have hwt := SR_wgt hrest hj
  intro T hT X0
  exact call_fin (AA := ys.reverse.toArray) C hS hL hrest h1 h2 h3 (x_callS (M := N) X0 hex hown (hG.wd hW hlk rfl) (hG.wd hW hst9 rfl) (hG.wd hW hV.2.2.2.2 rfl) (hG.wd hW hV.2.2.1 hV.2.2.2.1) hV.2.1 (x_back (W9 := (stk.map wgt).sum) (ρ := ρ) hG hW hV hC (Nat.le_refl _) (by show _ ≤ 30 * (d + 1) + 128; omega))
    (f := F0 m pc lc (ys ++ rest)) rfl (by rw [hml]; exact hL.1.trans hls) (AA := ys.reverse) (rest := rest) (fun sig hsig => by rw [hsig] at hpar; have q := Option.some.inj hpar; exact hlen.symm.trans q.symm) (by rw [List.reverse_reverse]) (by show 2 * 0 + _ ≤ _; omega) (by rw [hb]; exact hd) (fun vm₁ hW₁ => ⟨⟨_, rfl, hxs, State.WarmedH.trans hW hW₁, by show Rep g ρ h T.heap; rw [hT]; exact hR⟩, h1, h2⟩))
theorem a_callV {g : Gt} {d : Nat} {M : Mt} {K : Kt} {X : Xt} {pc : Nat} {ls stk : List Vl} {h : AH} {N : Mt} {idx ci : Nat} {n : Nm} {vs : List Vl} (hG : Gd g) (hd : decode M.2.1 pc = .ok (.invokevirtual idx, 3)) (hV : MV N) (hpar : (parseMethodDescriptor N.1.desc).map (fun q => q.parameters.length) = some vs.length) (hj : ∀ v ∈ stk, v ≠ vJ) (hrm : (stk.map wgt).sum + N.2.2.1 + 11 ≤ 30) (hls : ls.length = M.2.2.1) (hlk : Cond.methodLink M.1.cls idx N.1 ∈ lw_tbl) (hin9 : Cond.instanceMethod N.1 ∈ lw_tbl) (hcn : ∃ T9 N9, clT[ci]? = some (N.1.cls, T9, N9)) (hsl : Cond.selects N.1.cls N.1 N.1 ∈ lw_tbl) (ht : hT h n = 100 + ci)
    (hC : CT g d N (vR (some n) :: vs) h (fun v h' => SW g (d + 1) M K X (pc + 3) ls (v.toList ++ stk) h') (TH g (d + 1) M K X pc ls)) : SW g (d + 1) M K X pc ls (vs.reverse ++ vR (some n) :: stk) h := by
  intro p e s m args below meth c ρs ρ c0 w0 H lc st locs cells slots C hS hL hst hR h1 h2 h3
  obtain ⟨ys, rest0, rfl, hys, hrest0⟩ := SR_app hst
  obtain ⟨xb, rest, rfl, hxb, hrest⟩ := SR_cons hrest0
  obtain ⟨b, hb9, rfl⟩ := VR_r hxb
  obtain ⟨hex, hb, hml, -, -, hown, hW, -⟩ := id C
  have hxs : SR ρ vs ys.reverse := by have := SR_rev hys; rwa [List.reverse_reverse] at this
  have hlen := SR_len hxs
  have hwt := SR_wgt hrest hj
  obtain ⟨T9, N9, hcl⟩ := hcn
  obtain ⟨q9, V9, hq9, ⟨cellV, g1, g2, g3, -⟩, -⟩ := hR.obj hb9 ht
  have hcls := ((hG.K hW).1 ci _ hcl).2
  intro T hT X0
  exact call_fin (AA := (Value.ref b :: ys.reverse).toArray) C hS hL hrest h1 h2 h3 (x_callV (M := N) X0 hex (C := N.1.cls) hown (hG.wd hW hlk rfl) (hG.wd hW hin9 rfl) (hG.wd hW hsl rfl) (hG.wd hW hV.2.2.1 hV.2.2.2.1) hV.2.1 (x_back (W9 := (stk.map wgt).sum) (ρ := ρ) hG hW hV hC (Nat.le_refl _) (by show _ ≤ 30 * (d + 1) + 128; omega)) (by rw [hT]; exact g1) (by rw [g3]; rfl) (by rw [g2]; exact hcls.1)
    (f := F0 m pc lc (ys ++ .ref b :: rest)) rfl (by rw [hml]; exact hL.1.trans hls) (A1 := ys.reverse) (rest := rest) (fun sig hsig => by rw [hsig] at hpar; have q := Option.some.inj hpar; exact hlen.symm.trans q.symm) (by rw [List.reverse_reverse]) (by show 2 * 0 + _ ≤ _; omega) (by rw [hb]; exact hd) (fun vm₁ hW₁ => ⟨⟨_, rfl, ⟨hxb, hxs⟩, State.WarmedH.trans hW hW₁, by show Rep g ρ h T.heap; rw [hT]; exact hR⟩, h1, h2⟩))
theorem a_callI {g : Gt} {d : Nat} {M : Mt} {K : Kt} {X : Xt} {pc : Nat} {ls stk : List Vl} {h : AH} {N : Mt} {idx : Nat} {n : Nm} {vs : List Vl} (hG : Gd g) (hd : decode M.2.1 pc = .ok (.invokespecial idx, 3)) (hV : MV N) (hpar : (parseMethodDescriptor N.1.desc).map (fun q => q.parameters.length) = some vs.length) (hj : ∀ v ∈ stk, v ≠ vJ) (hrm : (stk.map wgt).sum + N.2.2.1 + 11 ≤ 30) (hls : ls.length = M.2.2.1) (hni : N.1.name = "<init>") (hcd : N.2.2.2.1 = none) (hnt : N.2.2.2.2.1 = []) (hlk : Cond.methodLink M.1.cls idx N.1 ∈ lw_tbl) (hin9 : Cond.instanceMethod N.1 ∈ lw_tbl)
    (hC : CT g d N (vR (some n) :: vs) h (fun v h' => SW g (d + 1) M K X (pc + 3) ls (v.toList ++ stk) h') (TH g (d + 1) M K X pc ls)) : SW g (d + 1) M K X pc ls (vs.reverse ++ vR (some n) :: stk) h := by
  intro p e s m args below meth c ρs ρ c0 w0 H lc st locs cells slots C hS hL hst hR h1 h2 h3
  obtain ⟨ys, rest0, rfl, hys, hrest0⟩ := SR_app hst
  obtain ⟨xb, rest, rfl, hxb, hrest⟩ := SR_cons hrest0
  obtain ⟨b, hb9, rfl⟩ := VR_r hxb
  obtain ⟨hex, hb, hml, -, -, hown, hW, -⟩ := id C
  have hxs : SR ρ vs ys.reverse := by have := SR_rev hys; rwa [List.reverse_reverse] at this
  have hlen := SR_len hxs
  have hwt := SR_wgt hrest hj
  have hcw : codeW N = Cond.code N.1 N.2.1 N.2.2.1 none := by unfold codeW; rw [hnt, hcd]
  intro T hT X0
  exact call_fin (AA := (Value.ref b :: ys.reverse).toArray) C hS hL hrest h1 h2 h3 (x_callI (M := N) X0 hex hown hni (hG.wd hW hlk rfl) (hG.wd hW hin9 rfl) (bytes := N.2.1) (maxL := N.2.2.1) (by rw [← hcw]; exact hG.wd hW hV.2.2.1 hV.2.2.2.1) hV.2.1 (x_back (W9 := (stk.map wgt).sum) (ρ := ρ) hG hW hV hC (Nat.le_refl _) (by show _ ≤ 30 * (d + 1) + 128; omega))
    (f := F0 m pc lc (ys ++ .ref b :: rest)) rfl (by rw [hml]; exact hL.1.trans hls) (A1 := ys.reverse) (rest := rest) (fun sig hsig => by rw [hsig] at hpar; have q := Option.some.inj hpar; exact hlen.symm.trans q.symm) (by rw [List.reverse_reverse]) (by show 2 * 0 + _ ≤ _; omega) (by rw [hb]; exact hd) (fun vm₁ hW₁ => ⟨⟨_, rfl, ⟨hxb, hxs⟩, State.WarmedH.trans hW hW₁, by show Rep g ρ h T.heap; rw [hT]; exact hR⟩, h1, h2⟩))
theorem a_obj {g : Gt} {d : Nat} {M : Mt} {K : Kt} {X : Xt} {pc : Nat} {ls stk : List Vl} {h : AH} {idx : Nat} {n : Nm} (hG : Gd g) (hd : decode M.2.1 pc = .ok (.invokespecial idx, 3)) (hlk : Cond.methodLink M.1.cls idx Lib.objectInit ∈ lw_tbl) (hin9 : Cond.instanceMethod Lib.objectInit ∈ lw_tbl) (hcd : Cond.code Lib.objectInit ⟨#[0xb1]⟩ 1 none ∈ lw_tbl) (hls : ls.length = M.2.2.1) (hj : ∀ v ∈ stk, v ≠ vJ) (hrm : (stk.map wgt).sum ≤ 18)
    (kk : SW g (d + 1) M K X (pc + 3) ls stk h) : SW g (d + 1) M K X pc ls (vR (some n) :: stk) h := by
  intro p e s m args below meth c ρs ρ c0 w0 H lc st locs cells slots C hS hL hst hR h1 h2 h3
  obtain ⟨xb, rest, rfl, hxb, hrest⟩ := SR_cons hst
  obtain ⟨b, hb9, rfl⟩ := VR_r hxb
  obtain ⟨hex, hb, hml, -, -, hown, hW, -⟩ := id C
  have hwt := SR_wgt hrest hj
  exact W.objInit hex hb hown (hG.wd hW hlk rfl) (hG.wd hW hin9 rfl) (hG.wd hW hcd rfl) rfl (by show lc.size = _; rw [hml]; exact hL.1.trans hls) rfl hd (by show 1 ≤ d + 1; omega) (by show 2 * 0 + _ + 12 ≤ 30 * (d + 1) + 128; omega)
    (kk p e s m args below meth c ρs ρ c0 w0 H lc _ locs cells slots C hS hL hrest hR h1 h2 h3)
