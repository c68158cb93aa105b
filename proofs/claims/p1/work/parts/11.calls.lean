/-! ===== contracts and calls ===== -/
/-- the word of a method's code -/
def codeW (M : Mt) : Cond := match M.2.2.2.2.1 with
  | [] => .code M.1 M.2.1 M.2.2.1 M.2.2.2.1
  | hh => .codeWith M.1 M.2.1 M.2.2.1 M.2.2.2.1 hh
theorem codeW_spec {M : Mt} {s : State} {args : Array Value} {m : MethodId} (hn : s.methodNamed? M.1 = some m) (h : (codeW M).before args s = true) :
    ∃ meth c, s.vm.method? m = some meth ∧ meth.code = some c ∧ c.code = M.2.1 ∧ c.maxLocals = M.2.2.1 ∧ meth.sig.returnType = M.2.2.2.1 ∧ meth.locks = false ∧ c.exceptionTable.toList = tableOf M.2.2.2.2.1 ∧ parseMethodDescriptor M.1.desc = some meth.sig := by
  unfold codeW at h
  split at h
  · rename_i he
    obtain ⟨meth, c, h1, h2, h3, h4, h5, h6, h7, h8⟩ := Cond.code_spec hn h
    refine ⟨meth, c, h1, h2, h3, h4, h5, h6, ?_, h8⟩
    rw [he, Array.isEmpty_iff.mp h7]
    rfl
  · obtain ⟨m9, meth, c, hn9, h1, h2, h3, h4, h5, h6, h7, h8⟩ := Cond.codeWith_spec h
    cases Option.some.inj (hn9.symm.trans hn)
    refine ⟨meth, c, h1, h2, h3, h4, h6, h7, ?_, h8⟩
    rw [← h5, table_eq]
theorem codeW_named {M : Mt} {s : State} {args : Array Value} (h : (codeW M).before args s = true) : ∃ m, s.methodNamed? M.1 = some m := by
  unfold codeW at h
  split at h
  · exact Cond.code_named h
  · obtain ⟨m9, meth, c, hn9, -⟩ := Cond.codeWith_spec h
    exact ⟨m9, hn9⟩
/-- a method whose code stands in the tables -/
def MV (M : Mt) : Prop := plainName M.1.cls = true ∧ (M.1.cls ≠ "java/lang/invoke/MethodHandle" ∧ M.1.cls ≠ "java/lang/invoke/VarHandle") ∧ codeW M ∈ lw_tbl ∧ goodWord (codeW M) = true ∧ Cond.initialized M.1.cls ∈ lw_tbl
def PcX (g : Gt) (ρ : Nm → Option Nat) (vs : List Vl) (h : AH) : Array Value → State → Prop := fun a s => ∃ xs, a = List.toArray xs ∧ SR ρ vs xs ∧ (gs g).WarmedH s.vm ∧ Rep g ρ h s.heap
/-- the contract: from these arguments and this heap the method comes to its end as K and X say -/
def CT (g : Gt) (d : Nat) (M : Mt) (vs : List Vl) (h : AH) (K : Kt) (X : Xt) : Prop := ∀ ρ, MetFree (gl g) M.1 (headSpec [codeW M] (rmv d (hc h) (hw h))) (PcX g ρ vs h) (fun _ _ _ _ _ => True) (fun _ s o t => Fnl g ρ K X s (hc h) (hw h) o t)
def entry (vs : List Vl) (n : Nat) : List Vl := vs ++ List.replicate (n - vs.length) vJ
theorem SR_len {ρ : Nm → Option Nat} : ∀ {vs : List Vl} {xs : List Value}, SR ρ vs xs → vs.length = xs.length
  | [], [], _ => rfl
  | _ :: _, _ :: _, k => by simp [SR_len k.2]
  | [], _ :: _, k => k.elim
  | _ :: _, [], k => k.elim
theorem SR_get {ρ : Nm → Option Nat} : ∀ {vs : List Vl} {xs : List Value}, SR ρ vs xs → ∀ (i : Nat) (v : Vl), vs[i]? = some v → ∃ x, xs[i]? = some x ∧ VR ρ v x
  | [], [], _, i, v, h => by simp at h
  | _ :: _, x :: _, k, 0, v, h => ⟨x, rfl, by cases h; exact k.1⟩
  | _ :: _, _ :: _, k, i + 1, v, h => SR_get k.2 i v h
  | [], _ :: _, k, _, _, _ => k.elim
  | _ :: _, [], k, _, _, _ => k.elim
theorem SR_one {ρ : Nm → Option Nat} : ∀ {vs : List Vl} {xs : List Value}, SR ρ vs xs → (∀ v ∈ vs, oneW v = true) → ∀ x ∈ xs, x.category = 1
  | [], [], _, _, _, h => nomatch h
  | v :: _, x :: _, k, ho, y, h => by
    rcases List.mem_cons.mp h with rfl | h
    · exact VR_one k.1 (ho v List.mem_cons_self)
    · exact SR_one k.2 (fun w hw => ho w (List.mem_cons_of_mem _ hw)) y h
  | [], _ :: _, k, _, _, _ => k.elim
  | _ :: _, [], k, _, _, _ => k.elim
theorem SR_app {ρ : Nm → Option Nat} : ∀ {vs us : List Vl} {xs : List Value}, SR ρ (vs ++ us) xs → ∃ ys zs, xs = ys ++ zs ∧ SR ρ vs ys ∧ SR ρ us zs
  | [], us, xs, k => ⟨[], xs, rfl, trivial, k⟩
  | v :: vs, us, [], k => k.elim
  | v :: vs, us, x :: xs, k => by
    obtain ⟨ys, zs, rfl, h1, h2⟩ := SR_app k.2
    exact ⟨x :: ys, zs, rfl, ⟨k.1, h1⟩, h2⟩
theorem SR_app2 {ρ : Nm → Option Nat} : ∀ {vs us : List Vl} {xs ys : List Value}, SR ρ vs xs → SR ρ us ys → SR ρ (vs ++ us) (xs ++ ys)
  | [], us, [], ys, _, k => k
  | v :: vs, us, x :: xs, ys, h, k => ⟨h.1, SR_app2 h.2 k⟩
  | [], _, _ :: _, _, k, _ => k.elim
  | _ :: _, _, [], _, k, _ => k.elim
theorem SR_rev {ρ : Nm → Option Nat} : ∀ {vs : List Vl} {xs : List Value}, SR ρ vs xs → SR ρ vs.reverse xs.reverse
  | [], [], _ => trivial
  | v :: vs, x :: xs, k => by
    rw [List.reverse_cons, List.reverse_cons]
    exact SR_app2 (SR_rev k.2) ⟨k.1, trivial⟩
  | [], _ :: _, k => k.elim
  | _ :: _, [], k => k.elim
theorem LR_entry {ρ : Nm → Option Nat} {vs : List Vl} {xs : List Value} {n : Nat} (k : SR ρ vs xs) (ho : ∀ v ∈ vs, oneW v = true) (hn : vs.length ≤ n) : LR ρ (entry vs n) ((xs.map Slot.val ++ List.replicate (n - xs.length) Slot.unset).toArray) := by
  have hl := SR_len k
  have hcat := SR_one k ho
  have hget : ∀ (i : Nat) (z : Slot), ((xs.map Slot.val ++ List.replicate (n - xs.length) Slot.unset).toArray)[i]? = some z → z = .unset ∨ ∃ x ∈ xs, z = .val x := by
    intro i z hz
    rw [List.getElem?_toArray] at hz
    rcases List.mem_append.mp (List.mem_of_getElem? hz) with h | h
    · obtain ⟨x, hx, rfl⟩ := List.mem_map.mp h
      exact Or.inr ⟨x, hx, rfl⟩
    · exact Or.inl (List.eq_of_mem_replicate h)
  refine ⟨by simp [entry, hl], ⟨fun i v hv hc => ?_, fun i hi => ?_⟩, fun i v hi hv => ?_⟩
  · rcases hget i _ hv with q | ⟨x, hx, q⟩
    · cases q
    · cases q
      rw [hcat _ hx] at hc
      cases hc
  · rcases hget i _ hi with q | ⟨x, hx, q⟩ <;> cases q
  · unfold entry at hi
    by_cases hlt : i < vs.length
    · rw [List.getElem?_append_left hlt] at hi
      obtain ⟨x, hx, hvx⟩ := SR_get k i v hi
      refine ⟨x, ?_, hvx⟩
      rw [List.getElem?_toArray, List.getElem?_append_left (by simp; omega), List.getElem?_map, hx]
      rfl
    · rw [List.getElem?_append_right (by omega)] at hi
      have := List.eq_of_mem_replicate (List.mem_of_getElem? hi)
      exact absurd this hv
/-- a body that is walked from its entry keeps the contract -/
theorem CT.of {g : Gt} {d : Nat} {M : Mt} {vs : List Vl} {h : AH} {K : Kt} {X : Xt} (hV : MV M) (ho : ∀ v ∈ vs, oneW v = true) (hn : vs.length ≤ M.2.2.1) (k : SW g d M K X 0 (entry vs M.2.2.1) [] h) : CT g d M vs h K X := by
  intro ρ
  refine MetFree.of_bodyS (code := M.2.1) (maxLocals := M.2.2.1) (ret := M.2.2.2.1) hV.1 ?_ ?_
  · intro args s m hp hnm
    obtain ⟨meth, c, h1, h2, h3, h4, h5, h6, -, -⟩ := codeW_spec hnm (atoms_spec (ws := [codeW M]) hp _ List.mem_cons_self)
    exact ⟨meth, c, h1, h2, h3, h4, h5, h6⟩
  · intro p e s m args below meth c s₁ B hml hP _
    obtain ⟨xs, rfl, hxs, hW, hR⟩ := hP
    have hh0 : s₁.heap = s.heap := by rw [B.state]; rfl
    obtain ⟨meth9, c9, h1, h2, h3, h4, h5, h6, h7, h8⟩ := codeW_spec B.named (atoms_spec (ws := [codeW M]) B.pre _ List.mem_cons_self)
    cases Option.some.inj (h1.symm.trans B.method)
    cases Option.some.inj (h2.symm.trans (Stand.of_body B).code)
    have C : Cx g M p s m meth c := ⟨B.exec, B.bytes, hml, B.returns, B.notSynchronized, findClass_of_methodNamed B.named, hW, h7, (name_of_methodNamed B.named B.method).1⟩
    have hw := k p e s m xs.toArray below meth c ρ ρ (hc h) (hw h) s.heap _ [] [] 0 0 C (Sb.rf ρ) (LR_entry hxs ho hn) trivial hR (by omega) (by omega) (fun q hq => by cases hq)
    rw [← entry_eq m xs (SR_one hxs ho)] at hw
    obtain ⟨t, a1, o, b1, b2, b3⟩ := hw s₁ hh0 (Stand.of_body B)
    exact ⟨t, o, a1, b1, b2, b3⟩
def xPre (g : Gt) (R : Room) (ρ : Nm → Option Nat) (vs : List Vl) (h : AH) : Pt → Array Value → Prop := fun A a => PcX g ρ vs h a A.U ∧ A.cells + hc h ≤ R.cells ∧ A.slots + hw h ≤ R.slots
/-- the point behind the call -/
def xPt (g : Gt) (ρ : Nm → Option Nat) (h : AH) (A B : Pt) (h' : AH) (ρ' : Nm → Option Nat) : Prop := Sb ρ ρ' ∧ Rep g ρ' h' B.U.heap ∧ (∃ L, B.locs = A.locs ++ L ∧ ∀ q ∈ L, nw g q.base) ∧ B.cells = A.cells + (hc h - hc h') ∧ B.slots = A.slots + (hw h - hw h') ∧ hc h' ≤ hc h ∧ hw h' ≤ hw h
def xPost (g : Gt) (ρ : Nm → Option Nat) (h : AH) (K : Kt) : Pt → Array Value → Option Value → Pt → Prop := fun A _ v B => ∃ h' ρ', xPt g ρ h A B h' ρ' ∧ ((v = none ∧ K none h') ∨ ∃ v' x, v = some x ∧ VR ρ' v' x ∧ v' ≠ vJ ∧ K (some v') h')
def xPostX (g : Gt) (ρ : Nm → Option Nat) (h : AH) (X : Xt) : Pt → Array Value → Addr → Pt → Prop := fun A _ q B => ∃ h' ρ', xPt g ρ h A B h' ρ' ∧ ∃ k ce, X k h' ∧ B.U.heap[q]? = some ce ∧ ce.vm = .none ∧ (gs g).vm.findClass (exN k) = some ce.cls
theorem x_back {g : Gt} {d : Nat} {M : Mt} {vs : List Vl} {h : AH} {K : Kt} {X : Xt} {p : Program} {e : Env} {below : List Frame} {s : State} {sargs : Array Value} {R : Room} {W9 : Nat} {ρ : Nm → Option Nat} (hG : Gd g) (hWs : (gs g).WarmedH s.vm) (hV : MV M) (hC : CT g d M vs h K X)
    (hframes : d + 1 ≤ R.frames) (hlocals : W9 + (M.2.2.1 + 11) + (30 * d + 128) ≤ R.locals) : vx_Back (gl g) R p e below s sargs M.1 3 W9 (xPre g R ρ vs h) (xPost g ρ h K) (xPostX g ρ h X) := by
  intro m meth c A g9 ig mk a X0 hg hsize hdg hW hn hp
  have hWA : (gs g).WarmedH A.U.vm := State.WarmedH.trans hWs X0.warmed
  have h2 : (codeW M).before a A.U = true := hG.wd hWA hV.2.2.1 hV.2.2.2.1
  have h1 : (headSpec [codeW M] (rmv d (hc h) (hw h))).pre.before a A.U = true := atoms_intro fun w hw => by rw [List.mem_singleton.mp hw]; exact h2
  have h3 : (Cond.initialized M.1.cls).before a A.U = true := hG.wd hWA hV.2.2.2.2 rfl
  obtain ⟨hPc, h4, h5⟩ := hp
  obtain ⟨U, Ls, c0, s0⟩ := A
  dsimp only [Pt.U, Pt.locs, Pt.cells, Pt.slots] at h1 h2 h3 h4 h5 X0 hn hPc ⊢
  obtain ⟨methY, cY, hmY, hcY, -, hlY, -, -, -, -⟩ := codeW_spec hn h2
  obtain ⟨kY, hkY, -⟩ := className_of_methodNamed hn
  have hinitY : kY.init = .initialized := Cond.initialized_spec (findClass_of_methodNamed hn) hkY h3
  have hA : At U g9.method c below := by rw [hg]; exact X0.here
  have hPc' : PcX g ρ vs h a (U.calling g9 mk a) := hPc
  have happ : (headSpec [codeW M] (rmv d (hc h) (hw h))).appliesLoose M.1 e.platform (U.calling g9 mk a) = true :=
    Spec.appliesLoose_calling (g := g9) hA hdg hn hkY hinitY
      (X0.room_calling (g := g9) (R' := rmv d (hc h) (hw h)) hsize hmY hcY hframes (by rw [hlY]; show _ + (30 * d + 128) ≤ _; omega) h4 h5) h1
  obtain ⟨mid, hmid⟩ := hA.above
  have hfr : (U.setTop g9).frames = (.java g9 :: mid) ++ below := by rw [State.frames_setTop' g9 hA.top, hmid]; rfl
  obtain ⟨o, s₂, hsteps, -, hend, hq⟩ := Steps.callFree (hC ρ) p X0.admits X0.cas X0.clock (acts := []) hfr happ hPc' trivial
  have hq' : Fnl g ρ K X (U.calling g9 mk a) (hc h) (hw h) o s₂ := hq
  rw [State.frames_setTop' g9 hA.top] at hend
  obtain ⟨g₀, hg0⟩ := Option.isSome_iff_exists.mp hA.top
  obtain ⟨r, hr⟩ := State.topJava?_eq_some.mp hg0
  have hr' : (({ U with heap := s₂.heap, slotsUsed := s₂.slotsUsed } : State).setVm s₂.vm).frames = .java g₀ :: r := hr
  obtain ⟨h', ρ', L, f1, f2, hW₂, hsm, hL, f6, f7, hout⟩ := hq'
  obtain ⟨e2, q2, q3, q4, q5, q6⟩ := id hsm
  have e3 : s₂ = ({ (U.calling g9 mk a).setFrames s₂.frames with heap := s₂.heap, slotsUsed := s₂.slotsUsed } : State).setVm s₂.vm := by
    have : s₂ = ({ s₂ with vm := (U.calling g9 mk a).vm } : State).setVm s₂.vm := rfl
    rw [e2] at this
    exact this
  have hW' : U.WarmedH s₂.vm := hW₂
  have hsame : U.sameButNew ({ U with heap := s₂.heap, slotsUsed := s₂.slotsUsed } : State) L (hc h - hc h') (hw h - hw h') := by
    refine ⟨?_, q2, q3, q4, q5, q6⟩
    obtain ⟨t, ht, -⟩ := State.frames_cons hr
    show ({ U with heap := s₂.heap, slotsUsed := s₂.slotsUsed } : State) = { U.setFrames U.frames with heap := s₂.heap, slotsUsed := s₂.slotsUsed }
    rw [State.setFrames_self ht]
  have hpt : xPt g ρ h ⟨U, Ls, c0, s0⟩ ⟨(({ U with heap := s₂.heap, slotsUsed := s₂.slotsUsed } : State).setVm s₂.vm), Ls ++ L, c0 + (hc h - hc h'), s0 + (hw h - hw h')⟩ h' ρ' := ⟨f1, f2, ⟨L, rfl, hL⟩, rfl, rfl, f6, f7⟩
  have hret : ∀ v, o = .returned v → ((v = none ∧ K none h') ∨ ∃ v' x, v = some x ∧ VR ρ' v' x ∧ v' ≠ vJ ∧ K (some v') h') → ∃ (v : Option Value) (B : Pt), Stand p (gl g) e R s m sargs below meth c B.U B.locs B.cells B.slots ∧ xPost g ρ h K ⟨U, Ls, c0, s0⟩ a v B ∧
      Steps p.tables e below (doInvoke e (U.setTop g9) [] mk a).1 (B.U.setTop { g9 with pc := g9.pc + 3, stack := v.toList ++ g9.stack }) := by
    rintro v rfl hv
    obtain ⟨c₂, i₂, len₂, hc₂, hd₂, hf₂⟩ := hend
    have hcc : c₂ = c := by
      have h1 : s₂.code? g9.method = U.code? g9.method := by
        rw [State.code?_eq, State.code?_eq, hW'.alike.method?]
      exact Option.some.inj (hc₂.symm.trans (h1.trans hA.code))
    subst hcc
    have hlen : len₂ = 3 := by rw [hdg] at hd₂; cases hd₂; rfl
    subst hlen
    have hs₂ : s₂ = (({ U with heap := s₂.heap, slotsUsed := s₂.slotsUsed } : State).setVm s₂.vm).setTop { g9 with pc := g9.pc + 3, stack := v.toList ++ g9.stack } := by
      refine e3.trans ?_
      rw [hf₂, State.calling_eq hA.top, State.setFrames_setFrames, State.setTop_of_frames _ hr', hr]
      rfl
    subst hg
    refine ⟨v, ⟨(({ U with heap := s₂.heap, slotsUsed := s₂.slotsUsed } : State).setVm s₂.vm), Ls ++ L, c0 + (hc h - hc h'), s0 + (hw h - hw h')⟩,
      ⟨X0.admits, X0.cas, X0.clock, X0.frames, X0.room, X0.hears, X0.method, X0.code, (X0.here.setHeapUsed s₂.heap s₂.slotsUsed).setVm hW'.alike, X0.tail, State.WarmedH.trans X0.warmed hW', X0.limits, X0.bytes, X0.same.trans (hsame.setVm s.vm)⟩,
      ⟨h', ρ', hpt, hv⟩, ?_⟩
    show Steps p.tables e below _ ((({ U with heap := s₂.heap, slotsUsed := s₂.slotsUsed } : State).setVm s₂.vm).setTop { g9 with pc := g9.pc + 3, stack := v.toList ++ g9.stack })
    rw [← hs₂]
    exact hsteps
  rcases hout with ⟨ho, hk⟩ | ⟨v, x, ho, hv, hj, hk⟩ | ⟨q, k, ce, ho, hk, hce, hcv, hcl⟩
  · exact Or.inl (hret none ho (Or.inl ⟨rfl, hk⟩))
  · exact Or.inl (hret (some x) ho (Or.inr ⟨v, x, rfl, hv, hj, hk⟩))
  · subst ho
    have hf₂ : s₂.frames = .throwing q :: .java g9 :: U.frames.tail := hend
    have hs₂ : s₂ = ((({ U with heap := s₂.heap, slotsUsed := s₂.slotsUsed } : State).setVm s₂.vm).setTop g9).pushFrame (.throwing q) := by
      refine e3.trans ?_
      rw [hf₂, State.calling_eq hA.top, State.setFrames_setFrames, State.pushFrame, State.frames_setTop _ hr', State.setTop_of_frames _ hr', State.setFrames_setFrames, hr]
      rfl
    subst hg
    refine Or.inr ⟨q, ⟨(({ U with heap := s₂.heap, slotsUsed := s₂.slotsUsed } : State).setVm s₂.vm), Ls ++ L, c0 + (hc h - hc h'), s0 + (hw h - hw h')⟩,
      ⟨X0.admits, X0.cas, X0.clock, X0.frames, X0.room, X0.hears, X0.method, X0.code, (X0.here.setHeapUsed s₂.heap s₂.slotsUsed).setVm hW'.alike, X0.tail, State.WarmedH.trans X0.warmed hW', X0.limits, X0.bytes, X0.same.trans (hsame.setVm s.vm)⟩,
      ⟨h', ρ', hpt, k, ce, hk, hce, hcv, hcl⟩, ?_⟩
    show Steps p.tables e below _ (((({ U with heap := s₂.heap, slotsUsed := s₂.slotsUsed } : State).setVm s₂.vm).setTop g9).pushFrame (.throwing q))
    rw [← hs₂]
    exact hsteps
