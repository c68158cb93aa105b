/-! ===== a method's body, somewhere on its way ===== -/
def rmv (d c w : Nat) : Room := { frames := d, cells := c, slots := w, locals := 30 * d + 128 }
/-- the invocation: its code, its table, the tables since the law's start -/
def Cx (g : Gt) (M : Mt) (p : Program) (s : State) (m : MethodId) (meth : Method) (c : Code) : Prop :=
  p.tables.exec = Jvm.exec ∧ c.code = M.2.1 ∧ c.maxLocals = M.2.2.1 ∧ meth.sig.returnType = M.2.2.2.1 ∧ meth.locks = false ∧ s.vm.findClass M.1.cls = some m.cls ∧ (gs g).WarmedH s.vm ∧ c.exceptionTable.toList = tableOf M.2.2.2.2.1 ∧ meth.name = M.1.name
/-- how an invocation ends: K of an answer, X of an exception -/
def Fnl (g : Gt) (ρs : Nm → Option Nat) (K : Kt) (X : Xt) (s : State) (c0 w0 : Nat) (o : Outcome) (t : State) : Prop :=
  ∃ (h : AH) (ρ : Nm → Option Nat) (L : List Loc), Sb ρs ρ ∧ Rep g ρ h t.heap ∧ s.WarmedH t.vm ∧ s.sameButNew ({ t with vm := s.vm } : State) L (c0 - hc h) (w0 - hw h) ∧ (∀ q ∈ L, nw g q.base) ∧ hc h ≤ c0 ∧ hw h ≤ w0 ∧
    ((o = .returned none ∧ K none h) ∨ (∃ v x, o = .returned (some x) ∧ VR ρ v x ∧ v ≠ vJ ∧ K (some v) h) ∨
     (∃ q k ce, o = .threw q ∧ X k h ∧ t.heap[q]? = some ce ∧ ce.vm = .none ∧ (gs g).vm.findClass (exN k) = some ce.cls))
def Qf (g : Gt) (ρs : Nm → Option Nat) (K : Kt) (X : Xt) (s : State) (below : List Frame) (c0 w0 : Nat) : State → Prop := fun t => ∃ o, t.status = .running ∧ Ended t below o ∧ Fnl g ρs K X s c0 w0 o t
/-- at pc with these locals, this stack, this heap: the method comes to its end as K and X say -/
def SW (g : Gt) (d : Nat) (M : Mt) (K : Kt) (X : Xt) : Nx := fun pc ls stk h =>
  ∀ (p : Program) (e : Env) (s : State) (m : MethodId) (args : Array Value) (below : List Frame) (meth : Method) (c : Code) (ρs ρ : Nm → Option Nat) (c0 w0 : Nat) (H : Heap) (lc : Array Slot) (st : List Value) (locs : List Loc) (cells slots : Nat),
    Cx g M p s m meth c → Sb ρs ρ → LR ρ ls lc → SR ρ stk st → Rep g ρ h H → cells + hc h ≤ c0 → slots + hw h ≤ w0 → (∀ q ∈ locs, nw g q.base) →
    W p (gl g) e (rmv d c0 w0) s m args below meth c H locs cells slots (Qf g ρs K X s below c0 w0) (F0 m pc lc st)
theorem SR_cons {ρ : Nm → Option Nat} {v : Vl} {vs : List Vl} : ∀ {xs : List Value}, SR ρ (v :: vs) xs → ∃ x xs', xs = x :: xs' ∧ VR ρ v x ∧ SR ρ vs xs'
  | [], k => k.elim
  | x :: xs, k => ⟨x, xs, rfl, k.1, k.2⟩
theorem SR_nil {ρ : Nm → Option Nat} : ∀ {xs : List Value}, SR ρ [] xs → xs = []
  | [], _ => rfl
  | _ :: _, k => k.elim
/-- values of one word, and never junk -/
def oneW (v : Vl) : Bool := match v with
  | .inl _ => true
  | .inr (.inl _) => false
  | .inr (.inr (.inl _)) => true
  | .inr (.inr (.inr b)) => b
theorem VR_one {ρ : Nm → Option Nat} {v : Vl} {x : Value} (h : VR ρ v x) (h1 : oneW v = true) : x.category = 1 := by
  match v, h, h1 with
  | .inl z, ⟨y, e, _⟩, _ => rw [e]; rfl
  | .inr (.inl z), _, h1 => cases h1
  | .inr (.inr (.inl none)), e, _ => rw [show x = .null from e]; rfl
  | .inr (.inr (.inl (some n))), ⟨a, _, e⟩, _ => rw [e]; rfl
  | .inr (.inr (.inr true)), ⟨a, e⟩, _ => rw [e]; rfl
  | .inr (.inr (.inr false)), _, h1 => cases h1
theorem VR_two {ρ : Nm → Option Nat} {v : Vl} {x : Value} (h : VR ρ v x) (hj : v ≠ vJ) (h2 : x.category = 2) : ∃ z, v = vL z := by
  match v, h with
  | .inl z, ⟨y, e, _⟩ => rw [e] at h2; cases h2
  | .inr (.inl z), _ => exact ⟨z, rfl⟩
  | .inr (.inr (.inl none)), e => rw [show x = .null from e] at h2; cases h2
  | .inr (.inr (.inl (some n))), ⟨a, _, e⟩ => rw [e] at h2; cases h2
  | .inr (.inr (.inr true)), ⟨a, e⟩ => rw [e] at h2; cases h2
  | .inr (.inr (.inr false)), _ => exact absurd rfl hj
theorem LR.get {ρ : Nm → Option Nat} {ls : List Vl} {lc : Array Slot} (k : LR ρ ls lc) {i : Nat} {v : Vl} (h : ls[i]? = some v) (hj : v ≠ vJ) : ∃ x, lc[i]? = some (.val x) ∧ VR ρ v x := k.2.2 i v h hj
/-- no long lies just below the place -/
def noL (ls : List Vl) (i : Nat) : Prop := ∀ z, i ≠ 0 → ls[i - 1]? ≠ some (vL z)
theorem LR.set1 {ρ : Nm → Option Nat} {ls : List Vl} {lc : Array Slot} (k : LR ρ ls lc) {i : Nat} (hi : i < ls.length) (hn : noL ls i) {v : Vl} {x : Value} (hv : VR ρ v x) (hc : x.category = 1) :
    ∃ lc', storeLocals lc i x = some lc' ∧ LR ρ (ls.set i v) lc' := by
  obtain ⟨k1, k2, k3⟩ := k
  obtain ⟨lc', e, h1, h2, h3⟩ := lv_store1 (ls := lc) (nL := ls.length) (l := []) (i := i) (v := x) ⟨k1, k2, fun q hq => by cases hq⟩ hi hc
  refine ⟨lc', e, by rw [List.length_set]; exact h1, h2, fun j w hj hw => ?_⟩
  by_cases hji : j = i
  · subst hji
    rw [List.getElem?_set_self hi] at hj
    cases hj
    exact ⟨x, h3 (j, x) List.mem_cons_self, hv⟩
  · rw [List.getElem?_set_ne (Ne.symm hji)] at hj
    obtain ⟨y, hy, hvy⟩ := k3 j w hj hw
    obtain ⟨lc2, e2, -, -, g3⟩ := lv_store1 (ls := lc) (nL := ls.length) (l := [(j, y)]) (i := i) (v := x) ⟨k1, k2, fun q hq => by rw [List.mem_singleton.mp hq]; exact hy⟩ hi hc
    have : lc2 = lc' := Option.some.inj (e2.symm.trans e)
    subst this
    refine ⟨y, g3 (j, y) (List.mem_cons_of_mem _ (List.mem_filter.mpr ⟨List.mem_singleton.mpr rfl, ?_⟩)), hvy⟩
    have c2 : ¬ (j + 1 = i ∧ y.category = 2) := by
      rintro ⟨z1, z2⟩
      obtain ⟨z, rfl⟩ := VR_two hvy hw z2
      exact hn z (by omega) (by rw [← z1, Nat.add_sub_cancel]; exact hj)
    by_cases c3 : j + 1 = i
    · have : ¬ y.category = 2 := fun z => c2 ⟨c3, z⟩
      simp [hji, this]
    · simp [hji, c3]
theorem LR.set2 {ρ : Nm → Option Nat} {ls : List Vl} {lc : Array Slot} (k : LR ρ ls lc) {i : Nat} (hi : i + 1 < ls.length) (hn : noL ls i) {v : Vl} {x : Value} (hv : VR ρ v x) (hc : x.category = 2) :
    ∃ lc', storeLocals lc i x = some lc' ∧ LR ρ ((ls.set i v).set (i + 1) vJ) lc' := by
  obtain ⟨k1, k2, k3⟩ := k
  obtain ⟨lc', e, h1, h2, h3⟩ := lv_store2 (ls := lc) (nL := ls.length) (l := []) (i := i) (v := x) ⟨k1, k2, fun q hq => by cases hq⟩ hi hc
  refine ⟨lc', e, by rw [List.length_set, List.length_set]; exact h1, h2, fun j w hj hw => ?_⟩
  by_cases hj1 : j = i + 1
  · subst hj1
    rw [List.getElem?_set_self (by rw [List.length_set]; exact hi)] at hj
    cases hj
    exact absurd rfl hw
  rw [List.getElem?_set_ne (Ne.symm hj1)] at hj
  by_cases hji : j = i
  · subst hji
    rw [List.getElem?_set_self (by omega)] at hj
    cases hj
    exact ⟨x, h3 (j, x) List.mem_cons_self, hv⟩
  · rw [List.getElem?_set_ne (Ne.symm hji)] at hj
    obtain ⟨y, hy, hvy⟩ := k3 j w hj hw
    obtain ⟨lc2, e2, -, -, g3⟩ := lv_store2 (ls := lc) (nL := ls.length) (l := [(j, y)]) (i := i) (v := x) ⟨k1, k2, fun q hq => by rw [List.mem_singleton.mp hq]; exact hy⟩ hi hc
    have : lc2 = lc' := Option.some.inj (e2.symm.trans e)
    subst this
    refine ⟨y, g3 (j, y) (List.mem_cons_of_mem _ (List.mem_filter.mpr ⟨List.mem_singleton.mpr rfl, ?_⟩)), hvy⟩
    have c2 : ¬ (j + 1 = i ∧ y.category = 2) := by
      rintro ⟨z1, z2⟩
      obtain ⟨z, rfl⟩ := VR_two hvy hw z2
      exact hn z (by omega) (by rw [← z1, Nat.add_sub_cancel]; exact hj)
    by_cases c3 : j + 1 = i
    · have : ¬ y.category = 2 := fun z => c2 ⟨c3, z⟩
      simp [hji, hj1, this]
    · simp [hji, hj1, c3]
