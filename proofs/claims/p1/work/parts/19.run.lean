/-! ===== one step of the abstract machine ===== -/
def on1 (s : List Vl) (f : Vl → List Vl → Prop) : Prop := match s with
  | v :: r => f v r
  | [] => False
def onI (v : Vl) (f : Int → Prop) : Prop := match v with
  | .inl z => f z
  | _ => False
def onL (v : Vl) (f : Int → Prop) : Prop := match v with
  | .inr (.inl z) => f z
  | _ => False
def onR (v : Vl) (f : Option Nm → Prop) : Prop := match v with
  | .inr (.inr (.inl z)) => f z
  | _ => False
def onS {α : Type} (z : Option α) (f : α → Prop) : Prop := match z with
  | some a => f a
  | none => False
/-- an object's or an array's name -/
def onN (v : Vl) (f : Nm → Prop) : Prop := match v with
  | .inr (.inr (.inl (some n))) => f n
  | _ => False
theorem on1_mono {s : List Vl} {f f' : Vl → List Vl → Prop} (h : ∀ v r, f v r → f' v r) : on1 s f → on1 s f' := by
  cases s with
  | nil => exact id
  | cons v r => exact h v r
theorem onI_mono {v : Vl} {f f' : Int → Prop} (h : ∀ z, f z → f' z) : onI v f → onI v f' := by
  match v with
  | .inl z => exact h z
  | .inr _ => exact id
theorem onL_mono {v : Vl} {f f' : Int → Prop} (h : ∀ z, f z → f' z) : onL v f → onL v f' := by
  match v with
  | .inl z => exact id
  | .inr (.inl z) => exact h z
  | .inr (.inr _) => exact id
theorem onR_mono {v : Vl} {f f' : Option Nm → Prop} (h : ∀ z, f z → f' z) : onR v f → onR v f' := by
  match v with
  | .inl z => exact id
  | .inr (.inl z) => exact id
  | .inr (.inr (.inl z)) => exact h z
  | .inr (.inr (.inr _)) => exact id
theorem onN_mono {v : Vl} {f f' : Nm → Prop} (h : ∀ z, f z → f' z) : onN v f → onN v f' := by
  match v with
  | .inl z => exact id
  | .inr (.inl z) => exact id
  | .inr (.inr (.inl none)) => exact id
  | .inr (.inr (.inl (some z))) => exact h z
  | .inr (.inr (.inr _)) => exact id
theorem onS_mono {α : Type} {z : Option α} {f f' : α → Prop} (h : ∀ a, f a → f' a) : onS z f → onS z f' := by
  cases z with
  | none => exact id
  | some a => exact h a
theorem ite_mono {c : Prop} {hd : Decidable c} {a b a' b' : Prop} (ha : a → a') (hb : b → b') : (if c then a else b) → (if c then a' else b') := by
  split
  · exact ha
  · exact hb
theorem on1_e {s : List Vl} {f : Vl → List Vl → Prop} (h : on1 s f) : ∃ v r, s = v :: r ∧ f v r := by
  cases s with
  | nil => exact h.elim
  | cons v r => exact ⟨v, r, rfl, h⟩
theorem onI_e {v : Vl} {f : Int → Prop} (h : onI v f) : ∃ z, v = vI z ∧ f z := by
  match v, h with
  | .inl z, h => exact ⟨z, rfl, h⟩
  | .inr _, h => exact h.elim
theorem onL_e {v : Vl} {f : Int → Prop} (h : onL v f) : ∃ z, v = vL z ∧ f z := by
  match v, h with
  | .inl z, h => exact h.elim
  | .inr (.inl z), h => exact ⟨z, rfl, h⟩
  | .inr (.inr _), h => exact h.elim
theorem onR_e {v : Vl} {f : Option Nm → Prop} (h : onR v f) : ∃ z, v = vR z ∧ f z := by
  match v, h with
  | .inl z, h => exact h.elim
  | .inr (.inl z), h => exact h.elim
  | .inr (.inr (.inl z)), h => exact ⟨z, rfl, h⟩
  | .inr (.inr (.inr _)), h => exact h.elim
theorem onN_e {v : Vl} {f : Nm → Prop} (h : onN v f) : ∃ z, v = vR (some z) ∧ f z := by
  match v, h with
  | .inl z, h => exact h.elim
  | .inr (.inl z), h => exact h.elim
  | .inr (.inr (.inl none)), h => exact h.elim
  | .inr (.inr (.inl (some z))), h => exact ⟨z, rfl, h⟩
  | .inr (.inr (.inr _)), h => exact h.elim
theorem onS_e {α : Type} {z : Option α} {f : α → Prop} (h : onS z f) : ∃ a, z = some a ∧ f a := by
  cases z with
  | none => exact h.elim
  | some a => exact ⟨a, rfl, h⟩
def isLg (v : Vl) : Bool := match v with
  | .inr (.inl _) => true
  | _ => false
def noLb (ls : List Vl) (i : Nat) : Bool := match i with
  | 0 => true
  | j + 1 => !isLg (ls.getD j vJ)
theorem noLb_ok {ls : List Vl} {i : Nat} (h : noLb ls i = true) : noL ls i := by
  intro z hi hz
  cases i with
  | zero => exact hi rfl
  | succ j =>
    rw [Nat.add_sub_cancel] at hz
    have h' : (!isLg (ls.getD j vJ)) = true := h
    rw [List.getD_eq_getElem?_getD, hz] at h'
    cases h'
def isRf (v : Vl) : Bool := match v with
  | .inr (.inr (.inl _)) => true
  | .inr (.inr (.inr true)) => true
  | _ => false
theorem isRf_ok {v : Vl} (h : isRf v = true) : v = vX ∨ ∃ q, v = vR q := by
  match v, h with
  | .inr (.inr (.inl q)), _ => exact Or.inr ⟨q, rfl⟩
  | .inr (.inr (.inr true)), _ => exact Or.inl rfl
def cnd (c : ClassFile.Cond) (x y : Int) : Bool := match c with
  | .eq => decide (x = y)
  | .ne => decide (¬ x = y)
  | .lt => decide (x < y)
  | .ge => decide (y ≤ x)
  | .gt => decide (y < x)
  | .le => decide (x ≤ y)
def tg (pc : Nat) (off : Int) : Nat := ((pc : Int) + off).toNat
/-- a value into a field -/
def fitB (ci k : Nat) (v : Vl) : Bool := match v with
  | .inl z => !frf ci k && (decide (fyT ci k = .int) || (decide (fyT ci k = .boolean) && (decide (z = 0) || decide (z = 1))))
  | .inr (.inr (.inl _)) => frf ci k && (match fyT ci k with
    | .object _ => true
    | .array _ => true
    | _ => false)
  | _ => false
def putH (h : AH) (n : Nm) (k : Nat) (v : Vl) : AH := match v with
  | .inl z => (hT h, hN h, up2 (hI h) n k z, hR h, hc h, hw h)
  | .inr (.inr (.inl z)) => (hT h, hN h, hI h, up2 (hR h) n k z, hc h, hw h)
  | _ => h
def fpB (M : Mt) (ci k : Nat) : Bool := match clT[ci]? with
  | some (_, T, _) => !(T k).2.2.2 || (decide ((T k).1 = M.1.cls) && decide (M.1.name = "<init>"))
  | none => false
def avB (t cv : Nat) : Bool := match clT[cv]? with
  | some (C, _, _) => (match atT t with
    | .object E => decide (C = E) || (decide (E = "java/lang/Object") && decide (cv < 10))
    | _ => false)
  | none => false
def wtS (s : List Vl) : Nat := (s.map wgt).sum
def noJ (s : List Vl) : Bool := s.all (fun v => match v with
  | .inr (.inr (.inr false)) => false
  | _ => true)
/-- the callee's frame fits -/
def rmB (M N : Mt) (ls r : List Vl) : Bool := decide (wtS r + N.2.2.1 + 11 ≤ 30) && noJ r && decide (ls.length = M.2.2.1)
def prB (N : Mt) (n : Nat) : Bool := decide ((parseMethodDescriptor N.1.desc).map (fun q => q.parameters.length) = some n)
def onS1 (vs : List Vl) : Bool := vs.all oneW
/-- where an exception goes -/
def thr (M : Mt) (X : Xt) (P : Nx) (pc : Nat) (ls : List Vl) : Xt := fun k h => match M.2.2.2.2.1 with
  | [] => X k h
  | [(a1, b1, p1, t1)] => a1 ≤ pc ∧ pc < b1 ∧ M.2.2.2.2.2 = 11 ∧ t1 = 13 ∧ k = 1 ∧ P p1 ls [vX] h
  | [(a1, b1, p1, t1), (a2, b2, p2, t2)] => a1 ≤ pc ∧ pc < b1 ∧ a2 ≤ pc ∧ pc < b2 ∧ M.2.2.2.2.2 = 11 ∧ t1 = 13 ∧ t2 = 15 ∧ ((k = 1 ∧ P p1 ls [vX] h) ∨ (k = 2 ∧ P p2 ls [vX] h))
  | _ => False
theorem thr_mono {M : Mt} {X X' : Xt} {P P' : Nx} {pc : Nat} {ls : List Vl} (hX : ∀ k h, X k h → X' k h) (hP : ∀ a b c e, P a b c e → P' a b c e) : ∀ k h, thr M X P pc ls k h → thr M X' P' pc ls k h := by
  intro k h
  unfold thr
  split
  · exact hX k h
  · rintro ⟨q1, q2, q3, q4, q5, q6⟩
    exact ⟨q1, q2, q3, q4, q5, hP _ _ _ _ q6⟩
  · rintro ⟨q1, q2, q3, q4, q5, q6, q7, q8⟩
    refine ⟨q1, q2, q3, q4, q5, q6, q7, ?_⟩
    rcases q8 with ⟨e, z⟩ | ⟨e, z⟩
    · exact Or.inl ⟨e, hP _ _ _ _ z⟩
    · exact Or.inr ⟨e, hP _ _ _ _ z⟩
  · exact id
