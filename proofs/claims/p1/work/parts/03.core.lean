/-! ===== the abstract machine: names, values, heaps ===== -/
abbrev Nm : Type := List Int
/-- int, long, reference by its name (none: null), junk or some reference -/
abbrev Vl : Type := Int ⊕ (Int ⊕ (Option Nm ⊕ Bool))
def vI (x : Int) : Vl := Sum.inl x
def vL (x : Int) : Vl := Sum.inr (Sum.inl x)
def vR (x : Option Nm) : Vl := Sum.inr (Sum.inr (Sum.inl x))
def vJ : Vl := Sum.inr (Sum.inr (Sum.inr false))
def vX : Vl := Sum.inr (Sum.inr (Sum.inr true))
/-- kinds of cells; lengths; whole numbers; references; cells left; slots left -/
abbrev AH : Type := (Nm → Nat) × (Nm → Int) × (Nm → Int → Int) × (Nm → Int → Option Nm) × Nat × Nat
abbrev hT (h : AH) : Nm → Nat := h.1
abbrev hN (h : AH) : Nm → Int := h.2.1
abbrev hI (h : AH) : Nm → Int → Int := h.2.2.1
abbrev hR (h : AH) : Nm → Int → Option Nm := h.2.2.2.1
abbrev hc (h : AH) : Nat := h.2.2.2.2.1
abbrev hw (h : AH) : Nat := h.2.2.2.2.2
/-- a method: name, bytes, locals, what it returns, its table, the number of its own class -/
abbrev Mt : Type := MethodName × ByteArray × Nat × Option FieldType × List (Nat × Nat × Nat × Nat) × Nat
abbrev Kt : Type := Option Vl → AH → Prop
abbrev Xt : Type := Nat → AH → Prop
abbrev Nx : Type := Nat → List Vl → List Vl → AH → Prop
abbrev Ct : Type := Mt → List Vl → AH → Kt → Xt → Prop
def upN {α : Type} (f : Nm → α) (n : Nm) (v : α) : Nm → α := fun x => if x = n then v else f x
def upI {α : Type} (f : Int → α) (n : Int) (v : α) : Int → α := fun x => if x = n then v else f x
theorem upN_self {α : Type} (f : Nm → α) (n : Nm) (v : α) : upN f n v n = v := if_pos rfl
theorem upN_ne {α : Type} (f : Nm → α) {n x : Nm} (v : α) (h : x ≠ n) : upN f n v x = f x := if_neg h
theorem upI_self {α : Type} (f : Int → α) (n : Int) (v : α) : upI f n v n = v := if_pos rfl
theorem upI_ne {α : Type} (f : Int → α) {n x : Int} (v : α) (h : x ≠ n) : upI f n v x = f x := if_neg h
/-- one place of one row -/
def up2 {α : Type} (f : Nm → Int → α) (n : Nm) (j : Int) (v : α) : Nm → Int → α := upN f n (upI (f n) j v)
/-- names of what stood before the law began have a number below 0 ahead -/
def wr : Nm → Bool
  | [] => false
  | k :: _ => decide (0 ≤ k)
def w32 (x : Int) : Int := (Int32.ofInt x).toInt
def w64 (x : Int) : Int := (Int64.ofInt x).toInt
theorem w32_id {x : Int} (h1 : -2147483648 ≤ x) (h2 : x ≤ 2147483647) : w32 x = x := by
  unfold w32
  rw [Int32.toInt_ofInt]
  have e : ((Int32.size : Nat) : Int) = 4294967296 := rfl
  exact Int.bmod_eq_of_le (by omega) (by omega)
theorem w64_id {x : Int} (h1 : -9223372036854775808 ≤ x) (h2 : x ≤ 9223372036854775807) : w64 x = x := by
  unfold w64
  rw [Int64.toInt_ofInt]
  have e : ((Int64.size : Nat) : Int) = 18446744073709551616 := rfl
  exact Int.bmod_eq_of_le (by omega) (by omega)
theorem w32_toInt (y : Int32) : w32 y.toInt = y.toInt := by
  unfold w32; rw [Int32.ofInt_toInt]
theorem i32_add (a b : Int32) : (a + b).toInt = w32 (a.toInt + b.toInt) := by
  unfold w32; rw [Int32.ofInt_add, Int32.ofInt_toInt, Int32.ofInt_toInt]
theorem i32_sub (a b : Int32) : (a - b).toInt = w32 (a.toInt - b.toInt) := by
  unfold w32; rw [Int32.ofInt_sub, Int32.ofInt_toInt, Int32.ofInt_toInt]
theorem i32_mul (a b : Int32) : (a * b).toInt = w32 (a.toInt * b.toInt) := by
  unfold w32; rw [Int32.ofInt_mul, Int32.ofInt_toInt, Int32.ofInt_toInt]
theorem i64_add (a b : Int64) : (a + b).toInt = w64 (a.toInt + b.toInt) := by
  unfold w64; rw [Int64.ofInt_add, Int64.ofInt_toInt, Int64.ofInt_toInt]
theorem i64_mul (a b : Int64) : (a * b).toInt = w64 (a.toInt * b.toInt) := by
  unfold w64; rw [Int64.ofInt_mul, Int64.ofInt_toInt, Int64.ofInt_toInt]
/-- the operations of the machine on whole numbers, as numbers -/
def xor32 (a b : Int) : Int := (Int32.ofInt a ^^^ Int32.ofInt b).toInt
def and32 (a b : Int) : Int := (Int32.ofInt a &&& Int32.ofInt b).toInt
def shl32 (a b : Int) : Int := (Int32.ofInt a <<< (Int32.ofInt b &&& 31)).toInt
def shr32 (a b : Int) : Int := (Int32.ofInt a >>> (Int32.ofInt b &&& 31)).toInt
def rem64 (a b : Int) : Int := (Int64.ofInt a - Int64.ofInt a / Int64.ofInt b * Int64.ofInt b).toInt
def cmp64 (a b : Int) : Int := if a < b then -1 else if a = b then 0 else 1
/-! ===== the heap stands for it ===== -/
def VR (ρ : Nm → Option Nat) (v : Vl) (x : Value) : Prop := match v with
  | .inl z => ∃ y : Int32, x = .int y ∧ y.toInt = z
  | .inr (.inl z) => ∃ y : Int64, x = .long y ∧ y.toInt = z
  | .inr (.inr (.inl none)) => x = .null
  | .inr (.inr (.inl (some n))) => ∃ a, ρ n = some a ∧ x = .ref a
  | .inr (.inr (.inr false)) => True
  | .inr (.inr (.inr true)) => ∃ a, x = .ref a
def SR (ρ : Nm → Option Nat) : List Vl → List Value → Prop
  | [], [] => True
  | v :: vs, x :: xs => VR ρ v x ∧ SR ρ vs xs
  | _, _ => False
/-- the local variables: junk says nothing -/
def LR (ρ : Nm → Option Nat) (ls : List Vl) (lc : Array Slot) : Prop := lc.size = ls.length ∧ lv_wf lc ∧ ∀ (i : Nat) (v : Vl), ls[i]? = some v → v ≠ vJ → ∃ x, lc[i]? = some (.val x) ∧ VR ρ v x
def Sb (ρ ρ' : Nm → Option Nat) : Prop := ∀ n a, ρ n = some a → ρ' n = some a
theorem Sb.rf (ρ : Nm → Option Nat) : Sb ρ ρ := fun _ _ h => h
theorem Sb.tr {ρ ρ' ρ'' : Nm → Option Nat} (h : Sb ρ ρ') (h' : Sb ρ' ρ'') : Sb ρ ρ'' := fun n a x => h' n a (h n a x)
theorem VR.up {ρ ρ' : Nm → Option Nat} (h : Sb ρ ρ') {v : Vl} {x : Value} (k : VR ρ v x) : VR ρ' v x := by
  match v, k with
  | .inl z, k => exact k
  | .inr (.inl z), k => exact k
  | .inr (.inr (.inl none)), k => exact k
  | .inr (.inr (.inl (some n))), ⟨a, k1, k2⟩ => exact ⟨a, h n a k1, k2⟩
  | .inr (.inr (.inr false)), k => exact k
  | .inr (.inr (.inr true)), k => exact k
theorem SR.up {ρ ρ' : Nm → Option Nat} (h : Sb ρ ρ') : ∀ {vs : List Vl} {xs : List Value}, SR ρ vs xs → SR ρ' vs xs
  | [], [], k => k
  | _ :: _, _ :: _, k => ⟨k.1.up h, k.2.up h⟩
  | [], _ :: _, k => k.elim
  | _ :: _, [], k => k.elim
theorem LR.up {ρ ρ' : Nm → Option Nat} (h : Sb ρ ρ') {ls : List Vl} {lc : Array Slot} (k : LR ρ ls lc) : LR ρ' ls lc :=
  ⟨k.1, k.2.1, fun i v hi hv => by obtain ⟨x, h1, h2⟩ := k.2.2 i v hi hv; exact ⟨x, h1, h2.up h⟩⟩
theorem VR_i {ρ : Nm → Option Nat} {z : Int} {x : Value} (h : VR ρ (vI z) x) : ∃ y : Int32, x = .int y ∧ y.toInt = z := h
theorem VR_l {ρ : Nm → Option Nat} {z : Int} {x : Value} (h : VR ρ (vL z) x) : ∃ y : Int64, x = .long y ∧ y.toInt = z := h
theorem VR_n {ρ : Nm → Option Nat} {x : Value} (h : VR ρ (vR none) x) : x = .null := h
theorem VR_r {ρ : Nm → Option Nat} {n : Nm} {x : Value} (h : VR ρ (vR (some n)) x) : ∃ a, ρ n = some a ∧ x = .ref a := h
theorem VR_x {ρ : Nm → Option Nat} {x : Value} (h : VR ρ vX x) : ∃ a, x = .ref a := h
theorem VR_iI {ρ : Nm → Option Nat} (y : Int32) : VR ρ (vI y.toInt) (.int y) := ⟨y, rfl, rfl⟩
theorem VR_lL {ρ : Nm → Option Nat} (y : Int64) : VR ρ (vL y.toInt) (.long y) := ⟨y, rfl, rfl⟩
/-- component types of the array kinds 1 to 8 (20: the law's script) -/
def atT : Nat → FieldType
  | 1 => .int
  | 2 => .boolean
  | 3 => .long
  | 4 => .object "FriendBackup$House"
  | 5 => .array .int
  | 6 => .object "FriendBackup$Chunk"
  | 7 => .object "FriendBackup$Piece"
  | _ => .object "java/lang/Object"
def elv (t : Nat) (I : Int → Int) (R : Int → Option Nm) (j : Int) : Vl := if t = 3 then vL (I j) else if t < 3 then vI (I j) else vR (R j)
