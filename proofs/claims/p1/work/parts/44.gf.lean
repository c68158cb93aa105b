/-! ===== the field on natural numbers ===== -/
theorem i32_nat {a : Nat} (h : a < 2147483648) : (Int32.ofInt (a : Int)).toBitVec = BitVec.ofNat 32 a := by
  rw [show Int32.ofInt (a : Int) = Int32.ofNat a from rfl]
  rfl
theorem bv_toInt {x : BitVec 32} (h : x.toNat < 2147483648) : x.toInt = (x.toNat : Int) := by
  rw [BitVec.toInt_eq_toNat_of_lt]
  omega
theorem bv_nat {a : Nat} (h : a < 2147483648) : (BitVec.ofNat 32 a).toNat = a := by
  rw [BitVec.toNat_ofNat]
  omega
theorem xor32_n {a b : Nat} (ha : a < 2147483648) (hb : b < 2147483648) : xor32 (a : Int) (b : Int) = ((a ^^^ b : Nat) : Int) := by
  have h3 : a ^^^ b < 2 ^ 31 := Nat.xor_lt_two_pow (by omega) (by omega)
  show ((Int32.ofInt (a : Int) ^^^ Int32.ofInt (b : Int)).toBitVec).toInt = _
  rw [Int32.toBitVec_xor, i32_nat ha, i32_nat hb]
  have e : (BitVec.ofNat 32 a ^^^ BitVec.ofNat 32 b).toNat = a ^^^ b := by rw [BitVec.toNat_xor, bv_nat ha, bv_nat hb]
  rw [bv_toInt (by rw [e]; omega), e]
theorem and32_n {a b : Nat} (ha : a < 2147483648) (hb : b < 2147483648) : and32 (a : Int) (b : Int) = ((a &&& b : Nat) : Int) := by
  have h3 : a &&& b < 2 ^ 31 := Nat.and_lt_two_pow _ (by omega)
  show ((Int32.ofInt (a : Int) &&& Int32.ofInt (b : Int)).toBitVec).toInt = _
  rw [Int32.toBitVec_and, i32_nat ha, i32_nat hb]
  have e : (BitVec.ofNat 32 a &&& BitVec.ofNat 32 b).toNat = a &&& b := by rw [BitVec.toNat_and, bv_nat ha, bv_nat hb]
  rw [bv_toInt (by rw [e]; omega), e]
theorem shl32_1 : ∀ a : Nat, a < 256 → shl32 (a : Int) 1 = ((2 * a : Nat) : Int) := by decide +kernel
theorem shr32_b : ∀ b : Nat, b < 256 → ∀ j : Nat, j < 8 → shr32 (b : Int) (j : Int) = ((b >>> j : Nat) : Int) := by decide +kernel
def gdn (v : Nat) : Nat := if Nat.ble (2 * v) 255 then 2 * v else Nat.xor (2 * v) 285
def gsn (a b v j : Nat) : Nat := if Nat.beq (Nat.land (Nat.shiftRight b j) 1) 1 then Nat.xor (gdn v) a else gdn v
def gmn (a b : Nat) : Nat → Nat → Nat
  | 0, v => v
  | j + 1, v => gmn a b j (gsn a b v j)
theorem gdn_lt {v : Nat} (h : v < 256) : gdn v < 256 := by
  unfold gdn
  by_cases q : Nat.ble (2 * v) 255 = true
  · rw [if_pos q]; have := Nat.le_of_ble_eq_true q; omega
  · rw [if_neg q]
    have : ∀ v : Nat, v < 256 → ¬ Nat.ble (2 * v) 255 = true → Nat.xor (2 * v) 285 < 256 := by decide +kernel
    exact this v h q
theorem gsn_lt {a b v j : Nat} (ha : a < 256) (h : v < 256) : gsn a b v j < 256 := by
  unfold gsn
  split
  · exact Nat.xor_lt_two_pow (n := 8) (gdn_lt h) ha
  · exact gdn_lt h
theorem gmn_lt {a b : Nat} (ha : a < 256) : ∀ (n v : Nat), v < 256 → gmn a b n v < 256
  | 0, _, h => h
  | n + 1, v, h => gmn_lt ha n (gsn a b v n) (gsn_lt ha h)
theorem gdb_n {v : Nat} (h : v < 256) : gdb (v : Int) = ((gdn v : Nat) : Int) := by
  unfold gdb gdn
  rw [shl32_1 v h]
  by_cases q : 2 * v ≤ 255
  · rw [if_pos (by omega), if_pos (Nat.ble_eq_true_of_le q)]
  · rw [if_neg (by omega), if_neg (fun z => q (Nat.le_of_ble_eq_true z))]
    exact xor32_n (b := 285) (by omega) (by decide)
theorem gst_n {a b v j : Nat} (ha : a < 256) (hb : b < 256) (hv : v < 256) (hj : j < 8) : gst (a : Int) (b : Int) (v : Int) (j : Int) = ((gsn a b v j : Nat) : Int) := by
  unfold gst gsn
  have hs : b >>> j ≤ b := Nat.shiftRight_le _ _
  rw [shr32_b b hb j hj, show (1 : Int) = ((1 : Nat) : Int) from rfl, and32_n (by omega) (by decide), gdb_n hv]
  by_cases q : Nat.land (Nat.shiftRight b j) 1 = 1
  · rw [if_neg (fun z => z (congrArg (fun x : Nat => (x : Int)) q)), if_pos (show Nat.beq (Nat.land (Nat.shiftRight b j) 1) 1 = true by rw [q]; rfl)]
    have := gdn_lt hv
    exact xor32_n (by omega) (by omega)
  · rw [if_pos (show ¬ ((((b >>> j) &&& 1 : Nat) : Int) = ((1 : Nat) : Int)) from fun z => q (Int.ofNat_inj.mp z)), if_neg (fun z => q (Nat.eq_of_beq_eq_true z))]
theorem gml_n {a b : Nat} (ha : a < 256) (hb : b < 256) : ∀ {n v : Nat}, n ≤ 8 → v < 256 → gml (a : Int) (b : Int) n (v : Int) = ((gmn a b n v : Nat) : Int)
  | 0, v, _, _ => rfl
  | n + 1, v, hn, hv => by
    show gml (a : Int) (b : Int) n (gst (a : Int) (b : Int) (v : Int) (n : Int)) = _
    rw [gst_n ha hb hv (by omega)]
    exact gml_n ha hb (by omega) (gsn_lt ha hv)
/-! ===== powers of x ===== -/
def pw : Nat → Nat
  | 0 => 1
  | e + 1 => gdn (pw e)
theorem pw_lt : ∀ e, pw e < 256
  | 0 => by decide
  | e + 1 => gdn_lt (pw_lt e)
def pwL : Nat → Nat → List Nat
  | 0, _ => []
  | n + 1, v => v :: pwL n (gdn v)
theorem pwL_get : ∀ (n v e i : Nat), v = pw e → i < n → (pwL n v)[i]? = some (pw (e + i))
  | n + 1, v, e, 0, hv, _ => by show some v = _; rw [hv]; rfl
  | n + 1, v, e, i + 1, hv, hi => by
    show (pwL n (gdn v))[i]? = _
    rw [pwL_get n (gdn v) (e + 1) i (by rw [hv]; rfl) (by omega), show e + 1 + i = e + (i + 1) by omega]
