def nP (N : Mt) : Nat := ((parseMethodDescriptor N.1.desc).map (fun q => q.parameters.length)).getD 0
def atK (q : ArrayType) : Nat := match newarray.typeOf q with
  | .int => 1
  | .boolean => 2
  | .long => 3
  | _ => 0
def retI (M : Mt) (z : Int) : Bool := decide (M.2.2.2.1 = some .int) || (decide (M.2.2.2.1 = some .boolean) && (decide (z = 0) || decide (z = 1)))
def retR (M : Mt) : Bool := match M.2.2.2.1 with
  | some (.object _) => true
  | some (.array _) => true
  | _ => false
/-- natives' room -/
def ntB (M : Mt) (d : Nat) (ls r : List Vl) : Bool := decide (wtS r ≤ 18) && noJ r && decide (ls.length = M.2.2.1)
def bI (P : Nx) (pc : Nat) (ls stk : List Vl) (h : AH) (f : Int → Int → Int) : Prop := on1 stk fun y r => on1 r fun x r => onI y fun b => onI x fun a => P (pc + 1) ls (vI (f a b) :: r) h
def bL (P : Nx) (pc : Nat) (ls stk : List Vl) (h : AH) (f : Int → Int → Vl) : Prop := on1 stk fun y r => on1 r fun x r => onL y fun b => onL x fun a => P (pc + 1) ls (f a b :: r) h
def stI (P : Nx) (pc n : Nat) (ls stk : List Vl) (h : AH) (i : Nat) : Prop := on1 stk fun v r => onI v fun z => i < ls.length ∧ noLb ls i = true ∧ P (pc + n) (ls.set i (vI z)) r h
def stR (P : Nx) (pc n : Nat) (ls stk : List Vl) (h : AH) (i : Nat) : Prop := on1 stk fun v r => isRf v = true ∧ i < ls.length ∧ noLb ls i = true ∧ P (pc + n) (ls.set i v) r h
def go2 (P : Nx) (pc : Nat) (off : Int) (ls r : List Vl) (h : AH) (c : Bool) : Prop := 0 ≤ (pc : Int) + off ∧ if c = true then P (tg pc off) ls r h else P (pc + 3) ls r h
def doCall (call : Ct) (M : Mt) (X : Xt) (P : Nx) (pc : Nat) (ls r : List Vl) (h : AH) (N : Mt) (vs : List Vl) : Prop := rmB M N ls r = true ∧ onS1 vs = true ∧ call N vs h (fun v h' => P (pc + 3) ls (v.toList ++ r) h') (thr M X P pc ls)
def acB (c : ACond) (x y : Option Nm) : Bool := match c with
  | .eq => decide (x = y)
  | .ne => decide (¬ x = y)
def iarm (call : Ct) (d : Nat) (M : Mt) (K : Kt) (X : Xt) (P : Nx) (pc : Nat) (ls stk : List Vl) (h : AH) (i : Instr) (n0 : Nat) : Prop :=
  match i with
  | .iconst n => n0 = 1 ∧ (P (pc + 1) ls (vI (Int32.ofInt n).toInt :: stk) h)
  | .bipush n => n0 = 2 ∧ (P (pc + 2) ls (vI (Int8.ofInt n).toInt32.toInt :: stk) h)
  | .sipush n => n0 = 3 ∧ (P (pc + 3) ls (vI (Int16.ofInt n).toInt32.toInt :: stk) h)
  | .lconst n => n0 = 1 ∧ (P (pc + 1) ls (vL (Int64.ofNat (n : Nat)).toInt :: stk) h)
  | .aconst_null => n0 = 1 ∧ (P (pc + 1) ls (vR none :: stk) h)
  | .iload_n j => n0 = 1 ∧ (onS ls[(j : Nat)]? fun v => onI v fun z => P (pc + 1) ls (vI z :: stk) h)
  | .iload j => n0 = 2 ∧ (onS ls[j]? fun v => onI v fun z => P (pc + 2) ls (vI z :: stk) h)
  | .lload j => n0 = 2 ∧ (onS ls[j]? fun v => onL v fun z => P (pc + 2) ls (vL z :: stk) h)
  | .aload_n j => n0 = 1 ∧ (onS ls[(j : Nat)]? fun v => onR v fun z => P (pc + 1) ls (vR z :: stk) h)
  | .aload j => n0 = 2 ∧ (onS ls[j]? fun v => onR v fun z => P (pc + 2) ls (vR z :: stk) h)
  | .istore_n j => n0 = 1 ∧ (stI P pc 1 ls stk h j)
  | .istore j => n0 = 2 ∧ (stI P pc 2 ls stk h j)
  | .astore_n j => n0 = 1 ∧ (stR P pc 1 ls stk h j)
  | .astore j => n0 = 2 ∧ (stR P pc 2 ls stk h j)
  | .lstore i => n0 = 2 ∧ (on1 stk fun v r => onL v fun z => i + 1 < ls.length ∧ noLb ls i = true ∧ P (pc + 2) ((ls.set i (vL z)).set (i + 1) vJ) r h)
  | .iinc i n => n0 = 3 ∧ (onS ls[i]? fun v => onI v fun z => noLb ls i = true ∧ P (pc + 3) (ls.set i (vI (w32 (z + n)))) stk h)
  | .iadd => n0 = 1 ∧ (bI P pc ls stk h (fun a b => w32 (a + b)))
  | .isub => n0 = 1 ∧ (bI P pc ls stk h (fun a b => w32 (a - b)))
  | .imul => n0 = 1 ∧ (bI P pc ls stk h (fun a b => w32 (a * b)))
  | .iand => n0 = 1 ∧ (bI P pc ls stk h and32)
  | .ixor => n0 = 1 ∧ (bI P pc ls stk h xor32)
  | .ishl => n0 = 1 ∧ (bI P pc ls stk h shl32)
  | .ishr => n0 = 1 ∧ (bI P pc ls stk h shr32)
  | .idiv => n0 = 1 ∧ (on1 stk fun y r => on1 r fun x r => onI y fun b => onI x fun a => b ≠ 0 ∧ P (pc + 1) ls (vI (w32 (a.tdiv b)) :: r) h)
  | .irem => n0 = 1 ∧ (on1 stk fun y r => on1 r fun x r => onI y fun b => onI x fun a => b ≠ 0 ∧ P (pc + 1) ls (vI (a.tmod b) :: r) h)
  | .ladd => n0 = 1 ∧ (bL P pc ls stk h (fun a b => vL (w64 (a + b))))
  | .lmul => n0 = 1 ∧ (bL P pc ls stk h (fun a b => vL (w64 (a * b))))
  | .lrem => n0 = 1 ∧ (on1 stk fun y r => on1 r fun x r => onL y fun b => onL x fun a => b ≠ 0 ∧ P (pc + 1) ls (vL (rem64 a b) :: r) h)
  | .lcmp => n0 = 1 ∧ (bL P pc ls stk h (fun a b => vI (cmp64 a b)))
  | .i2l => n0 = 1 ∧ (on1 stk fun y r => onI y fun b => P (pc + 1) ls (vL b :: r) h)
  | .l2i => n0 = 1 ∧ (on1 stk fun y r => onL y fun b => P (pc + 1) ls (vI (w32 b) :: r) h)
  | .dup => n0 = 1 ∧ (on1 stk fun v r => oneW v = true ∧ P (pc + 1) ls (v :: v :: r) h)
  | .pop => n0 = 1 ∧ (on1 stk fun v r => oneW v = true ∧ P (pc + 1) ls r h)
  | .dup_x1 => n0 = 1 ∧ (on1 stk fun v r => on1 r fun u r => (oneW v = true ∧ oneW u = true) ∧ P (pc + 1) ls (v :: u :: v :: r) h)
  | .dup2 => n0 = 1 ∧ (on1 stk fun v r => on1 r fun u r => (oneW v = true ∧ oneW u = true) ∧ P (pc + 1) ls (v :: u :: v :: u :: r) h)
  | .ifCond c off => n0 = 3 ∧ (on1 stk fun v r => onI v fun x => go2 P pc off ls r h (cnd c x 0))
  | .if_icmp c off => n0 = 3 ∧ (on1 stk fun v r => on1 r fun u r => onI v fun y => onI u fun x => go2 P pc off ls r h (cnd c x y))
  | .if_acmp c off => n0 = 3 ∧ (on1 stk fun v r => on1 r fun u r => onR v fun y => onR u fun x => (x = y ∨ (x ≠ some nM ∧ y ≠ some nM)) ∧ go2 P pc off ls r h (acB c x y))
  | .ifnull off => n0 = 3 ∧ (on1 stk fun v r => onR v fun x => go2 P pc off ls r h x.isNone)
  | .ifnonnull off => n0 = 3 ∧ (on1 stk fun v r => onR v fun x => go2 P pc off ls r h x.isSome)
  | .goto off => n0 = 3 ∧ (0 ≤ (pc : Int) + off ∧ P (tg pc off) ls stk h)
  | .tableswitch dflt lo hi offs => on1 stk fun v r => onI v fun x => onS (if x < lo ∨ hi < x then some dflt else offs[(x - lo).toNat]?) fun off => 0 ≤ (pc : Int) + off ∧ P (tg pc off) ls r h
  | .getfield idx => n0 = 3 ∧ (on1 stk fun v r => onN v fun n => onS (rF M.2.2.2.2.2 idx) fun q => hT h n = 100 + q.1 ∧ P (pc + 3) ls (flv q.1 (hI h n) (hR h n) q.2 :: r) h)
  | .putfield idx => n0 = 3 ∧ (on1 stk fun u r => on1 r fun v r => onN v fun n => onS (rF M.2.2.2.2.2 idx) fun q => (fpB M q.1 q.2 = true ∧ fitB q.1 q.2 u = true ∧ hT h n = 100 + q.1 ∧ wr n = true) ∧ P (pc + 3) ls r (putH h n q.2 u))
  | .getstatic idx => n0 = 3 ∧ ((M.2.2.2.2.2 = 10 ∧ idx = 39) ∧ P (pc + 3) ls (vR (some nE) :: stk) h)
  | .arraylength => n0 = 1 ∧ (on1 stk fun v r => onN v fun n => (hT h n < 9 ∨ hT h n = 20) ∧ P (pc + 1) ls (vI (hN h n) :: r) h)
  | .iaload => n0 = 1 ∧ (on1 stk fun u r => on1 r fun v r => onI u fun j => onN v fun n => ((hT h n = 1 ∨ hT h n = 20) ∧ 0 ≤ j ∧ j < hN h n) ∧ P (pc + 1) ls (vI (hI h n j) :: r) h)
  | .baload => n0 = 1 ∧ (on1 stk fun u r => on1 r fun v r => onI u fun j => onN v fun n => (hT h n = 2 ∧ 0 ≤ j ∧ j < hN h n) ∧ P (pc + 1) ls (vI (hI h n j) :: r) h)
  | .laload => n0 = 1 ∧ (on1 stk fun u r => on1 r fun v r => onI u fun j => onN v fun n => (hT h n = 3 ∧ 0 ≤ j ∧ j < hN h n) ∧ P (pc + 1) ls (vL (hI h n j) :: r) h)
  | .aaload => n0 = 1 ∧ (on1 stk fun u r => on1 r fun v r => onI u fun j => onN v fun n => ((3 < hT h n ∧ hT h n < 9) ∧ 0 ≤ j ∧ j < hN h n) ∧ P (pc + 1) ls (vR (hR h n j) :: r) h)
  | .iastore => n0 = 1 ∧ (on1 stk fun w r => on1 r fun u r => on1 r fun v r => onI w fun z => onI u fun j => onN v fun n => (hT h n = 1 ∧ wr n = true ∧ 0 ≤ j ∧ j < hN h n) ∧ P (pc + 1) ls r (setI h n j z))
  | .bastore => n0 = 1 ∧ (on1 stk fun w r => on1 r fun u r => on1 r fun v r => onI w fun z => onI u fun j => onN v fun n => (hT h n = 2 ∧ wr n = true ∧ 0 ≤ j ∧ j < hN h n ∧ (z = 0 ∨ z = 1)) ∧ P (pc + 1) ls r (setI h n j z))
  | .lastore => n0 = 1 ∧ (on1 stk fun w r => on1 r fun u r => on1 r fun v r => onL w fun z => onI u fun j => onN v fun n => (hT h n = 3 ∧ wr n = true ∧ 0 ≤ j ∧ j < hN h n) ∧ P (pc + 1) ls r (setI h n j z))
  | .aastore => n0 = 1 ∧ (on1 stk fun w r => on1 r fun u r => on1 r fun v r => onR w fun z => onI u fun j => onN v fun n => ((3 < hT h n ∧ hT h n < 9) ∧ wr n = true ∧ 0 ≤ j ∧ j < hN h n ∧ (match z with
      | none => hT h n ≠ 5
      | some y => 100 ≤ hT h y ∧ avB (hT h n) (hT h y - 100) = true)) ∧ P (pc + 1) ls r (setR h n j z))
  | .newarray q => n0 = 2 ∧ (on1 stk fun v r => onI v fun z => (atK q ≠ 0 ∧ 0 ≤ z ∧ z ≤ 60000000 ∧ 1 ≤ hc h ∧ z ≤ (hw h : Int)) ∧ ∃ n, hT h n = 0 ∧ P (pc + 2) ls (vR (some n) :: r) (newH h n (atK q) z z.toNat))
  | .anewarray idx => n0 = 3 ∧ (on1 stk fun v r => onI v fun z => onS (rA M.2.2.2.2.2 idx) fun t => (0 ≤ z ∧ z ≤ 60000000 ∧ 1 ≤ hc h ∧ z ≤ (hw h : Int)) ∧ ∃ n, hT h n = 0 ∧ P (pc + 3) ls (vR (some n) :: r) (newH h n t z z.toNat))
  | .new idx => n0 = 3 ∧ ((match rN M.2.2.2.2.2 idx with
      | some ci => (1 ≤ hc h ∧ nFl ci ≤ hw h) ∧ ∃ n, hT h n = 0 ∧ P (pc + 3) ls (vR (some n) :: stk) (newH h n (100 + ci) 0 (nFl ci))
      | none => (match decode M.2.1 (pc + 3), decode M.2.1 (pc + 4), decode M.2.1 (pc + 7) with
        | .ok (.dup, 1), .ok (.invokespecial ic, 3), .ok (.athrow, 1) => onS (rX M.2.2.2.2.2 idx ic) fun k => (M.2.2.2.2.1 = [] ∧ ntB M d ls stk = true ∧ 5 ≤ d ∧ 1 ≤ hc h ∧ 6 ≤ hw h) ∧ X k (hT h, hN h, hI h, hR h, hc h - 1, hw h - 6)
        | _, _, _ => False)))
  | .checkcast idx => n0 = 3 ∧ (on1 stk fun v r => onR v fun z => match z with
      | none => P (pc + 3) ls (vR none :: r) h
      | some n => onS (rK M.2.2.2.2.2 idx) fun t => hT h n = t ∧ P (pc + 3) ls (vR (some n) :: r) h)
  | .ldc idx => n0 = 2 ∧ (if M.2.2.2.2.2 = 15 ∧ idx = 110 then P (pc + 2) ls (vR (some nM) :: stk) h else onS (rI M.2.2.2.2.2 idx) fun z => P (pc + 2) ls (vI z :: stk) h)
  | .ldc2_w idx => n0 = 3 ∧ (onS (rJ M.2.2.2.2.2 idx) fun z => P (pc + 3) ls (vL z :: stk) h)
  | .invokestatic idx => n0 = 3 ∧ (onS (rM M.2.2.2.2.2 idx) fun q =>
      if q.1 = 0 then nP q.2 ≤ stk.length ∧ doCall call M X P pc ls (stk.drop (nP q.2)) h q.2 (stk.take (nP q.2)).reverse
      else if q.1 = 4 then on1 stk fun vn r => on1 r fun vd r => on1 r fun vb r => on1 r fun vs r => on1 r fun va r => onI vn fun n => onI vd fun dp => onN vb fun b => onI vs fun sp => onN va fun a => (ntB M d ls r = true ∧ hT h a = hT h b ∧ wr b = true ∧ 0 ≤ sp ∧ 0 ≤ dp ∧ 0 ≤ n ∧ sp + n ≤ hN h a ∧ dp + n ≤ hN h b) ∧
        (if hT h b = 1 then P (pc + 3) ls r (hT h, hN h, upN (hI h) b (cpyI (hI h a) (hI h b) sp dp n), hR h, hc h, hw h)
         else hT h b = 8 ∧ (∀ i : Int, 0 ≤ i → i < n → ∀ y, hR h a (sp + i) = some y → 100 ≤ hT h y ∧ avB 8 (hT h y - 100) = true) ∧ P (pc + 3) ls r (hT h, hN h, hI h, upN (hR h) b (cpyI (hR h a) (hR h b) sp dp n), hc h, hw h))
      else if q.1 = 7 then on1 stk fun y r => on1 r fun x r => onI y fun b => onI x fun a => ntB M d ls r = true ∧ P (pc + 3) ls (vI (if a < b then b else a) :: r) h
      else if q.1 = 8 then on1 stk fun y r => on1 r fun x r => onI y fun b => onI x fun a => ntB M d ls r = true ∧ P (pc + 3) ls (vI (if b < a then b else a) :: r) h
      else False)
  | .invokevirtual idx => n0 = 3 ∧ (onS (rM M.2.2.2.2.2 idx) fun q =>
      if q.1 = 1 then nP q.2 ≤ stk.length ∧ on1 (stk.drop (nP q.2)) fun v r => onN v fun n => hT h n = 100 + q.2.2.2.2.2.2 ∧ doCall call M X P pc ls r h q.2 (vR (some n) :: (stk.take (nP q.2)).reverse)
      else if q.1 = 5 then on1 stk fun v r => onN v fun a => (ntB M d ls r = true ∧ hT h a = 1 ∧ 1 ≤ hc h ∧ hN h a ≤ (hw h : Int)) ∧ ∃ n, hT h n = 0 ∧ P (pc + 3) ls (vR (some n) :: r) (upN (hT h) n 1, upN (hN h) n (hN h a), upN (hI h) n (hI h a), upN (hR h) n (hR h a), hc h - 1, hw h - (hN h a).toNat)
      else if q.1 = 6 then on1 stk fun v r => onN v fun a => (ntB M d ls r = true ∧ hT h a = 8) ∧ P (pc + 3) ls (vR (some nM) :: r) h
      else False)
  | .invokespecial idx => n0 = 3 ∧ (onSe (rM M.2.2.2.2.2 idx) (fun q =>
      if q.1 = 2 then nP q.2 ≤ stk.length ∧ on1 (stk.drop (nP q.2)) fun v r => onN v fun n => doCall call M X P pc ls r h q.2 (vR (some n) :: (stk.take (nP q.2)).reverse)
      else if q.1 = 3 then on1 stk fun v r => onN v fun n => ntB M d ls r = true ∧ P (pc + 3) ls r h
      else False) (if M.2.2.2.2.2 = 0 ∧ idx = 24 then on1 stk fun v r => onN v fun n => doCall call M X P pc ls r h M_Draft_init [vR (some n)] else False))
  | .multianewarray idx dims => n0 = 4 ∧ (on1 stk fun vk r => on1 r fun vn r => onI vk fun k => onI vn fun n => (dims = 2 ∧ rY M.2.2.2.2.2 idx = true ∧ 0 ≤ n ∧ n ≤ 1000000 ∧ 0 ≤ k ∧ k ≤ 1000000 ∧ 1 + n.toNat ≤ hc h ∧ n.toNat + n.toNat * k.toNat ≤ hw h) ∧ ∃ (q : Nm) (f : Nat → Nm), (hT h q = 0 ∧ wr q = true ∧ (∀ i, i < n.toNat → hT h (f i) = 0 ∧ f i ≠ q) ∧ (∀ i j, i < n.toNat → j < n.toNat → f i = f j → i = j)) ∧ P (pc + 4) ls (vR (some q) :: r) (mr (newH h q 5 n n.toNat) q k f n.toNat))
  | .ireturn => n0 = 1 ∧ (on1 stk fun v r => onI v fun z => (r = [] ∧ retI M z = true) ∧ K (some (vI z)) h)
  | .areturn => n0 = 1 ∧ (on1 stk fun v r => onR v fun z => (r = [] ∧ retR M = true) ∧ K (some (vR z)) h)
  | .return_ => n0 = 1 ∧ ((stk = [] ∧ M.2.2.2.1 = none) ∧ K none h)
  | _ => False
def istep (call : Ct) (d : Nat) (M : Mt) (K : Kt) (X : Xt) (P : Nx) (pc : Nat) (ls stk : List Vl) (h : AH) : Prop :=
  match decode M.2.1 pc with
  | .ok q => iarm call d M K X P pc ls stk h q.1 q.2
  | .error _ => False
