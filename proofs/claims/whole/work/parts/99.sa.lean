/-! ===== no pivot is 0 ===== -/
def ivT : Nat := 32000916223336477098880017421497194459048599495444887370902704627438326773163667120485409145042302968030119903994810961782046326875097404084445287512063507059347984135649528394340367555766484629498620817198131976643477507065635418620715467229162953987106121697677766263066141705392726955578049605242455201607207149740759068034029365943284598047645166640949325042564250831653905651881236695539887070716202511229626809656302338880512243749164550844713669510900602313665479272871892059150673577989050845964776783570930261930345898579320072644426519898235226456207402538436050221126681864430616967500440780787501520257281
def ivq (a : Nat) : Nat := Nat.land (Nat.shiftRight ivT (8 * a)) 255
theorem ivq_0 : allB (fun a => Nat.beq (ivq a) (ivn a)) 256 = true := by decide +kernel
theorem ivq_e {a : Nat} (h : a < 256) : ivq a = ivn a := Nat.eq_of_beq_eq_true (allB_ok ivq_0 a h)
def frcQ (n : Nat) (f : Nat → Bool) : Bool := match n with
  | 0 => f 0
  | k + 1 => f (k + 1)
theorem frcQ_e {n : Nat} {f : Nat → Bool} : frcQ n f = f n := by cases n <;> rfl
def bldQ (g : Nat → Nat) : Nat → List Nat → (List Nat → Bool) → Bool
  | 0, acc, k => k acc
  | n + 1, acc, k => frcQ (g n) (fun v => bldQ g n (v :: acc) k)
def bldNQ (g : Nat → Nat) : Nat → List Nat → List Nat
  | 0, acc => acc
  | n + 1, acc => bldNQ g n (g n :: acc)
theorem bldQ_e {g : Nat → Nat} {k : List Nat → Bool} : ∀ (n : Nat) (acc : List Nat), bldQ g n acc k = k (bldNQ g n acc)
  | 0, _ => rfl
  | n + 1, acc => by
    show frcQ (g n) _ = _
    rw [frcQ_e, bldQ_e n]
    rfl
theorem bldNQ_g {g : Nat → Nat} : ∀ (n : Nat) (acc : List Nat) (c : Nat), (bldNQ g n acc).getD c 0 = if c < n then g c else acc.getD (c - n) 0
  | 0, acc, c => by rw [if_neg (by omega)]; rfl
  | n + 1, acc, c => by
    show (bldNQ g n (g n :: acc)).getD c 0 = _
    rw [bldNQ_g n]
    by_cases q : c < n
    · rw [if_pos q, if_pos (by omega)]
    · by_cases q2 : c = n
      · rw [if_neg q, if_pos (by omega), q2, Nat.sub_self]; rfl
      · rw [if_neg q, if_neg (by omega), show c - n = (c - (n + 1)) + 1 by omega]; rfl
def stpQ (t : Nat) (p w : List Nat) (c : Nat) : Nat := Nat.xor (w.getD c 0) (gmn (w.getD t 0) (p.getD c 0) 8 0)
def redQ : List (List Nat) → Nat → List Nat → (List Nat → Bool) → Bool
  | [], _, w, k => k w
  | p :: ps, t, w, k => bldQ (stpQ t p w) 6 [] (fun w' => redQ ps (t + 1) w' k)
def redNQ : List (List Nat) → Nat → List Nat → List Nat
  | [], _, w => w
  | p :: ps, t, w => redNQ ps (t + 1) (bldNQ (stpQ t p w) 6 [])
theorem redQ_e {k : List Nat → Bool} : ∀ (ps : List (List Nat)) (t : Nat) (w : List Nat), redQ ps t w k = k (redNQ ps t w)
  | [], _, _ => rfl
  | p :: ps, t, w => by
    show bldQ _ 6 [] _ = _
    rw [bldQ_e, redQ_e ps]
    rfl
def chkQ : Nat → Nat → Nat → List (List Nat) → Bool
  | 0, _, _, _ => true
  | m + 1, j0, t, ps => allB (fun j => Nat.blt j j0 || bldQ (fun c => ivq (Nat.xor (16 + j) c)) 6 [] (fun w => redQ ps 0 w (fun w => !(Nat.beq (w.getD t 0) 0) && frcQ (ivq (w.getD t 0)) (fun v => bldQ (fun c => gmn v (w.getD c 0) 8 0) 6 [] (fun p => chkQ m (j + 1) (t + 1) (ps ++ [p])))))) 12
theorem chkQ_ok : chkQ 6 0 0 [] = true := by decide +kernel
