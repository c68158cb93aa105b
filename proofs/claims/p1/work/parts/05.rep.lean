/-! ===== the launch, the law's start, its arguments, the classes' numbers and slots, the array classes, ArrayList's empty array, the Class object of Object[] ===== -/
abbrev Gt : Type := Launch × State × Array Value × va_G × (Nat → ClassId) × Nat × Nat
abbrev gl (g : Gt) : Launch := g.1
abbrev gs (g : Gt) : State := g.2.1
abbrev gA (g : Gt) : Array Value := g.2.2.1
abbrev gD (g : Gt) : va_G := g.2.2.2.1
abbrev gC (g : Gt) : Nat → ClassId := g.2.2.2.2.1
abbrev gE (g : Gt) : Nat := g.2.2.2.2.2.1
abbrev gM (g : Gt) : Nat := g.2.2.2.2.2.2
def tyT (aC : Nat → ClassId) : List (ClassId × FieldType) := [(aC 1, atT 1), (aC 2, atT 2), (aC 3, atT 3), (aC 4, atT 4), (aC 5, atT 5), (aC 6, atT 6), (aC 7, atT 7), (aC 8, atT 8)]
/-- what lies behind the law's start -/
abbrev nw (g : Gt) : Nat → Prop := fun q => (gs g).heap.size ≤ q
/-- exceptions by numbers: 1 an argument, 2 a state -/
def exN : Nat → String
  | 1 => "java/lang/IllegalArgumentException"
  | _ => "java/lang/IllegalStateException"
/-- what the Statement gives of the start -/
def Gd (g : Gt) : Prop := (gl g).stackTraces = false ∧ (∀ w ∈ lw_tbl, w.before (gA g) (gs g) = true) ∧ va_K (gD g) clT (tyT (gC g)) (gs g) ∧
  vx_Zq Bundle.tN "UNASSIGNED_STACK" Bundle.steD (nw g) (gs g) (gs g).heap ∧ vx_Zq Bundle.tN "SUPPRESSED_SENTINEL" Bundle.listD (nw g) (gs g) (gs g).heap ∧
  va_Z "java/util/ArrayList" "DEFAULTCAPACITY_EMPTY_ELEMENTDATA" "[Ljava/lang/Object;" (.ref (gE g)) (nw g) (gs g) (gs g).heap ∧
  va_Mi "[Ljava/lang/Object;" (gM g) (gs g) ∧ va_Nc (exN 2) (exN 1) (gs g)
theorem Gd.wd {g : Gt} (h : Gd g) {s : State} {args : Array Value} (hW : (gs g).WarmedH s.vm) {w : Cond} (hw : w ∈ lw_tbl) (hg : goodWord w = true) : w.before args s = true := word_at hW (good_of_word hg) (h.2.1 w hw)
theorem Gd.K {g : Gt} (h : Gd g) {s : State} (hW : (gs g).WarmedH s.vm) : va_K (gD g) clT (tyT (gC g)) s := va_K.moved hW.alike h.2.2.1
/-- an array's cell -/
def CA (g : Gt) (ρ : Nm → Option Nat) (t : Nat) (len : Int) (I : Int → Int) (R : Int → Option Nm) (a : Nat) (H : Heap) : Prop :=
  ∃ (n : Nat) (f : Nat → Value), (n : Int) = len ∧ n < 2 ^ 31 ∧ H[a]? = some (arrV (gC g t) n f) ∧ ∀ j : Nat, j < n → VR ρ (elv t I R j) (f j)
def flv (ci : Nat) (I : Int → Int) (R : Int → Option Nm) (k : Nat) : Vl := if frf ci k = true then vR (R k) else vI (I k)
/-- an object's cell -/
def CO (g : Gt) (ρ : Nm → Option Nat) (ci : Nat) (I : Int → Int) (R : Int → Option Nm) (a : Nat) (H : Heap) : Prop :=
  ∃ (q : vw_C) (V : Nat → Value), clT[ci]? = some q ∧ t_OB a ((gD g).1 ci) q.2.2 ((gD g).2 ci) H V ∧ ∀ k : Nat, k < q.2.2 → VR ρ (flv ci I R k) (V k)
/-- the law's script, or an array of which the length alone is known to be 0 -/
def CS (g : Gt) (len : Int) (I : Int → Int) (a : Nat) (H : Heap) : Prop :=
  ∃ (scr : Cell) (tq : FieldType), H[a]? = some scr ∧ (gs g).isArrayOf scr tq ∧ ((tq = .int ∧ scr.vm ≠ .unknown) ∨ scr.slots.size = 0) ∧ (scr.slots.size : Int) = len ∧ scr.slots.size < 2 ^ 31 ∧ ∀ j : Nat, j < scr.slots.size → ∃ y : Int32, scr.slots[j]? = some (.int y) ∧ y.toInt = I j
/-- kinds: 1 to 8 arrays, 20 the script, 30 a thing of which nothing is said, 100 and on objects -/
def Cel (g : Gt) (ρ : Nm → Option Nat) (t : Nat) (len : Int) (I : Int → Int) (R : Int → Option Nm) (a : Nat) (H : Heap) : Prop :=
  if t < 9 then CA g ρ t len I R a H else if t = 20 then CS g len I a H else if t < 100 then True else CO g ρ (t - 100) I R a H
/-- the names of ArrayList's empty array and of the Class object of Object[] -/
def nE : Nm := [-1]
def nM : Nm := [-2]
def Rep (g : Gt) (ρ : Nm → Option Nat) (h : AH) (H : Heap) : Prop :=
  ((gs g).heap.size ≤ H.size ∧ ρ nE = some (gE g) ∧ ρ nM = some (gM g) ∧ hT h nM = 30) ∧ (∀ q : Nat, q < (gs g).heap.size → H[q]? = (gs g).heap[q]?) ∧
  (∀ n, hT h n = 0 ↔ ρ n = none) ∧ (∀ n n' a, n ≠ nM → n' ≠ nM → ρ n = some a → ρ n' = some a → n = n') ∧
  (∀ n a, ρ n = some a → (n ≠ nM → a < H.size) ∧ (wr n = true → nw g a) ∧ Cel g ρ (hT h n) (hN h n) (hI h n) (hR h n) a H)
theorem CA.up {g : Gt} {ρ ρ' : Nm → Option Nat} (hs : Sb ρ ρ') {t : Nat} {len : Int} {I : Int → Int} {R : Int → Option Nm} {a : Nat} {H H' : Heap} (hq : H'[a]? = H[a]?) (k : CA g ρ t len I R a H) : CA g ρ' t len I R a H' := by
  obtain ⟨n, f, h1, h2, h3, h4⟩ := k
  exact ⟨n, f, h1, h2, by rw [hq]; exact h3, fun j hj => (h4 j hj).up hs⟩
theorem CO.up {g : Gt} {ρ ρ' : Nm → Option Nat} (hs : Sb ρ ρ') {ci : Nat} {I : Int → Int} {R : Int → Option Nm} {a : Nat} {H H' : Heap} (hq : H'[a]? = H[a]?) (k : CO g ρ ci I R a H) : CO g ρ' ci I R a H' := by
  obtain ⟨q, V, h1, h2, h3⟩ := k
  exact ⟨q, V, h1, h2.kept hq, fun j hj => (h3 j hj).up hs⟩
theorem CS.up {g : Gt} {len : Int} {I : Int → Int} {a : Nat} {H H' : Heap} (hq : H'[a]? = H[a]?) (k : CS g len I a H) : CS g len I a H' := by
  obtain ⟨scr, tq, h1, h2⟩ := k
  exact ⟨scr, tq, by rw [hq]; exact h1, h2⟩
theorem Cel.up {g : Gt} {ρ ρ' : Nm → Option Nat} (hs : Sb ρ ρ') {t : Nat} {len : Int} {I : Int → Int} {R : Int → Option Nm} {a : Nat} {H H' : Heap} (hq : H'[a]? = H[a]?) (k : Cel g ρ t len I R a H) : Cel g ρ' t len I R a H' := by
  unfold Cel at k ⊢
  split
  · rw [if_pos ‹_›] at k; exact k.up hs hq
  · rw [if_neg ‹_›] at k
    split
    · rw [if_pos ‹_›] at k; exact k.up hq
    · rw [if_neg ‹_›] at k
      split
      · trivial
      · rw [if_neg ‹_›] at k; exact k.up hs hq
/-- a reference that is known lies somewhere -/
theorem Rep.cel {g : Gt} {ρ : Nm → Option Nat} {h : AH} {H : Heap} (k : Rep g ρ h H) {n : Nm} {a : Nat} (hn : ρ n = some a) : Cel g ρ (hT h n) (hN h n) (hI h n) (hR h n) a H := (k.2.2.2.2 n a hn).2.2
theorem Rep.arr {g : Gt} {ρ : Nm → Option Nat} {h : AH} {H : Heap} (k : Rep g ρ h H) {n : Nm} {a t : Nat} (hn : ρ n = some a) (ht : hT h n = t) (h9 : t < 9) : CA g ρ t (hN h n) (hI h n) (hR h n) a H := by
  have := k.cel hn
  rw [ht] at this
  unfold Cel at this
  rw [if_pos h9] at this
  exact this
theorem Rep.obj {g : Gt} {ρ : Nm → Option Nat} {h : AH} {H : Heap} (k : Rep g ρ h H) {n : Nm} {a ci : Nat} (hn : ρ n = some a) (ht : hT h n = 100 + ci) : CO g ρ ci (hI h n) (hR h n) a H := by
  have := k.cel hn
  rw [ht] at this
  unfold Cel at this
  rw [if_neg (by omega), if_neg (by omega), if_neg (by omega)] at this
  rw [show 100 + ci - 100 = ci by omega] at this
  exact this
theorem Rep.scr {g : Gt} {ρ : Nm → Option Nat} {h : AH} {H : Heap} (k : Rep g ρ h H) {n : Nm} {a : Nat} (hn : ρ n = some a) (ht : hT h n = 20) : CS g (hN h n) (hI h n) a H := by
  have := k.cel hn
  rw [ht] at this
  exact this
/-- one cell written, its row of numbers or names as told -/
theorem Rep.put {g : Gt} {ρ : Nm → Option Nat} {ty : Nm → Nat} {ln : Nm → Int} {I : Nm → Int → Int} {R : Nm → Int → Option Nm} {c w : Nat} {H H' : Heap} (k : Rep g ρ (ty, ln, I, R, c, w) H) {n : Nm} {a : Nat} (hn : ρ n = some a) (hw : wr n = true)
    {In : Int → Int} {Rn : Int → Option Nm} (hz : H'.size = H.size) (ho : ∀ q, q ≠ a → H'[q]? = H[q]?) (hc : Cel g ρ (ty n) (ln n) In Rn a H') : Rep g ρ (ty, ln, upN I n In, upN R n Rn, c, w) H' := by
  obtain ⟨h1, h2, h3, h4, h5⟩ := k
  refine ⟨⟨by rw [hz]; exact h1.1, h1.2⟩, fun q hq => ?_, h3, h4, fun n' a' hn' => ?_⟩
  · rw [ho q ?_, h2 q hq]
    intro e
    have := (h5 n a hn).2.1 hw
    omega
  · obtain ⟨g1, g2, g3⟩ := h5 n' a' hn'
    refine ⟨by rw [hz]; exact g1, g2, ?_⟩
    by_cases eM : n' = nM
    · subst eM
      show Cel g ρ (ty nM) _ _ _ a' H'
      rw [show ty nM = 30 from h1.2.2.2]
      exact trivial
    by_cases e : n' = n
    · subst e
      have ea : a' = a := Option.some.inj (hn'.symm.trans hn)
      subst ea
      show Cel g ρ (ty n') (ln n') (upN I n' In n') (upN R n' Rn n') a' H'
      rw [upN_self, upN_self]
      exact hc
    · show Cel g ρ (ty n') (ln n') (upN I n In n') (upN R n Rn n') a' H'
      rw [upN_ne _ _ e, upN_ne _ _ e]
      exact g3.up (Sb.rf ρ) (ho a' (fun z => e (h4 n' n a eM (fun y => by rw [y] at hw; cases hw) (by rw [← z]; exact hn') hn)))
/-- one cell made, under a name that nothing has -/
theorem Rep.new {g : Gt} {ρ : Nm → Option Nat} {ty : Nm → Nat} {ln : Nm → Int} {I : Nm → Int → Int} {R : Nm → Int → Option Nm} {c w c' w' : Nat} {H : Heap} {cell : Cell} (k : Rep g ρ (ty, ln, I, R, c, w) H) {n : Nm} (hn : ty n = 0)
    {t : Nat} (ht : t ≠ 0) {z : Int} {In : Int → Int} {Rn : Int → Option Nm} (hc : Cel g (upN ρ n (some H.size)) t z In Rn H.size (H.push cell)) :
    Sb ρ (upN ρ n (some H.size)) ∧ Rep g (upN ρ n (some H.size)) (upN ty n t, upN ln n z, upN I n In, upN R n Rn, c', w') (H.push cell) := by
  obtain ⟨h1, h2, h3, h4, h5⟩ := k
  have h0 : ρ n = none := (h3 n).mp hn
  have hs : Sb ρ (upN ρ n (some H.size)) := by
    intro x a hx
    by_cases e : x = n
    · subst e; rw [h0] at hx; cases hx
    · simp only [upN, if_neg e]; exact hx
  have h11 := h1.1
  refine ⟨hs, ⟨by rw [Array.size_push]; omega, hs _ _ h1.2.1, hs _ _ h1.2.2.1, by show upN ty n t nM = 30; rw [upN_ne _ _ (fun z => by have y : ty nM = 30 := h1.2.2.2; rw [z, hn] at y; cases y)]; exact h1.2.2.2⟩, fun q hq => ?_, fun x => ?_, fun x x' a xM xM' hx hx' => ?_, fun x a hx => ?_⟩
  · rw [Array.getElem?_push_lt (by omega), ← Array.getElem?_eq_getElem (by omega)]
    exact h2 q hq
  · by_cases e : x = n
    · subst e; simp [hT, upN, ht]
    · simp only [hT, upN, if_neg e]; exact h3 x
  · by_cases e : x = n <;> by_cases e' : x' = n
    · rw [e, e']
    · simp only [upN, if_pos e, if_neg e'] at hx hx'
      have := (h5 x' a hx').1 xM'
      have : H.size = a := Option.some.inj hx
      omega
    · simp only [upN, if_neg e, if_pos e'] at hx hx'
      have := (h5 x a hx).1 xM
      have : H.size = a := Option.some.inj hx'
      omega
    · simp only [upN, if_neg e, if_neg e'] at hx hx'
      exact h4 x x' a xM xM' hx hx'
  · by_cases e : x = n
    · subst e
      rw [upN_self] at hx
      cases hx
      refine ⟨fun _ => by rw [Array.size_push]; omega, fun _ => h1.1, ?_⟩
      show Cel g _ (upN ty x t x) (upN ln x z x) (upN I x In x) (upN R x Rn x) H.size (H.push cell)
      rw [upN_self, upN_self, upN_self, upN_self]
      exact hc
    · rw [upN_ne _ _ e] at hx
      obtain ⟨g1, g2, g3⟩ := h5 x a hx
      refine ⟨fun xM => by have := g1 xM; rw [Array.size_push]; omega, g2, ?_⟩
      show Cel g _ (upN ty n t x) (upN ln n z x) (upN I n In x) (upN R n Rn x) a (H.push cell)
      rw [upN_ne _ _ e, upN_ne _ _ e, upN_ne _ _ e, upN_ne _ _ e]
      by_cases xM : x = nM
      · subst xM
        rw [show ty nM = 30 from h1.2.2.2]
        exact trivial
      have g1 := g1 xM
      refine g3.up hs ?_
      rw [Array.getElem?_push_lt g1, ← Array.getElem?_eq_getElem g1]
