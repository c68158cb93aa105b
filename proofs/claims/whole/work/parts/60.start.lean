/-! ===== the start: what the Statement gives of it ===== -/
theorem ac_of {s : State} {A : Array Value} {t : FieldType} (h : (Cond.arrayClass t).before A s = true) (ht : ∀ C, t ≠ .object C) : ∃ cA, ArrOfT s cA t ∧ va_RA s cA t := by
  obtain ⟨c, k, comp, h1, h2, h3⟩ := Cond.arrayClass_spec h
  refine ⟨c, fun N z => ⟨(fun k h => by cases h), k, h2, comp, h3⟩, ?_⟩
  cases t with
  | object C => exact absurd rfl (ht C)
  | _ => exact h1
theorem ao_of {s : State} {A : Array Value} {C : String} (h : (Cond.arrayOver (.object C)).before A s = true) : ∃ cA, ArrOfT s cA (.object C) ∧ va_RA s cA (.object C) := by
  obtain ⟨comp, c, k, h1, h2, h3, h4, h5⟩ := Cond.arrayOver_spec h
  exact ⟨c, fun N z => ⟨(fun k h => by cases h), k, h3, comp, h4⟩, k, comp, h3, h4, h1, h5⟩
theorem aa_of {s : State} {A : Array Value} {t : FieldType} (h : (Cond.arrayOver (.array t)).before A s = true) : ∃ cA, ArrOfT s cA (.array t) ∧ va_RA s cA (.array t) := by
  obtain ⟨comp, c, k, h1, h2, h3, h4, h5⟩ := Jvm.Stand.arrayOver_specB h
  exact ⟨c, fun N z => ⟨(fun k h => by cases h), k, h3, comp, h4⟩, h5⟩
theorem i_in {C : String} {n i : Nat} (h : lw_tbl[i]? = some (Cond.instantiable C n)) {s : State} {A : Array Value} (hts : ∀ w ∈ lw_tbl, w.before A s = true) : (Cond.instantiable C n).before A s = true := hts _ (List.mem_of_getElem? h)
theorem K_ex {s : State} {A : Array Value} (hts : ∀ w ∈ lw_tbl, w.before A s = true) : ∃ (D : va_G) (aC : Nat → ClassId), va_K D clT (tyT aC) s := by
  obtain ⟨c0, i0, k0⟩ := u_known hts Ti_0 (i_in (i := 80) (n := 9) (by decide +kernel) hts)
  obtain ⟨c1, i1, k1⟩ := u_known hts Ti_1 (i_in (i := 489) (n := 4) (by decide +kernel) hts)
  obtain ⟨c2, i2, k2⟩ := u_known hts Ti_2 (i_in (i := 90) (n := 7) (by decide +kernel) hts)
  obtain ⟨c3, i3, k3⟩ := u_known hts Ti_3 (i_in (i := 146) (n := 5) (by decide +kernel) hts)
  obtain ⟨c4, i4, k4⟩ := u_known hts Ti_4 (i_in (i := 96) (n := 2) (by decide +kernel) hts)
  obtain ⟨c5, i5, k5⟩ := u_known hts Ti_5 (i_in (i := 308) (n := 14) (by decide +kernel) hts)
  obtain ⟨c6, i6, k6⟩ := u_known hts Ti_6 (i_in (i := 597) (n := 5) (by decide +kernel) hts)
  obtain ⟨c7, i7, k7⟩ := u_known hts Ti_7 (i_in (i := 590) (n := 6) (by decide +kernel) hts)
  obtain ⟨c8, i8, k8⟩ := u_known hts Ti_8 (i_in (i := 662) (n := 4) (by decide +kernel) hts)
  obtain ⟨c9, i9, k9⟩ := u_known hts Ti_9 (i_in (i := 964) (n := 38) (by decide +kernel) hts)
  obtain ⟨c10, i10, k10⟩ := u_known hts Ti_10 (i_in (i := 315) (n := 3) (by decide +kernel) hts)
  obtain ⟨a1, p1, q1⟩ := ac_of (t := .int) (hts _ (List.mem_of_getElem? (i := 108) (by decide +kernel))) (fun C h => by cases h)
  obtain ⟨a2, p2, q2⟩ := ac_of (t := .boolean) (hts _ (List.mem_of_getElem? (i := 694) (by decide +kernel))) (fun C h => by cases h)
  obtain ⟨a3, p3, q3⟩ := ac_of (t := .long) (hts _ (List.mem_of_getElem? (i := 1314) (by decide +kernel))) (fun C h => by cases h)
  obtain ⟨a4, p4, q4⟩ := ao_of (C := "FriendBackup$House") (hts _ (List.mem_of_getElem? (i := 88) (by decide +kernel)))
  obtain ⟨a5, p5, q5⟩ := aa_of (t := .int) (hts _ (List.mem_of_getElem? (i := 110) (by decide +kernel)))
  obtain ⟨a6, p6, q6⟩ := ao_of (C := "FriendBackup$Chunk") (hts _ (List.mem_of_getElem? (i := 152) (by decide +kernel)))
  obtain ⟨a7, p7, q7⟩ := ao_of (C := "FriendBackup$Piece") (hts _ (List.mem_of_getElem? (i := 596) (by decide +kernel)))
  obtain ⟨a8, p8, q8⟩ := ao_of (C := "java/lang/Object") (hts _ (List.mem_of_getElem? (i := 564) (by decide +kernel)))
  refine ⟨(fun i => [c0, c1, c2, c3, c4, c5, c6, c7, c8, c9, c10].getD i 0, fun i => [i0, i1, i2, i3, i4, i5, i6, i7, i8, i9, i10].getD i (fun _ => 0)), fun i => [0, a1, a2, a3, a4, a5, a6, a7, a8].getD i 0, fun c q hq => ?_, fun k q hq => ?_⟩
  · match c, hq with
    | 0, hq => cases hq; exact k0
    | 1, hq => cases hq; exact k1
    | 2, hq => cases hq; exact k2
    | 3, hq => cases hq; exact k3
    | 4, hq => cases hq; exact k4
    | 5, hq => cases hq; exact k5
    | 6, hq => cases hq; exact k6
    | 7, hq => cases hq; exact k7
    | 8, hq => cases hq; exact k8
    | 9, hq => cases hq; exact k9
    | 10, hq => cases hq; exact k10
    | n + 11, hq => cases hq
  · match k, hq with
    | 0, hq => cases hq; exact ⟨p1, q1⟩
    | 1, hq => cases hq; exact ⟨p2, q2⟩
    | 2, hq => cases hq; exact ⟨p3, q3⟩
    | 3, hq => cases hq; exact ⟨p4, q4⟩
    | 4, hq => cases hq; exact ⟨p5, q5⟩
    | 5, hq => cases hq; exact ⟨p6, q6⟩
    | 6, hq => cases hq; exact ⟨p7, q7⟩
    | 7, hq => cases hq; exact ⟨p8, q8⟩
    | n + 8, hq => cases hq
/-- what the Statement says of the start beside the tables, as far as it is used -/
def GV (A : Array Value) (s : State) : Prop := (Cond.isRef (.static "java/lang/Throwable" "UNASSIGNED_STACK" "[Ljava/lang/StackTraceElement;")).before A s = true ∧ (Cond.isRef (.static "java/lang/Throwable" "SUPPRESSED_SENTINEL" "Ljava/util/List;")).before A s = true ∧ (Cond.exactly (.static "java/util/ArrayList" "DEFAULTCAPACITY_EMPTY_ELEMENTDATA" "[Ljava/lang/Object;") "[Ljava/lang/Object;").before A s = true ∧ (Cond.arrayOf (.static "java/util/ArrayList" "DEFAULTCAPACITY_EMPTY_ELEMENTDATA" "[Ljava/lang/Object;") (.object "java/lang/Object")).before A s = true ∧ (Cond.eq (.length (.static "java/util/ArrayList" "DEFAULTCAPACITY_EMPTY_ELEMENTDATA" "[Ljava/lang/Object;")) (.int 0)).before A s = true ∧ (Cond.isRef (.mirror "[Ljava/lang/Object;")).before A s = true ∧ (Cond.not (.castable "java/lang/IllegalStateException" "java/lang/IllegalArgumentException")).before A s = true
theorem Gd_ex {s : State} {l : Launch} {A : Array Value} (hl : l.stackTraces = false) (hts : ∀ w ∈ lw_tbl, w.before A s = true) (hgv : GV A s) :
    ∃ (D : va_G) (aC : Nat → ClassId) (E Mi : Nat), Gd (l, s, A, D, aC, E, Mi) ∧ ∃ cell : Cell, s.heap[E]? = some cell ∧ s.isArrayOf cell (.object "java/lang/Object") ∧ cell.slots.size = 0 := by
  obtain ⟨g1, g2, g3, g4, g5, g6, g7⟩ := hgv
  obtain ⟨D, aC, hK⟩ := K_ex hts
  obtain ⟨E, cE, cell, kE, x1, x2, x3, x4, x5, x6, -⟩ := Cond.exactly_spec g3
  obtain ⟨Mi, hMi⟩ := va_Mi.of g6
  have hA : ∀ a : Nat, a < s.heap.size → ¬ (s.heap.size ≤ a) := fun a ha z => by omega
  have hT := hts _ (List.mem_of_getElem? (i := 60) (a := Cond.initialized "java/lang/Throwable") (by decide +kernel))
  refine ⟨D, aC, E, Mi, ⟨hl, hts, hK, vx_Zqof (hts _ (List.mem_of_getElem? (i := 247) (by decide +kernel))) hT g1 hA, vx_Zqof (hts _ (List.mem_of_getElem? (i := 249) (by decide +kernel))) hT g2 hA, va_Zref (hts _ (List.mem_of_getElem? (i := 327) (by decide +kernel))) (hts _ (List.mem_of_getElem? (i := 68) (by decide +kernel))) x1 hA, hMi, va_Nc.of g7⟩, cell, x3, (Cond.arrayOf_spec g4 x1 x3).1, ?_⟩
  have hv : ∃ v, (Term.length (.static "java/util/ArrayList" "DEFAULTCAPACITY_EMPTY_ELEMENTDATA" "[Ljava/lang/Object;")).eval A s none [] s = some v := by
    cases hq : (Term.length (.static "java/util/ArrayList" "DEFAULTCAPACITY_EMPTY_ELEMENTDATA" "[Ljava/lang/Object;")).eval A s none [] s with
    | some v => exact ⟨v, rfl⟩
    | none => simp [Cond.before, Cond.holds, Cond.value, hq] at g5
  obtain ⟨v, hv⟩ := hv
  obtain ⟨a, ce, y1, y2, rfl, y4⟩ := Jvm.Free.SB.Term.length_small hv
  have ea : a = E := by rw [x1] at y1; cases y1; rfl
  subst ea
  obtain ⟨hcb, -, -, -⟩ := State.arrayAt?_spec y2
  rw [x3] at hcb
  cases hcb
  have g5' : (Cond.eq (.length (.static "java/util/ArrayList" "DEFAULTCAPACITY_EMPTY_ELEMENTDATA" "[Ljava/lang/Object;")) (.int 0)).value A s none s [] = some (decide (cell.slots.size.toInt32 = 0)) := Cond.eq_ints hv rfl
  have g5'' : decide (cell.slots.size.toInt32 = 0) = true := by
    simpa [Cond.before, Cond.holds, g5'] using g5
  have z := congrArg Int32.toInt (of_decide_eq_true g5'')
  rw [toInt32_len y4] at z
  have z' : ((cell.slots.size : Nat) : Int) = 0 := z
  omega
theorem sbn_forget {s s' : State} {L : List Loc} {k n : Nat} (h : s.sameButNew s' L k n) (hL : ∀ q ∈ L, s.heap.size ≤ q.base) : s.sameButNew s' [] k n := by
  obtain ⟨h1, h2, h3, h4, h5, h6⟩ := h
  refine ⟨h1, h2, h3, h4, h5, fun a c hc => ?_⟩
  obtain ⟨c', g1, g2, g3, g4⟩ := h6 a c hc
  refine ⟨c', g1, g2, g3, fun i _ => g4 i (fun hin => ?_)⟩
  have x1 := hL _ hin
  have x2 := (Array.getElem?_eq_some_iff.mp hc).1
  exact absurd x1 (Nat.not_le.mpr x2)
theorem run_SW {g : Gt} (hG : Gd g) {d : Nat} {M : Mt} (hO : oN M.2.2.2.2.2 = M.1.cls) {K : Kt} {X : Xt} {pc : Nat} {ls stk : List Vl} {h : AH} (k : Rn d M K X pc ls stk h) : SW g (d + 1) M K X pc ls stk h := k (SW g (d + 1) M K X) (fun _ _ _ _ z => istep_sound hG (Mth_sound hG d) hO z)
theorem start_go {p : Program} {e : Env} {s : State} {m : MethodId} {below : List Frame} {meth : Method} {c : Code} {l : Launch} {b L c0 w0 d : Nat} {xs : Nat → Int32} (hl : l.stackTraces = false) (hx : p.tables.exec = Jvm.exec) (hb : c.code = code) (hr : meth.sig.returnType = ret) (hm : c.maxLocals = 7) (hf : s.vm.findClass "FriendBackupLaw" = some m.cls) (hts : ∀ w ∈ lw_tbl, w.before #[Value.ref b] s = true) (hX : va_X b L xs s s.heap) (hbl : b < s.heap.size) (hlk : meth.locks = false) (hgv : GV #[Value.ref b] s) (het : c.exceptionTable.toList = []) (hnm : meth.name = "law") (hL : L ≤ 3072)
    (law : ∀ (ty : Nm → Nat) (ln : Nm → Int) (I : Nm → Int → Int) (R : Nm → Int → Option Nm), ty [-3] = 20 → ln [-3] = (L : Int) → (∀ n, 1 ≤ hd n → ty n = 0) → (∀ n, 1 ≤ hd n → I n = fun _ => 0) → (ty nE = 20 ∧ ln nE = 0 ∧ ∀ j, R nE j = none) → Rn d M_La_law (fun v _ => v = some (vI 1)) (fun _ _ => False) 0 [vR (some [-3]), vJ, vJ, vJ, vJ, vJ, vJ] [] (ty, ln, I, R, c0, w0)) :
    W p l e (rmv (d + 1) c0 w0) s m #[Value.ref b] below meth c s.heap [] 0 0 (fun t => ∃ o, t.status = .running ∧ Ended t below o ∧ o = .returned (some (.int 1)) ∧ Framed s o t [] c0 w0) (entryFrame m ([Value.ref b] : List Value).toArray 7) := by
  obtain ⟨D, aC, E, Mi, hG, cell, e1, e2, e3⟩ := Gd_ex (A := #[Value.ref b]) hl hts hgv
  obtain ⟨g, hg⟩ : ∃ g : Gt, g = (l, s, #[Value.ref b], D, aC, E, Mi) := ⟨_, rfl⟩
  rw [← hg] at hG
  have gl9 : gl g = l := by rw [hg]
  have gs9 : gs g = s := by rw [hg]
  have gE9 : gE g = E := by rw [hg]
  have gM9 : gM g = Mi := by rw [hg]
  obtain ⟨scr, f1, f2, f3, f4, f5⟩ := hX
  have nEM : nE ≠ nM := by decide
  have hEb : E ≠ b := fun z => by
    subst z
    rw [e1] at f1
    cases f1
    obtain ⟨-, k1, k2, cp, k3⟩ := e2
    obtain ⟨-, k4, k5, cp', k6⟩ := f2
    rw [k2] at k5
    cases k5
    rw [k3] at k6
    cases k6
  have w := law (fun n => if n = nE then 20 else if n = nM then 30 else if n = [-3] then 20 else 0) (fun n => if n = [-3] then (L : Int) else 0) (fun n => if n = [-3] then (fun j => (xs j.toNat).toInt) else fun _ => 0) (fun _ _ => none) rfl rfl
    (fun n hn => by
      have a1 : n ≠ nE := fun z => by rw [z] at hn; exact absurd hn (by decide)
      have a2 : n ≠ nM := fun z => by rw [z] at hn; exact absurd hn (by decide)
      have a3 : n ≠ [-3] := fun z => by rw [z] at hn; exact absurd hn (by decide)
      rw [if_neg a1, if_neg a2, if_neg a3])
    (fun n hn => by
      have a3 : n ≠ [-3] := fun z => by rw [z] at hn; exact absurd hn (by decide)
      rw [if_neg a3])
    ⟨rfl, rfl, fun _ => rfl⟩
  have hRep : Rep g (fun n => if n = nE then some E else if n = nM then some Mi else if n = [-3] then some b else none) ((fun n => if n = nE then 20 else if n = nM then 30 else if n = [-3] then 20 else 0), (fun n => if n = [-3] then (L : Int) else 0), (fun n => if n = [-3] then (fun j => (xs j.toNat).toInt) else fun _ => 0), (fun _ _ => none), c0, w0) s.heap := by
    refine ⟨⟨by rw [gs9]; exact Nat.le_refl _, by rw [gE9]; rfl, by rw [gM9]; rfl, rfl⟩, fun q _ => by rw [gs9], fun n => ?_, fun n n' a h1 h2 x y => ?_, fun n a hn => ?_⟩
    · show (if n = nE then 20 else if n = nM then 30 else if n = [-3] then 20 else 0) = 0 ↔ (if n = nE then some E else if n = nM then some Mi else if n = [-3] then some b else none) = none
      by_cases q1 : n = nE
      · rw [if_pos q1, if_pos q1]; exact ⟨(fun z => by cases z), (fun z => by cases z)⟩
      · rw [if_neg q1, if_neg q1]
        by_cases q2 : n = nM
        · rw [if_pos q2, if_pos q2]; exact ⟨(fun z => by cases z), (fun z => by cases z)⟩
        · rw [if_neg q2, if_neg q2]
          by_cases q3 : n = [-3]
          · rw [if_pos q3, if_pos q3]; exact ⟨(fun z => by cases z), (fun z => by cases z)⟩
          · rw [if_neg q3, if_neg q3]; exact ⟨fun _ => rfl, fun _ => rfl⟩
    · have x' : (if n = nE then some E else if n = nM then some Mi else if n = [-3] then some b else none) = some a := x
      have y' : (if n' = nE then some E else if n' = nM then some Mi else if n' = [-3] then some b else none) = some a := y
      rw [if_neg h1] at x'
      rw [if_neg h2] at y'
      by_cases q1 : n = nE <;> by_cases q2 : n' = nE
      · rw [q1, q2]
      · rw [if_pos q1] at x'
        rw [if_neg q2] at y'
        by_cases q3 : n' = [-3]
        · rw [if_pos q3] at y'; cases x'; cases y'; exact absurd rfl hEb
        · rw [if_neg q3] at y'; cases y'
      · rw [if_neg q1] at x'
        rw [if_pos q2] at y'
        by_cases q3 : n = [-3]
        · rw [if_pos q3] at x'; cases x'; cases y'; exact absurd rfl hEb
        · rw [if_neg q3] at x'; cases x'
      · rw [if_neg q1] at x'
        rw [if_neg q2] at y'
        by_cases q3 : n = [-3] <;> by_cases q4 : n' = [-3]
        · rw [q3, q4]
        · rw [if_neg q4] at y'; cases y'
        · rw [if_neg q3] at x'; cases x'
        · rw [if_neg q3] at x'; cases x'
    · have x' : (if n = nE then some E else if n = nM then some Mi else if n = [-3] then some b else none) = some a := hn
      by_cases q1 : n = nE
      · subst q1
        rw [if_pos rfl] at x'
        cases x'
        refine ⟨fun _ => (Array.getElem?_eq_some_iff.mp e1).1, (fun z => by cases z), ?_⟩
        show CS g 0 (fun _ => 0) E s.heap
        exact ⟨cell, .object "java/lang/Object", e1, by rw [gs9]; exact e2, Or.inr e3, by rw [e3]; rfl, by rw [e3]; decide, fun j hj => absurd hj (by rw [e3]; omega)⟩
      · rw [if_neg q1] at x'
        by_cases q2 : n = nM
        · subst q2
          rw [if_pos rfl] at x'
          cases x'
          exact ⟨fun z => absurd rfl z, (fun z => by cases z), trivial⟩
        · rw [if_neg q2] at x'
          by_cases q3 : n = [-3]
          · subst q3
            rw [if_pos rfl] at x'
            cases x'
            refine ⟨fun _ => hbl, (fun z => by cases z), ?_⟩
            show CS g (L : Int) (fun j => (xs j.toNat).toInt) b s.heap
            exact ⟨scr, .int, f1, by rw [gs9]; exact f2, Or.inl ⟨rfl, f3⟩, by rw [f4], by rw [f4]; omega, fun j hj => ⟨xs j, f5 j (by rw [← f4]; exact hj), rfl⟩⟩
          · rw [if_neg q3] at x'; cases x'
  have hO : oN M_La_law.2.2.2.2.2 = M_La_law.1.cls := rfl
  have k := run_SW hG hO w
  have hxs : SR (fun n => if n = nE then some E else if n = nM then some Mi else if n = [-3] then some b else none) [vR (some [-3])] [Value.ref b] := ⟨⟨b, rfl, rfl⟩, trivial⟩
  have ho : ∀ v ∈ [vR (some [-3])], oneW v = true := fun v hv => by rw [List.mem_singleton.mp hv]; rfl
  have C : Cx g M_La_law p s m meth c := ⟨hx, hb, hm, hr, hlk, hf, by rw [gs9]; exact State.WarmedH.refl s, het, hnm⟩
  have hw := k p e s m #[Value.ref b] below meth c _ _ c0 w0 s.heap _ [] [] 0 0 C (Sb.rf _) (LR_entry (n := 7) hxs ho (by decide)) trivial hRep (by show 0 + c0 ≤ c0; omega) (by show 0 + w0 ≤ w0; omega) (fun q hq => by cases hq)
  rw [← entry_eq m [Value.ref b] (SR_one hxs ho), gl9] at hw
  intro T hT X0
  obtain ⟨t, a, o, b1, b2, h9, ρ9, L9, z1, z2, z3, z4, z5, z6, z7, z8⟩ := hw T hT X0
  have hF : o = .returned (some (.int 1)) ∧ Framed s o t [] c0 w0 := by
    have hv : o = .returned (some (.int 1)) := by
      rcases z8 with ⟨y1, y2⟩ | ⟨v, x, y1, y2, y3, y4⟩ | ⟨q, kk, ce, y1, y2, y3⟩
      · cases y2
      · cases y4
        obtain ⟨y, rfl, hy⟩ := VR_i y2
        have : y = 1 := by
          have := congrArg Int32.ofInt hy
          rw [Int32.ofInt_toInt] at this
          exact this
        rw [y1, this]
      · exact y2.elim
    refine ⟨hv, ⟨_, hv⟩, z3, ?_⟩
    have z5' : ∀ q ∈ L9, s.heap.size ≤ q.base := fun q hq => by
      have y : (gs g).heap.size ≤ q.base := z5 q hq
      rw [gs9] at y
      exact y
    exact (sbn_forget z4 z5').mono (by omega) (by omega)
  exact ⟨t, a, o, b1, b2, hF.1, hF.2⟩
