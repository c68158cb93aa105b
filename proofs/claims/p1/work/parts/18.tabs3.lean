/-! ===== small tables: what is made, cast, constants ===== -/
/-- own class, entry, class of objects; places: the link, that it can be made, that it is initialised -/
def rNt : List (Nat × Nat × Nat × Nat × Nat × Nat) := [(0, 9, 5, 87, 308, 65), (0, 15, 2, 89, 90, 56), (0, 22, 3, 145, 146, 58), (0, 129, 8, 661, 662, 78), (2, 9, 4, 95, 96, 57), (3, 9, 1, 151, 489, 72), (5, 29, 10, 314, 315, 68), (5, 64, 7, 589, 590, 76), (7, 28, 6, 595, 597, 77), (11, 8, 0, 79, 80, 55), (11, 90, 9, 963, 964, 59)]
def rN (o idx : Nat) : Option Nat := (rNt.find? (fun e => e.1 == o && e.2.1 == idx)).map (fun e => e.2.2.1)
def rNc (e : Nat × Nat × Nat × Nat × Nat × Nat) : Bool := match clT[e.2.2.1]? with
  | some (C, _, N) => decide (lw_tbl[e.2.2.2.1]? = some (Cond.classLink (oN e.1) e.2.1 C)) && decide (lw_tbl[e.2.2.2.2.1]? = some (Cond.instantiable C N)) && decide (lw_tbl[e.2.2.2.2.2]? = some (Cond.initialized C))
  | none => false
theorem rNt_ok : rNt.all rNc = true := by decide +kernel
theorem rN_NV {o idx ci : Nat} (h : rN o idx = some ci) : NV (oN o) idx ci := by
  unfold rN at h
  obtain ⟨e, he, hek⟩ := Option.map_eq_some_iff.mp h
  have hc := List.all_eq_true.mp rNt_ok e (List.mem_of_find?_eq_some he)
  have hp := List.find?_some he
  simp only [Bool.and_eq_true, beq_iff_eq] at hp
  obtain ⟨e1, e2, e3, e4, e5, e6⟩ := e
  obtain ⟨rfl, rfl⟩ := hp
  cases hek
  unfold rNc at hc
  dsimp only at hc
  split at hc
  · rename_i C T N hcl
    simp only [Bool.and_eq_true, decide_eq_true_eq] at hc
    exact ⟨C, T, N, hcl, List.mem_of_getElem? hc.1.1, List.mem_of_getElem? hc.1.2, List.mem_of_getElem? hc.2⟩
  · cases hc
/-- own class, entry, kind of arrays of references; places: the link, the array class -/
def rAt : List (Nat × Nat × Nat × String × Nat × Nat) := [(0, 9, 4, "FriendBackup$House", 87, 88), (3, 9, 6, "FriendBackup$Chunk", 151, 152), (7, 28, 7, "FriendBackup$Piece", 595, 596), (8, 21, 6, "FriendBackup$Chunk", 667, 152), (10, 7, 8, "java/lang/Object", 571, 564), (15, 2, 8, "java/lang/Object", 565, 564)]
def rA (o idx : Nat) : Option Nat := (rAt.find? (fun e => e.1 == o && e.2.1 == idx)).map (fun e => e.2.2.1)
def rAc (e : Nat × Nat × Nat × String × Nat × Nat) : Bool := decide (3 < e.2.2.1) && decide (e.2.2.1 < 9) && decide (atT e.2.2.1 = .object e.2.2.2.1) && decide (lw_tbl[e.2.2.2.2.1]? = some (Cond.classLink (oN e.1) e.2.1 e.2.2.2.1)) && decide (lw_tbl[e.2.2.2.2.2]? = some (Cond.arrayOver (.object e.2.2.2.1)))
theorem rAt_ok : rAt.all rAc = true := by decide +kernel
theorem rA_ok {o idx t : Nat} (h : rA o idx = some t) : ∃ E, atT t = .object E ∧ (3 < t ∧ t < 9) ∧ Cond.classLink (oN o) idx E ∈ lw_tbl ∧ Cond.arrayOver (.object E) ∈ lw_tbl := by
  unfold rA at h
  obtain ⟨e, he, hek⟩ := Option.map_eq_some_iff.mp h
  have hc := List.all_eq_true.mp rAt_ok e (List.mem_of_find?_eq_some he)
  have hp := List.find?_some he
  simp only [Bool.and_eq_true, beq_iff_eq] at hp
  obtain ⟨e1, e2, e3, e4, e5, e6⟩ := e
  obtain ⟨rfl, rfl⟩ := hp
  cases hek
  unfold rAc at hc
  simp only [Bool.and_eq_true, decide_eq_true_eq] at hc
  exact ⟨e4, hc.1.1.2, hc.1.1.1, List.mem_of_getElem? hc.1.2, List.mem_of_getElem? hc.2⟩
/-- own class, entry, kind that is cast to (1: int[]); places: the link, the cast -/
def rKt : List (Nat × Nat × Nat × Nat × Nat) := [(0, 129, 108, 661, 1318), (0, 148, 107, 707, 1317), (5, 64, 107, 589, 1317), (5, 72, 101, 484, 1316), (8, 33, 1, 674, 0)]
def rK (o idx : Nat) : Option Nat := (rKt.find? (fun e => e.1 == o && e.2.1 == idx)).map (fun e => e.2.2.1)
def rKc (e : Nat × Nat × Nat × Nat × Nat) : Bool := if e.2.2.1 = 1 then decide (lw_tbl[e.2.2.2.1]? = some (Cond.classLink (oN e.1) e.2.1 "[I")) else decide (100 ≤ e.2.2.1) && (match clT[e.2.2.1 - 100]? with
  | some (C, _, _) => decide (lw_tbl[e.2.2.2.1]? = some (Cond.classLink (oN e.1) e.2.1 C)) && decide (lw_tbl[e.2.2.2.2]? = some (Cond.castable C C))
  | none => false)
theorem rKt_ok : rKt.all rKc = true := by decide +kernel
theorem rK_ok {o idx t : Nat} (h : rK o idx = some t) : (t = 1 ∧ Cond.classLink (oN o) idx "[I" ∈ lw_tbl) ∨ ∃ ci, t = 100 + ci ∧ KV (oN o) idx ci := by
  unfold rK at h
  obtain ⟨e, he, hek⟩ := Option.map_eq_some_iff.mp h
  have hc := List.all_eq_true.mp rKt_ok e (List.mem_of_find?_eq_some he)
  have hp := List.find?_some he
  simp only [Bool.and_eq_true, beq_iff_eq] at hp
  obtain ⟨e1, e2, e3, e4, e5⟩ := e
  obtain ⟨rfl, rfl⟩ := hp
  cases hek
  unfold rKc at hc
  dsimp only at hc
  split at hc
  · exact Or.inl ⟨‹_›, List.mem_of_getElem? (of_decide_eq_true hc)⟩
  · obtain ⟨h1, h2⟩ := Bool.and_eq_true_iff.mp hc
    have h1 := of_decide_eq_true h1
    split at h2
    · rename_i C T N hcl
      simp only [Bool.and_eq_true, decide_eq_true_eq] at h2
      exact Or.inr ⟨e3 - 100, (by have q : 100 ≤ e3 := h1; show e3 = 100 + (e3 - 100); omega), C, T, N, C, hcl, List.mem_of_getElem? h2.1, List.mem_of_getElem? h2.2⟩
    · cases h2
/-- constants -/
def rIt : List (Nat × Nat × Int32 × Nat) := [(17, 200, 2147483639, 536), (2, 69, 65521, 752), (9, 84, 144000, 969), (9, 91, 38400, 970)]
def rI (o idx : Nat) : Option Int := (rIt.find? (fun e => e.1 == o && e.2.1 == idx)).map (fun e => e.2.2.1.toInt)
theorem rIt_ok : (rIt.all fun e => decide (lw_tbl[e.2.2.2]? = some (Cond.constant (oN e.1) e.2.1 e.2.2.1))) = true := by decide +kernel
theorem rI_ok {o idx : Nat} {z : Int} (h : rI o idx = some z) : ∃ y : Int32, y.toInt = z ∧ Cond.constant (oN o) idx y ∈ lw_tbl := by
  unfold rI at h
  obtain ⟨e, he, hek⟩ := Option.map_eq_some_iff.mp h
  have hc := List.all_eq_true.mp rIt_ok e (List.mem_of_find?_eq_some he)
  have hp := List.find?_some he
  simp only [Bool.and_eq_true, beq_iff_eq] at hp
  obtain ⟨e1, e2, e3, e4⟩ := e
  obtain ⟨rfl, rfl⟩ := hp
  cases hek
  exact ⟨e3, rfl, List.mem_of_getElem? (of_decide_eq_true hc)⟩
def rJ (o idx : Nat) : Option Int := if o = 9 ∧ idx = 187 then some 65521 else none
theorem rJ_ok {o idx : Nat} {z : Int} (h : rJ o idx = some z) : ∃ y : Int64, y.toInt = z ∧ Cond.constantLong (oN o) idx y ∈ lw_tbl := by
  unfold rJ at h
  split at h
  · rename_i e
    obtain ⟨rfl, rfl⟩ := e
    cases h
    exact ⟨65521, rfl, List.mem_of_getElem? (i := 1193) (by decide +kernel)⟩
  · cases h
/-- exceptions that are made: own class, entry of the class, entry of its constructor -/
def rX (o ik ic : Nat) : Option Nat := if o = 0 ∧ ik = 302 ∧ ic = 304 then some 1 else if o = 0 ∧ ik = 305 ∧ ic = 307 then some 2 else none
theorem tv1 : ((vx_at0 "FriendBackup" 304 (exN 1) exPar).all fun w => decide (w ∈ lw_tbl) && kindOK w) = true := by decide +kernel
theorem tv2 : ((vx_at0 "FriendBackup" 307 (exN 2) exPar).all fun w => decide (w ∈ lw_tbl) && kindOK w) = true := by decide +kernel
theorem rX_ok {o ik ic k : Nat} (h : rX o ik ic = some k) : TV (oN o) ik ic k := by
  unfold rX at h
  split at h
  · rename_i e
    obtain ⟨rfl, rfl, rfl⟩ := e
    cases h
    exact ⟨List.mem_of_getElem? (i := 220) (by decide +kernel), List.mem_of_getElem? (i := 63) (by decide +kernel), by decide +kernel, fun w hw => by simpa using List.all_eq_true.mp tv1 w hw⟩
  · split at h
    · rename_i e
      obtain ⟨rfl, rfl, rfl⟩ := e
      cases h
      exact ⟨List.mem_of_getElem? (i := 285) (by decide +kernel), List.mem_of_getElem? (i := 64) (by decide +kernel), by decide +kernel, fun w hw => by simpa using List.all_eq_true.mp tv2 w hw⟩
    · cases h
