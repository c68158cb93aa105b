/-! ===== 'throw new E()' ===== -/
theorem Rep.keep {g : Gt} {ρ : Nm → Option Nat} {ty : Nm → Nat} {ln : Nm → Int} {I : Nm → Int → Int} {R : Nm → Int → Option Nm} {c w c' w' : Nat} {H H' : Heap} (k : Rep g ρ (ty, ln, I, R, c, w) H) (hz : H.size ≤ H'.size) (ho : ∀ q : Nat, q < H.size → H'[q]? = H[q]?) : Rep g ρ (ty, ln, I, R, c', w') H' := by
  obtain ⟨h1, h2, h3, h4, h5⟩ := k
  have h11 := h1.1
  refine ⟨⟨by omega, h1.2⟩, fun q hq => by rw [ho q (by omega)]; exact h2 q hq, h3, h4, fun n a hn => ?_⟩
  obtain ⟨g1, g2, g3⟩ := h5 n a hn
  refine ⟨fun nM' => by have := g1 nM'; omega, g2, ?_⟩
  by_cases e : n = nM
  · subst e
    show Cel g ρ (ty nM) _ _ _ a H'
    rw [show ty nM = 30 from h1.2.2.2]
    exact trivial
  · exact g3.up (Sb.rf ρ) (ho a (g1 e))
def kindOK (w : Cond) : Bool := goodWord w || (match w with
  | .declares _ => true
  | .castable _ _ => true
  | _ => false)
theorem Gd.wk {g : Gt} (hG : Gd g) {s : State} {args : Array Value} (hW : (gs g).WarmedH s.vm) {w : Cond} (hw : w ∈ lw_tbl) (hk : kindOK w = true) : w.before args s = true := by
  unfold kindOK at hk
  rcases Bool.or_eq_true_iff.mp hk with q | q
  · exact hG.wd hW hw q
  · split at q
    · exact va_Nw.use (A := args) rfl (va_Nw.warmD hW (va_Nw.of rfl (hG.2.1 _ hw)))
    · exact va_Nw.use (A := args) rfl (hG.cast hW hw)
    · cases q
def exPar : List String := ["java/lang/RuntimeException", "java/lang/Exception"]
/-- the words of a throw stand in the tables -/
def TV (own : String) (ik ic k : Nat) : Prop := Cond.classLink own ik (exN k) ∈ lw_tbl ∧ Cond.initialized (exN k) ∈ lw_tbl ∧ Bundle.fit (exN k) = true ∧ ∀ w ∈ vx_at0 own ic (exN k) exPar, w ∈ lw_tbl ∧ kindOK w = true
theorem kind_ot {w : Cond} (h : kindOK w = true) : vx_ot w = true := by
  unfold kindOK at h
  unfold vx_ot
  rcases Bool.or_eq_true_iff.mp h with q | q
  · rw [q]; simp
  · split at q
    · rfl
    · rfl
    · cases q
theorem a_throw {g : Gt} {d : Nat} {M : Mt} {K : Kt} {X : Xt} {pc : Nat} {ls stk : List Vl} {ty : Nm → Nat} {ln : Nm → Int} {I : Nm → Int → Int} {R : Nm → Int → Option Nm} {c1 w1 : Nat} (hG : Gd g) {ik ic k : Nat} (d0 : decode M.2.1 pc = .ok (.new ik, 3)) (d3 : decode M.2.1 (pc + 3) = .ok (.dup, 1)) (d4 : decode M.2.1 (pc + 4) = .ok (.invokespecial ic, 3)) (d7 : decode M.2.1 (pc + 7) = .ok (.athrow, 1))
    (hV : TV M.1.cls ik ic k) (ht : M.2.2.2.2.1 = []) (hls : ls.length = M.2.2.1) (hj : ∀ v ∈ stk, v ≠ vJ) (hrm : (stk.map wgt).sum ≤ 18) (hd9 : 6 ≤ d) (hc1 : 1 ≤ c1) (hw1 : 6 ≤ w1) (hx : X k (ty, ln, I, R, c1 - 1, w1 - 6)) : SW g d M K X pc ls stk (ty, ln, I, R, c1, w1) := by
  intro p e s m args below meth c ρs ρ c0 w0 H lc st locs cells slots C hS hL hst hR h1 h2 h3
  obtain ⟨hex, hb, hml, -, hlk, hown, hW, htb, -⟩ := id C
  rw [ht] at htb
  obtain ⟨hv1, hv2, hv3, hv4⟩ := hV
  have hwt := SR_wgt hst hj
  have g1 : cells + c1 ≤ c0 := h1
  have g2 : slots + w1 ≤ w0 := h2
  intro T hT X0
  have hsz : s.heap.size ≤ T.heap.size := X0.same.2.1
  have Y := vx_rebase X0 (R' := { frames := d, locals := 30 * d + 128, cells := 1, slots := 6 }) (Nat.le_refl _) (Nat.le_refl _) (by show cells + 1 ≤ c0; omega) (by show slots + 6 ≤ w0; omega)
  obtain ⟨s', hs'⟩ : ∃ z, z = (T.setVm s.vm).setFrames (.invoking m args :: below) := ⟨_, rfl⟩
  rw [← hs'] at Y
  have hvm : s'.vm = s.vm := by rw [hs']; rfl
  have hhp : s'.heap = H := by rw [hs']; exact hT
  have hW' : (gs g).WarmedH s'.vm := by rw [hvm]; exact hW
  have hkeep : ∀ q : Nat, q < (gs g).heap.size → ¬ nw g q → s'.heap[q]? = (gs g).heap[q]? := fun q hq _ => by rw [hhp]; exact hR.2.1 q hq
  have hU : vx_Zq Bundle.tN "UNASSIGNED_STACK" Bundle.steD (nw g) s' s'.heap := vx_Zq.moved hW'.alike (hG.2.2.2.1.kept hkeep)
  have hN : vx_Zq Bundle.tN "SUPPRESSED_SENTINEL" Bundle.listD (nw g) s' s'.heap := vx_Zq.moved hW'.alike (hG.2.2.2.2.1.kept hkeep)
  have hrun := vx_throw0 (p := p) (l := gl g) (e := e) (R := { frames := d, locals := 30 * d + 128, cells := 1, slots := 6 }) (s := s') (m := m) (args := args) (below := below) (meth := meth) (c := c) (H := H) (locs := []) (cells := 0) (slots := 0) (ls := lc) (rest := st) (Qc := fun _ _ _ _ => False) (XC := fun E st t => E = exN k ∧ H.size ≤ t.heap.size ∧ ∀ q : Nat, q < H.size → t.heap[q]? = H[q]?) (free := fun _ => False) (mc := 1) (ms := 6) (A := nw g)
    hex hb hG.1 (own := M.1.cls) (cls := exN k) (names := exPar) (by rw [hvm]; exact hown) hv3 (by decide +kernel) (hG.wk hW' hv1 rfl) (hG.wk hW' hv2 rfl) (fun w hw => hG.wk hW' (hv4 w hw).1 (hv4 w hw).2)
    (fun w hw => by
      rcases List.mem_cons.mp hw with rfl | hw
      · rfl
      · rcases List.mem_cons.mp hw with rfl | hw
        · rfl
        · exact kind_ot (hv4 w hw).2)
    hU hN (by rw [hhp]; exact va_S.rf) (by rw [hml]; exact hL.1.trans hls) d0 d3 d4 d7 (by rw [htb]; exact fun x hx => nomatch hx) (by show 2 + 3 < d; omega) (by show _ + (13 * (2 + 1) + 42) ≤ 30 * d + 128; omega) (Nat.le_refl _) (Nat.le_refl _) hlk
    (fun t _ z1 z2 => ⟨rfl, z1, z2⟩) (fun z hz => nomatch hz) (Nat.le_refl _) (Nat.le_refl _)
  obtain ⟨t, a, o, b1, b2, b3⟩ := hrun T hT Y
  rcases b3 with ⟨z, -⟩ | ⟨q, rfl, E, ce, L, ⟨rfl, e1, e2⟩, hce, hcv, hcl, hW2, hsm, hL2⟩
  · exact z.elim
  · have hW0 : s.WarmedH s'.vm := by rw [hvm]; exact State.WarmedH.refl s
    have hLn : L = [] := by
      cases L with
      | nil => rfl
      | cons z r => exact (hL2 z List.mem_cons_self).elim
    subst hLn
    refine ⟨t, a, .threw q, b1, b2, (ty, ln, I, R, c1 - 1, w1 - 6), ρ, locs, hS, hR.keep e1 e2, State.WarmedH.trans hW0 hW2, ?_, h3, by show c1 - 1 ≤ c0; omega, by show w1 - 6 ≤ w0; omega, Or.inr (Or.inr ⟨q, k, ce, rfl, hx, hce, hcv, ?_⟩)⟩
    · subst hs'
      obtain ⟨z1, z2⟩ := hsm
      rw [State.setFrames_setFrames] at z1
      have y2 : (T.setVm s.vm).sameButNew ({ t with vm := s.vm } : State) [] 1 6 := ⟨z1, z2⟩
      have y3 := X0.same.trans y2
      rw [List.append_nil] at y3
      exact y3.mono (by show cells + 1 ≤ c0 - (c1 - 1); omega) (by show slots + 6 ≤ w0 - (w1 - 6); omega)
    · have y : s'.vm.findClass (exN k) = some ce.cls := hcl
      rw [hW'.alike.findClass] at y
      exact y
