/-! ===== fields ===== -/
theorem upN_id {α : Type} (f : Nm → α) (n : Nm) : upN f n (f n) = f := by
  funext x
  unfold upN
  split
  · rw [‹x = n›]
  · rfl
theorem clOK : ∀ (ci : Nat) (C : String) (T : u_T) (N : Nat), clT[ci]? = some (C, T, N) → (∀ w ∈ u_ws C T N, w ∈ lw_tbl) ∧ (∀ a, a < N → ∀ b, b < N → a ≠ b → (T a).2.1 ≠ (T b).2.1) ∧ ∀ k, k < N → parseFieldDescriptor (T k).2.2.1 = some (fyT ci k)
  | 0, _, _, _, h => by cases h; exact ⟨Ti_0, Tn_0, Tt_0⟩
  | 1, _, _, _, h => by cases h; exact ⟨Ti_1, Tn_1, Tt_1⟩
  | 2, _, _, _, h => by cases h; exact ⟨Ti_2, Tn_2, Tt_2⟩
  | 3, _, _, _, h => by cases h; exact ⟨Ti_3, Tn_3, Tt_3⟩
  | 4, _, _, _, h => by cases h; exact ⟨Ti_4, Tn_4, Tt_4⟩
  | 5, _, _, _, h => by cases h; exact ⟨Ti_5, Tn_5, Tt_5⟩
  | 6, _, _, _, h => by cases h; exact ⟨Ti_6, Tn_6, Tt_6⟩
  | 7, _, _, _, h => by cases h; exact ⟨Ti_7, Tn_7, Tt_7⟩
  | 8, _, _, _, h => by cases h; exact ⟨Ti_8, Tn_8, Tt_8⟩
  | 9, _, _, _, h => by cases h; exact ⟨Ti_9, Tn_9, Tt_9⟩
  | 10, _, _, _, h => by cases h; exact ⟨Ti_10, Tn_10, Tt_10⟩
  | n + 11, _, _, _, h => by cases h
/-- the entry idx of the class own's pool is the field k of the class ci -/
def FV (own : String) (idx ci k : Nat) : Prop := ∃ (C : String) (T : u_T) (N : Nat) (ref : String), clT[ci]? = some (C, T, N) ∧ k < N ∧ Cond.fieldLink own idx ref (T k).2.1 (T k).2.2.1 ∈ lw_tbl ∧ ((T k).1 = ref ∨ Cond.sameField ref (T k).1 (T k).2.1 (T k).2.2.1 ∈ lw_tbl)
/-- .. which isn't final, or is the own class's -/
def FP (own : String) (ci k : Nat) : Prop := ∃ (C : String) (T : u_T) (N : Nat), clT[ci]? = some (C, T, N) ∧ ((T k).2.2.2 = false ∨ (T k).1 = own)
theorem lay_good {C : String} {T : u_T} {N : Nat} : ∀ w ∈ u_ws C T N, goodWord w = true := by
  intro w hw
  obtain ⟨k, -, rfl⟩ := List.mem_map.mp hw
  unfold u_lay
  split <;> rfl
theorem Gd.ws {g : Gt} (hG : Gd g) {s : State} {args : Array Value} (hW : (gs g).WarmedH s.vm) {ci : Nat} {C : String} {T : u_T} {N : Nat} (hc : clT[ci]? = some (C, T, N)) : ∀ w ∈ u_ws C T N, w.before args s = true := fun w hw => hG.wd hW ((clOK ci C T N hc).1 w hw) (lay_good w hw)
theorem Gd.same {g : Gt} (hG : Gd g) {s : State} (hW : (gs g).WarmedH s.vm) {ref o n d : String} (h : o = ref ∨ Cond.sameField ref o n d ∈ lw_tbl) (x : ClassId × Class × Nat × Field) (hx : s.fieldFound? o n d = some x) : s.fieldFound? ref n d = some x := by
  rcases h with rfl | h
  · exact hx
  · exact u_same (args := #[]) (hG.wd hW h rfl) x hx
theorem a_get {g : Gt} {d : Nat} {M : Mt} {K : Kt} {X : Xt} {pc : Nat} {ls stk : List Vl} {h : AH} (hG : Gd g) {idx ci k : Nat} {n : Nm} (hd : decode M.2.1 pc = .ok (.getfield idx, 3)) (hf : FV M.1.cls idx ci k) (ht : hT h n = 100 + ci) (kk : SW g d M K X (pc + 3) ls (flv ci (hI h n) (hR h n) k :: stk) h) : SW g d M K X pc ls (vR (some n) :: stk) h := by
  intro p e s m args below meth c ρs ρ c0 w0 H lc st locs cells slots C hS hL hst hR h1 h2 h3
  obtain ⟨x, st1, rfl, hx, hs⟩ := SR_cons hst
  obtain ⟨a, ha, rfl⟩ := VR_r hx
  obtain ⟨CC, T, N, ref, hcl, hk, hlk, hsm⟩ := hf
  obtain ⟨q, V, hq, hO, hV⟩ := hR.obj ha ht
  cases Option.some.inj (hq.symm.trans hcl)
  obtain ⟨hex, hb, -, -, -, hown, hW, -⟩ := id C
  have hKs := hG.K hW
  have hts : ∀ w ∈ u_ws CC T N, w.before args s = true := hG.ws hW hcl
  obtain ⟨cell, q1, q2, q3, q4⟩ := hO
  obtain ⟨hSl, hfc, kC, hkC, hkind⟩ := hKs.1 ci _ hcl
  obtain ⟨cf, kf, fi, f, hi, hsl⟩ := hSl k hk
  refine W.getf hex hb hown (hG.wd hW hlk rfl) (hG.same hW hsm _ hi) (u_facts hfc hkC (u_lays hts (fun _ z => z) hk) hi).1 q1 (by rw [q3]; exact fun z => by cases z) (v := V k) (by rw [hsl, q4 k hk]) rfl rfl hd
    (kk p e s m args below meth c ρs ρ c0 w0 H lc _ locs cells slots C hS hL ⟨hV k hk, hs⟩ hR h1 h2 h3)
theorem a_getI {g : Gt} {d : Nat} {M : Mt} {K : Kt} {X : Xt} {pc : Nat} {ls stk : List Vl} {h : AH} (hG : Gd g) {idx ci k : Nat} {n : Nm} (hd : decode M.2.1 pc = .ok (.getfield idx, 3)) (hf : FV M.1.cls idx ci k) (hr : frf ci k = false) (ht : hT h n = 100 + ci) (kk : SW g d M K X (pc + 3) ls (vI (hI h n k) :: stk) h) : SW g d M K X pc ls (vR (some n) :: stk) h :=
  a_get hG hd hf ht (by unfold flv; rw [if_neg (by rw [hr]; decide)]; exact kk)
theorem a_getR {g : Gt} {d : Nat} {M : Mt} {K : Kt} {X : Xt} {pc : Nat} {ls stk : List Vl} {h : AH} (hG : Gd g) {idx ci k : Nat} {n : Nm} (hd : decode M.2.1 pc = .ok (.getfield idx, 3)) (hf : FV M.1.cls idx ci k) (hr : frf ci k = true) (ht : hT h n = 100 + ci) (kk : SW g d M K X (pc + 3) ls (vR (hR h n k) :: stk) h) : SW g d M K X pc ls (vR (some n) :: stk) h :=
  a_get hG hd hf ht (by unfold flv; rw [if_pos hr]; exact kk)
theorem a_put {g : Gt} {d : Nat} {M : Mt} {K : Kt} {X : Xt} {pc : Nat} {ls stk : List Vl} {ty : Nm → Nat} {ln : Nm → Int} {I : Nm → Int → Int} {R : Nm → Int → Option Nm} {c1 w1 : Nat} (hG : Gd g) {idx ci k : Nat} {n : Nm} {v : Vl} {In : Int → Int} {Rn : Int → Option Nm} (hd : decode M.2.1 pc = .ok (.putfield idx, 3)) (hf : FV M.1.cls idx ci k) (hp : FP M.1.cls ci k) (hin : M.1.name = "<init>" ∨ ∃ C T N, clT[ci]? = some (C, T, N) ∧ (T k).2.2.2 = false) (ht : ty n = 100 + ci) (hw : wr n = true)
    (hfit : ∀ (ρ : Nm → Option Nat) (x : Value), VR ρ v x → narrow (fyT ci k) x = x ∧ fits (fyT ci k) x = true) (hk1 : flv ci In Rn k = v) (hk2 : ∀ j, j ≠ k → flv ci In Rn j = flv ci (I n) (R n) j)
    (kk : SW g d M K X (pc + 3) ls stk (ty, ln, upN I n In, upN R n Rn, c1, w1)) : SW g d M K X pc ls (v :: vR (some n) :: stk) (ty, ln, I, R, c1, w1) := by
  intro p e s m args below meth c ρs ρ c0 w0 H lc st locs cells slots C hS hL hst hR h1 h2 h3
  obtain ⟨xv, st0, rfl, hxv, hs0⟩ := SR_cons hst
  obtain ⟨x, st1, rfl, hx, hs⟩ := SR_cons hs0
  obtain ⟨a, ha, rfl⟩ := VR_r hx
  obtain ⟨CC, T, N, ref, hcl, hk, hlk, hsm⟩ := hf
  obtain ⟨q, V, hq, hO, hV⟩ := hR.obj ha ht
  cases Option.some.inj (hq.symm.trans hcl)
  obtain ⟨hex, hb, -, -, -, hown, hW, -, hnm⟩ := id C
  have hKs := hG.K hW
  have hts : ∀ w ∈ u_ws CC T N, w.before args s = true := hG.ws hW hcl
  obtain ⟨cell, q1, q2, q3, q4⟩ := hO
  obtain ⟨hSl, hfc, kC, hkC, hkind⟩ := hKs.1 ci _ hcl
  obtain ⟨cf, kf, fi, f, hi, hsl⟩ := hSl k hk
  obtain ⟨-, hdis, htys⟩ := clOK ci CC T N hcl
  have hap := va_apart (own := M.1.cls) hts (fun _ z => z) (fyT ci) htys hdis hKs hcl
  have hst9 := (u_facts hfc hkC (u_lays hts (fun _ z => z) hk) hi).1
  obtain ⟨hna, hfi⟩ := hfit ρ xv hxv
  have hanw : nw g a := (hR.2.2.2.2 n a ha).2.1 hw
  have hlay := hts _ (u_in_lay hk)
  have fin : ∀ (H' : Heap), H'[a]? = some (cell.setSlot f.slot xv) → H'.size = H.size → (∀ q, q ≠ a → H'[q]? = H[q]?) → W p (gl g) e (rmv d c0 w0) s m args below meth c H' (locs ++ [⟨a, f.slot⟩]) cells slots (Qf g ρs K X s below c0 w0) (F0 m (pc + 3) lc st1) := by
    intro H' e1 e2 e3
    rw [hsl] at e1
    have hO' : t_OB a ((gD g).1 ci) N ((gD g).2 ci) H' (updV V k xv) := ⟨_, e1, q2, q3, t_set q4 hap hk xv⟩
    refine kk p e s m args below meth c ρs ρ c0 w0 H' lc _ _ cells slots C hS hL hs (hR.put ha hw e2 e3 ?_) h1 h2 ?_
    · unfold Cel
      rw [ht, if_neg (by omega), if_neg (by omega), if_neg (by omega), show 100 + ci - 100 = ci by omega]
      refine ⟨_, _, hcl, hO', fun j hj => ?_⟩
      by_cases ej : j = k
      · subst ej
        rw [hk1]
        simp only [updV, if_pos]
        exact hxv
      · rw [hk2 j ej]
        simp only [updV, if_neg ej]
        exact hV j hj
    · intro z hz
      rcases List.mem_append.mp hz with h4 | h4
      · exact h3 z h4
      · rw [List.mem_singleton.mp h4]; exact hanw
  obtain ⟨C9, T9, N9, hc9, hp9⟩ := hp
  cases Option.some.inj (hc9.symm.trans hcl)
  unfold u_lay at hlay
  by_cases hff : (T k).2.2.2 = true
  · rw [if_pos hff] at hlay
    have hdecl : (T k).1 = M.1.cls := by
      rcases hp9 with z | z
      · rw [hff] at z; cases z
      · exact z
    have hni : meth.name = "<init>" := by
      rcases hin with z | ⟨C8, T8, N8, hc8, z⟩
      · rw [hnm]; exact z
      · cases Option.some.inj (hc8.symm.trans hcl); rw [hff] at z; cases z
    have hcf : m.cls = cf := by
      obtain ⟨_, _, c', _, _, _, -, -, hf', -, -, -, hown2, -⟩ := Cond.laysFinal_spec hlay
      have e1 : c' = cf := by have := hi.symm.trans hf'; simp at this; exact this.1.symm
      rw [hdecl] at hown2
      rw [← e1]; exact Option.some.inj (hown.symm.trans hown2)
    have h6 := u_fits hfc hkC hkind (Or.inr hlay) hi (htys k hk) hna hfi
    exact W.putFinK hex hb hown (hG.wd hW hlk rfl) (hG.same hW hsm _ hi) hst9 hcf hni (by rw [q2]; exact h6) q1 q3 (by rw [hsl]; exact k2_hasslot (q4 k hk)) rfl rfl hd fun H' e1 e2 e3 => fin H' e1 e2 e3
  · rw [if_neg hff] at hlay
    have h6 := u_store hfc hkC hkind hlay hi (htys k hk) hna hfi
    exact W.putK hex hb (f := f) ⟨hown, hG.wd hW hlk rfl, ⟨_, _, _, hG.same hW hsm _ hi⟩, hst9⟩ (by rw [q2]; exact h6) q1 q3 (by rw [hsl]; exact k2_hasslot (q4 k hk)) rfl rfl hd fun H' e1 e2 e3 => fin H' e1 e2 e3
theorem a_putI {g : Gt} {d : Nat} {M : Mt} {K : Kt} {X : Xt} {pc : Nat} {ls stk : List Vl} {ty : Nm → Nat} {ln : Nm → Int} {I : Nm → Int → Int} {R : Nm → Int → Option Nm} {c1 w1 : Nat} (hG : Gd g) {idx ci k : Nat} {n : Nm} {z : Int} (hd : decode M.2.1 pc = .ok (.putfield idx, 3)) (hf : FV M.1.cls idx ci k) (hp : FP M.1.cls ci k) (hin : M.1.name = "<init>" ∨ ∃ C T N, clT[ci]? = some (C, T, N) ∧ (T k).2.2.2 = false) (hr : frf ci k = false) (hty : fyT ci k = .int) (ht : ty n = 100 + ci) (hw : wr n = true)
    (kk : SW g d M K X (pc + 3) ls stk (ty, ln, up2 I n k z, R, c1, w1)) : SW g d M K X pc ls (vI z :: vR (some n) :: stk) (ty, ln, I, R, c1, w1) := by
  refine a_put hG hd hf hp hin ht hw (In := upI (I n) k z) (Rn := R n) (fun ρ x hx => by obtain ⟨y, rfl, -⟩ := VR_i hx; rw [hty]; exact ⟨rfl, rfl⟩) ?_ ?_ ?_
  · unfold flv; rw [if_neg (by rw [hr]; decide), upI_self]
  · intro j hj
    unfold flv
    rw [upI_ne _ _ (by omega)]
  · rw [upN_id]; exact kk
theorem a_putZ {g : Gt} {d : Nat} {M : Mt} {K : Kt} {X : Xt} {pc : Nat} {ls stk : List Vl} {ty : Nm → Nat} {ln : Nm → Int} {I : Nm → Int → Int} {R : Nm → Int → Option Nm} {c1 w1 : Nat} (hG : Gd g) {idx ci k : Nat} {n : Nm} {z : Int} (hd : decode M.2.1 pc = .ok (.putfield idx, 3)) (hf : FV M.1.cls idx ci k) (hp : FP M.1.cls ci k) (hin : M.1.name = "<init>" ∨ ∃ C T N, clT[ci]? = some (C, T, N) ∧ (T k).2.2.2 = false) (hr : frf ci k = false) (hty : fyT ci k = .boolean) (hz : z = 0 ∨ z = 1) (ht : ty n = 100 + ci) (hw : wr n = true)
    (kk : SW g d M K X (pc + 3) ls stk (ty, ln, up2 I n k z, R, c1, w1)) : SW g d M K X pc ls (vI z :: vR (some n) :: stk) (ty, ln, I, R, c1, w1) := by
  refine a_put hG hd hf hp hin ht hw (In := upI (I n) k z) (Rn := R n) (fun ρ x hx => by
    obtain ⟨y, rfl, hy⟩ := VR_i hx
    rw [hty]
    have : y = 0 ∨ y = 1 := by
      rcases hz with rfl | rfl
      · exact Or.inl (Int32.toInt_inj.mp hy)
      · exact Or.inr (Int32.toInt_inj.mp hy)
    rcases this with rfl | rfl <;> exact ⟨rfl, rfl⟩) ?_ ?_ ?_
  · unfold flv; rw [if_neg (by rw [hr]; decide), upI_self]
  · intro j hj
    unfold flv
    rw [upI_ne _ _ (by omega)]
  · rw [upN_id]; exact kk
theorem a_putR {g : Gt} {d : Nat} {M : Mt} {K : Kt} {X : Xt} {pc : Nat} {ls stk : List Vl} {ty : Nm → Nat} {ln : Nm → Int} {I : Nm → Int → Int} {R : Nm → Int → Option Nm} {c1 w1 : Nat} (hG : Gd g) {idx ci k : Nat} {n : Nm} {z : Option Nm} (hd : decode M.2.1 pc = .ok (.putfield idx, 3)) (hf : FV M.1.cls idx ci k) (hp : FP M.1.cls ci k) (hin : M.1.name = "<init>" ∨ ∃ C T N, clT[ci]? = some (C, T, N) ∧ (T k).2.2.2 = false) (hr : frf ci k = true) (hty : (∃ q, fyT ci k = .object q) ∨ ∃ q, fyT ci k = .array q) (ht : ty n = 100 + ci) (hw : wr n = true)
    (kk : SW g d M K X (pc + 3) ls stk (ty, ln, I, up2 R n k z, c1, w1)) : SW g d M K X pc ls (vR z :: vR (some n) :: stk) (ty, ln, I, R, c1, w1) := by
  refine a_put hG hd hf hp hin ht hw (In := I n) (Rn := upI (R n) k z) (fun ρ x hx => ?_) ?_ ?_ ?_
  · have hxx : x = .null ∨ ∃ a, x = .ref a := by
      cases z with
      | none => exact Or.inl (VR_n hx)
      | some n => obtain ⟨a, -, e⟩ := VR_r hx; exact Or.inr ⟨a, e⟩
    rcases hty with ⟨q, hq⟩ | ⟨q, hq⟩ <;> rw [hq] <;> rcases hxx with rfl | ⟨a, rfl⟩ <;> exact ⟨rfl, rfl⟩
  · unfold flv; rw [if_pos hr, upI_self]
  · intro j hj
    unfold flv
    rw [upI_ne _ _ (by omega)]
  · rw [upN_id]; exact kk
