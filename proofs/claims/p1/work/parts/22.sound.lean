/-! ===== the abstract machine's runs are the machine's ===== -/
theorem CT.mono {g : Gt} {d : Nat} {M : Mt} {vs : List Vl} {h : AH} {K K' : Kt} {X X' : Xt} (hK : ∀ v h, K v h → K' v h) (hX : ∀ k h, X k h → X' k h) (k : CT g d M vs h K X) : CT g d M vs h K' X' := by
  intro ρ p e ha hc hk s m args below hf happ hP hT
  obtain ⟨n, o, h1, h2, h3, h', ρ', L, f1, f2, f3, f4, f5, f6, f7, f8⟩ := k ρ p e ha hc hk s m args below hf happ hP hT
  refine ⟨n, o, h1, h2, h3, h', ρ', L, f1, f2, f3, f4, f5, f6, f7, ?_⟩
  rcases f8 with ⟨q1, q2⟩ | ⟨v, x, q1, q2, q3, q4⟩ | ⟨q, kk, ce, q1, q2, q3⟩
  · exact Or.inl ⟨q1, hK _ _ q2⟩
  · exact Or.inr (Or.inl ⟨v, x, q1, q2, q3, hK _ _ q4⟩)
  · exact Or.inr (Or.inr ⟨q, kk, ce, q1, hX _ _ q2, q3⟩)
theorem noJ_ok {s : List Vl} (h : noJ s = true) : ∀ v ∈ s, v ≠ vJ := by
  intro v hv e
  subst e
  have := List.all_eq_true.mp h _ hv
  cases this
theorem rmB_ok {M N : Mt} {ls r : List Vl} (h : rmB M N ls r = true) : (r.map wgt).sum + N.2.2.1 + 11 ≤ 30 ∧ (∀ v ∈ r, v ≠ vJ) ∧ ls.length = M.2.2.1 := by
  unfold rmB at h
  simp only [Bool.and_eq_true, decide_eq_true_eq] at h
  exact ⟨h.1.1, noJ_ok h.1.2, h.2⟩
theorem ntB_ok {M : Mt} {d : Nat} {ls r : List Vl} (h : ntB M d ls r = true) : (r.map wgt).sum ≤ 18 ∧ (∀ v ∈ r, v ≠ vJ) ∧ ls.length = M.2.2.1 := by
  unfold ntB at h
  simp only [Bool.and_eq_true, decide_eq_true_eq] at h
  exact ⟨h.1.1, noJ_ok h.1.2, h.2⟩
theorem tg_ok {pc : Nat} {off : Int} (h : 0 ≤ (pc : Int) + off) : (pc : Int) + off = ((tg pc off : Nat) : Int) := by
  unfold tg
  omega
theorem cl13 : Cond.classLink "FriendBackupLaw" 13 (exN 1) ∈ lw_tbl ∧ Cond.classLink "FriendBackupLaw" 15 (exN 2) ∈ lw_tbl ∧ Cond.castable (exN 1) (exN 1) ∈ lw_tbl ∧ Cond.castable (exN 2) (exN 2) ∈ lw_tbl := ⟨List.mem_of_getElem? (i := 211) (by decide +kernel), List.mem_of_getElem? (i := 212) (by decide +kernel), List.mem_of_getElem? (i := 222) (by decide +kernel), List.mem_of_getElem? (i := 287) (by decide +kernel)⟩
theorem thr_TH {g : Gt} (hG : Gd g) {d : Nat} {M : Mt} (hM : oN M.2.2.2.2.2 = M.1.cls) {K : Kt} {X : Xt} {pc : Nat} {ls : List Vl} : ∀ k h, thr M X (SW g d M K X) pc ls k h → TH g d M K X pc ls k h := by
  intro k h
  unfold thr
  split
  · rename_i e
    exact TH.out e
  · rename_i a1 b1 p1 t1 e
    rintro ⟨q1, q2, q5, rfl, rfl, z⟩
    rw [q5] at hM
    have hcls : M.1.cls = "FriendBackupLaw" := hM.symm
    exact TH.c1 hG e ⟨q1, q2⟩ (by decide) (by rw [hcls]; exact cl13.1) cl13.2.2.1 z
  · rename_i a1 b1 p1 t1 a2 b2 p2 t2 e
    rintro ⟨q1, q2, q3, q4, q5, rfl, rfl, q8⟩
    rw [q5] at hM
    have hcls : M.1.cls = "FriendBackupLaw" := hM.symm
    rcases q8 with ⟨rfl, z⟩ | ⟨rfl, z⟩
    · exact TH.c1 hG e ⟨q1, q2⟩ (by decide) (by rw [hcls]; exact cl13.1) cl13.2.2.1 z
    · exact TH.c2 hG e ⟨q3, q4⟩ (by decide) (by decide) (by rw [hcls]; exact cl13.1) (by rw [hcls]; exact cl13.2.1) cl13.2.2.2 z
  · exact False.elim
theorem onS1_ok {vs : List Vl} (h : onS1 vs = true) : ∀ v ∈ vs, oneW v = true := fun v hv => List.all_eq_true.mp h v hv
theorem nP_ok {N : Mt} {n : Nat} (hV : MV N) {s : State} {args : Array Value} {m : MethodId} (hn : s.methodNamed? N.1 = some m) (h : (codeW N).before args s = true) (hp : nP N = n) : (parseMethodDescriptor N.1.desc).map (fun q => q.parameters.length) = some n := by
  obtain ⟨meth, c, -, -, -, -, -, -, -, hsig⟩ := codeW_spec hn h
  unfold nP at hp
  rw [hsig] at hp ⊢
  exact congrArg some hp
theorem np_of {g : Gt} (hG : Gd g) {N : Mt} (hV : MV N) : (parseMethodDescriptor N.1.desc).map (fun q => q.parameters.length) = some (nP N) := by
  have h := hG.2.1 _ hV.2.2.1
  obtain ⟨m, hn⟩ := codeW_named h
  exact nP_ok hV hn h rfl
theorem td_len {n : Nat} {s : List Vl} (h : n ≤ s.length) : (s.take n).reverse.length = n ∧ ((s.take n).reverse).reverse ++ s.drop n = s := by
  refine ⟨by rw [List.length_reverse, List.length_take]; omega, by rw [List.reverse_reverse, List.take_append_drop]⟩
theorem av_ok {t cv : Nat} (h : avB t cv = true) : AV t cv := by
  unfold avB at h
  split at h
  · rename_i C T N hc
    split at h
    · rename_i E he
      rcases Bool.or_eq_true_iff.mp h with q | q
      · exact ⟨C, T, N, E, hc, he, Or.inl (of_decide_eq_true q)⟩
      · obtain ⟨q1, q2⟩ := Bool.and_eq_true_iff.mp q
        have q1 := of_decide_eq_true q1
        have q2 := of_decide_eq_true q2
        subst q1
        refine ⟨C, T, N, _, hc, he, Or.inr ?_⟩
        match cv, hc, q2 with
        | 0, hc, _ => cases hc; exact List.mem_of_getElem? (i := 1322) (by decide +kernel)
        | 1, hc, _ => cases hc; exact List.mem_of_getElem? (i := 1328) (by decide +kernel)
        | 2, hc, _ => cases hc; exact List.mem_of_getElem? (i := 1323) (by decide +kernel)
        | 3, hc, _ => cases hc; exact List.mem_of_getElem? (i := 1325) (by decide +kernel)
        | 4, hc, _ => cases hc; exact List.mem_of_getElem? (i := 1324) (by decide +kernel)
        | 5, hc, _ => cases hc; exact List.mem_of_getElem? (i := 1327) (by decide +kernel)
        | 6, hc, _ => cases hc; exact List.mem_of_getElem? (i := 1330) (by decide +kernel)
        | 7, hc, _ => cases hc; exact List.mem_of_getElem? (i := 1329) (by decide +kernel)
        | 8, hc, _ => cases hc; exact List.mem_of_getElem? (i := 1331) (by decide +kernel)
        | 9, hc, _ => cases hc; exact List.mem_of_getElem? (i := 1326) (by decide +kernel)
        | n + 10, _, h => exact absurd h (by omega)
    · cases h
  · cases h
theorem yv {o idx k : Nat} {N : Mt} (h : rM o idx = some (k, N)) (hk : k = 4) : YV (oN o) idx := by
  subst hk
  exact ⟨rM_sp h (by decide), List.mem_of_getElem? (i := 496) (by decide +kernel), List.mem_of_getElem? (i := 495) (by decide +kernel), List.mem_of_getElem? (i := 73) (by decide +kernel)⟩
theorem a_max {g : Gt} {d : Nat} {M : Mt} {K : Kt} {X : Xt} {pc : Nat} {ls stk : List Vl} {h : AH} (hG : Gd g) {idx : Nat} {a b : Int} (hd : decode M.2.1 pc = .ok (.invokestatic idx, 3)) (hlk : Cond.methodLink M.1.cls idx Lib.Math.max.name ∈ lw_tbl) (hls : ls.length = M.2.2.1) (hj : ∀ v ∈ stk, v ≠ vJ) (hrm : (stk.map wgt).sum ≤ 18) (kk : SW g (d + 1) M K X (pc + 3) ls (vI (if a < b then b else a) :: stk) h) : SW g (d + 1) M K X pc ls (vI b :: vI a :: stk) h := by
  intro p e s m args below meth c ρs ρ c0 w0 H lc st locs cells slots C hS hL hst hR h1 h2 h3
  obtain ⟨_, st1, rfl, ⟨iy, rfl, rfl⟩, hs1⟩ := SR_cons hst
  obtain ⟨_, st2, rfl, ⟨ix, rfl, rfl⟩, hs⟩ := SR_cons hs1
  obtain ⟨hex, hb, hml, -, -, hown, hW, -⟩ := id C
  have hwt := SR_wgt hs hj
  exact va_mmax hex hb (by rw [hml]; exact (hL.1.trans hls).symm) hown (hG.wd hW hlk rfl) (hG.wd hW (List.mem_of_getElem? (i := 425) (by decide +kernel)) rfl) (hG.wd hW (List.mem_of_getElem? (i := 69) (by decide +kernel)) rfl) (hG.wd hW (List.mem_of_getElem? (i := 426) (by decide +kernel)) rfl) (by show 1 ≤ d + 1; omega) (by show _ + 13 ≤ 30 * (d + 1) + 128; omega) (by show cells ≤ c0; omega) (by show slots ≤ w0; omega) hd
    (kk p e s m args below meth c ρs ρ c0 w0 H lc _ locs cells slots C hS hL ⟨⟨_, rfl, by simp only [Int32.lt_iff_toInt_lt]; split <;> rfl⟩, hs⟩ hR h1 h2 h3)
theorem a_min {g : Gt} {d : Nat} {M : Mt} {K : Kt} {X : Xt} {pc : Nat} {ls stk : List Vl} {h : AH} (hG : Gd g) {idx : Nat} {a b : Int} (hd : decode M.2.1 pc = .ok (.invokestatic idx, 3)) (hlk : Cond.methodLink M.1.cls idx Lib.Math.min.name ∈ lw_tbl) (hls : ls.length = M.2.2.1) (hj : ∀ v ∈ stk, v ≠ vJ) (hrm : (stk.map wgt).sum ≤ 18) (kk : SW g (d + 1) M K X (pc + 3) ls (vI (if b < a then b else a) :: stk) h) : SW g (d + 1) M K X pc ls (vI b :: vI a :: stk) h := by
  intro p e s m args below meth c ρs ρ c0 w0 H lc st locs cells slots C hS hL hst hR h1 h2 h3
  obtain ⟨_, st1, rfl, ⟨iy, rfl, rfl⟩, hs1⟩ := SR_cons hst
  obtain ⟨_, st2, rfl, ⟨ix, rfl, rfl⟩, hs⟩ := SR_cons hs1
  obtain ⟨hex, hb, hml, -, -, hown, hW, -⟩ := id C
  have hwt := SR_wgt hs hj
  exact va_mmin hex hb (by rw [hml]; exact (hL.1.trans hls).symm) hown (hG.wd hW hlk rfl) (hG.wd hW (List.mem_of_getElem? (i := 567) (by decide +kernel)) rfl) (hG.wd hW (List.mem_of_getElem? (i := 69) (by decide +kernel)) rfl) (hG.wd hW (List.mem_of_getElem? (i := 568) (by decide +kernel)) rfl) (by show 1 ≤ d + 1; omega) (by show _ + 13 ≤ 30 * (d + 1) + 128; omega) (by show cells ≤ c0; omega) (by show slots ≤ w0; omega) hd
    (kk p e s m args below meth c ρs ρ c0 w0 H lc _ locs cells slots C hS hL ⟨⟨_, rfl, by simp only [Int32.lt_iff_toInt_lt]; split <;> rfl⟩, hs⟩ hR h1 h2 h3)
theorem hM9 (N : Mt) (hO : oN N.2.2.2.2.2 = N.1.cls) (hq : clT[N.2.2.2.2.2]? = none) : 11 ≤ N.2.2.2.2.2 := by
  rcases Nat.lt_or_ge N.2.2.2.2.2 11 with h | h
  · have : clT.length = 11 := rfl
    rw [List.getElem?_eq_none_iff] at hq
    omega
  · exact h
set_option maxHeartbeats 4000000 in
theorem iarm_sound {g : Gt} (hG : Gd g) {call : Ct} {d : Nat} (hcall : ∀ N vs h K X, (∀ v ∈ vs, oneW v = true) → MV N → oN N.2.2.2.2.2 = N.1.cls → call N vs h K X → CT g d N vs h K X) {M : Mt} (hM : oN M.2.2.2.2.2 = M.1.cls) {K : Kt} {X : Xt} {pc : Nat} {ls stk : List Vl} {h : AH} {i : Instr} {n0 : Nat} (hd : decode M.2.1 pc = .ok (i, n0))
    (k : iarm call d M K X (SW g (d + 1) M K X) pc ls stk h i n0) : SW g (d + 1) M K X pc ls stk h := by
  cases i with
  | iconst n =>
    obtain ⟨rfl, k⟩ := k; exact a_iconst hd rfl k
  | bipush n =>
    obtain ⟨rfl, k⟩ := k; exact a_bipush hd rfl k
  | sipush n =>
    obtain ⟨rfl, k⟩ := k; exact a_sipush hd rfl k
  | lconst n =>
    obtain ⟨rfl, k⟩ := k; exact a_lconst hd rfl k
  | aconst_null =>
    obtain ⟨rfl, k⟩ := k; exact a_null hd k
  | iload_n j =>
    obtain ⟨rfl, k⟩ := k; replace k := onS_e k; obtain ⟨v, hv, k⟩ := k; replace k := onI_e k; obtain ⟨z, rfl, k⟩ := k; exact a_iload_n hd rfl hv k
  | iload j =>
    obtain ⟨rfl, k⟩ := k; replace k := onS_e k; obtain ⟨v, hv, k⟩ := k; replace k := onI_e k; obtain ⟨z, rfl, k⟩ := k; exact a_iload hd hv k
  | lload j =>
    obtain ⟨rfl, k⟩ := k; replace k := onS_e k; obtain ⟨v, hv, k⟩ := k; replace k := onL_e k; obtain ⟨z, rfl, k⟩ := k; exact a_lload hd hv k
  | aload_n j =>
    obtain ⟨rfl, k⟩ := k; replace k := onS_e k; obtain ⟨v, hv, k⟩ := k; replace k := onR_e k; obtain ⟨z, rfl, k⟩ := k; exact a_aload_n hd rfl hv k
  | aload j =>
    obtain ⟨rfl, k⟩ := k; replace k := onS_e k; obtain ⟨v, hv, k⟩ := k; replace k := onR_e k; obtain ⟨z, rfl, k⟩ := k; exact a_aload hd hv k
  | istore_n j =>
    obtain ⟨rfl, k⟩ := k; replace k := on1_e k; obtain ⟨v, r, rfl, k⟩ := k; replace k := onI_e k; obtain ⟨z, rfl, hi, hn, k⟩ := k; exact a_istore_n hd rfl hi (noLb_ok hn) k
  | istore j =>
    obtain ⟨rfl, k⟩ := k; replace k := on1_e k; obtain ⟨v, r, rfl, k⟩ := k; replace k := onI_e k; obtain ⟨z, rfl, hi, hn, k⟩ := k; exact a_istore hd hi (noLb_ok hn) k
  | astore_n j =>
    obtain ⟨rfl, k⟩ := k; replace k := on1_e k; obtain ⟨v, r, rfl, hr, hi, hn, k⟩ := k; exact a_astore_n (isRf_ok hr) hd rfl hi (noLb_ok hn) k
  | astore j =>
    obtain ⟨rfl, k⟩ := k; replace k := on1_e k; obtain ⟨v, r, rfl, hr, hi, hn, k⟩ := k; exact a_astore (isRf_ok hr) hd hi (noLb_ok hn) k
  | lstore j =>
    obtain ⟨rfl, k⟩ := k; replace k := on1_e k; obtain ⟨v, r, rfl, k⟩ := k; replace k := onL_e k; obtain ⟨z, rfl, hi, hn, k⟩ := k; exact a_lstore hd hi (noLb_ok hn) k
  | iinc i n =>
    obtain ⟨rfl, k⟩ := k; replace k := onS_e k; obtain ⟨v, hv, k⟩ := k; replace k := onI_e k; obtain ⟨z, rfl, hn, k⟩ := k; exact a_iinc hd hv (noLb_ok hn) k
  | iadd =>
    obtain ⟨rfl, k⟩ := k; replace k := on1_e k; obtain ⟨y, r, rfl, k⟩ := k; replace k := on1_e k; obtain ⟨x, r, rfl, k⟩ := k; replace k := onI_e k; obtain ⟨b, rfl, k⟩ := k; replace k := onI_e k; obtain ⟨a, rfl, k⟩ := k; exact a_iadd hd k
  | isub =>
    obtain ⟨rfl, k⟩ := k; replace k := on1_e k; obtain ⟨y, r, rfl, k⟩ := k; replace k := on1_e k; obtain ⟨x, r, rfl, k⟩ := k; replace k := onI_e k; obtain ⟨b, rfl, k⟩ := k; replace k := onI_e k; obtain ⟨a, rfl, k⟩ := k; exact a_isub hd k
  | imul =>
    obtain ⟨rfl, k⟩ := k; replace k := on1_e k; obtain ⟨y, r, rfl, k⟩ := k; replace k := on1_e k; obtain ⟨x, r, rfl, k⟩ := k; replace k := onI_e k; obtain ⟨b, rfl, k⟩ := k; replace k := onI_e k; obtain ⟨a, rfl, k⟩ := k; exact a_imul hd k
  | iand =>
    obtain ⟨rfl, k⟩ := k; replace k := on1_e k; obtain ⟨y, r, rfl, k⟩ := k; replace k := on1_e k; obtain ⟨x, r, rfl, k⟩ := k; replace k := onI_e k; obtain ⟨b, rfl, k⟩ := k; replace k := onI_e k; obtain ⟨a, rfl, k⟩ := k; exact a_iand hd k
  | ixor =>
    obtain ⟨rfl, k⟩ := k; replace k := on1_e k; obtain ⟨y, r, rfl, k⟩ := k; replace k := on1_e k; obtain ⟨x, r, rfl, k⟩ := k; replace k := onI_e k; obtain ⟨b, rfl, k⟩ := k; replace k := onI_e k; obtain ⟨a, rfl, k⟩ := k; exact a_ixor hd k
  | ishl =>
    obtain ⟨rfl, k⟩ := k; replace k := on1_e k; obtain ⟨y, r, rfl, k⟩ := k; replace k := on1_e k; obtain ⟨x, r, rfl, k⟩ := k; replace k := onI_e k; obtain ⟨b, rfl, k⟩ := k; replace k := onI_e k; obtain ⟨a, rfl, k⟩ := k; exact a_ishl hd k
  | ishr =>
    obtain ⟨rfl, k⟩ := k; replace k := on1_e k; obtain ⟨y, r, rfl, k⟩ := k; replace k := on1_e k; obtain ⟨x, r, rfl, k⟩ := k; replace k := onI_e k; obtain ⟨b, rfl, k⟩ := k; replace k := onI_e k; obtain ⟨a, rfl, k⟩ := k; exact a_ishr hd k
  | idiv =>
    obtain ⟨rfl, k⟩ := k; replace k := on1_e k; obtain ⟨y, r, rfl, k⟩ := k; replace k := on1_e k; obtain ⟨x, r, rfl, k⟩ := k; replace k := onI_e k; obtain ⟨b, rfl, k⟩ := k; replace k := onI_e k; obtain ⟨a, rfl, k⟩ := k; exact a_idiv hd k.1 k.2
  | irem =>
    obtain ⟨rfl, k⟩ := k; replace k := on1_e k; obtain ⟨y, r, rfl, k⟩ := k; replace k := on1_e k; obtain ⟨x, r, rfl, k⟩ := k; replace k := onI_e k; obtain ⟨b, rfl, k⟩ := k; replace k := onI_e k; obtain ⟨a, rfl, k⟩ := k; exact a_irem hd k.1 k.2
  | ladd =>
    obtain ⟨rfl, k⟩ := k; replace k := on1_e k; obtain ⟨y, r, rfl, k⟩ := k; replace k := on1_e k; obtain ⟨x, r, rfl, k⟩ := k; replace k := onL_e k; obtain ⟨b, rfl, k⟩ := k; replace k := onL_e k; obtain ⟨a, rfl, k⟩ := k; exact a_ladd hd k
  | lmul =>
    obtain ⟨rfl, k⟩ := k; replace k := on1_e k; obtain ⟨y, r, rfl, k⟩ := k; replace k := on1_e k; obtain ⟨x, r, rfl, k⟩ := k; replace k := onL_e k; obtain ⟨b, rfl, k⟩ := k; replace k := onL_e k; obtain ⟨a, rfl, k⟩ := k; exact a_lmul hd k
  | lcmp =>
    obtain ⟨rfl, k⟩ := k; replace k := on1_e k; obtain ⟨y, r, rfl, k⟩ := k; replace k := on1_e k; obtain ⟨x, r, rfl, k⟩ := k; replace k := onL_e k; obtain ⟨b, rfl, k⟩ := k; replace k := onL_e k; obtain ⟨a, rfl, k⟩ := k; exact a_lcmp hd k
  | lrem =>
    obtain ⟨rfl, k⟩ := k; replace k := on1_e k; obtain ⟨y, r, rfl, k⟩ := k; replace k := on1_e k; obtain ⟨x, r, rfl, k⟩ := k; replace k := onL_e k; obtain ⟨b, rfl, k⟩ := k; replace k := onL_e k; obtain ⟨a, rfl, k⟩ := k; exact a_lrem hd k.1 k.2
  | i2l =>
    obtain ⟨rfl, k⟩ := k; replace k := on1_e k; obtain ⟨y, r, rfl, k⟩ := k; replace k := onI_e k; obtain ⟨b, rfl, k⟩ := k; exact a_i2l hd k
  | l2i =>
    obtain ⟨rfl, k⟩ := k; replace k := on1_e k; obtain ⟨y, r, rfl, k⟩ := k; replace k := onL_e k; obtain ⟨b, rfl, k⟩ := k; exact a_l2i hd k
  | dup =>
    obtain ⟨rfl, k⟩ := k; replace k := on1_e k; obtain ⟨v, r, rfl, h1, k⟩ := k; exact a_dup h1 hd k
  | pop =>
    obtain ⟨rfl, k⟩ := k; replace k := on1_e k; obtain ⟨v, r, rfl, h1, k⟩ := k; exact a_pop h1 hd k
  | dup_x1 =>
    obtain ⟨rfl, k⟩ := k; replace k := on1_e k; obtain ⟨v, r, rfl, k⟩ := k; replace k := on1_e k; obtain ⟨u, r, rfl, ⟨h1, h2⟩, k⟩ := k; exact a_dup_x1 h1 h2 hd k
  | dup2 =>
    obtain ⟨rfl, k⟩ := k; replace k := on1_e k; obtain ⟨v, r, rfl, k⟩ := k; replace k := on1_e k; obtain ⟨u, r, rfl, ⟨h1, h2⟩, k⟩ := k; exact a_dup2 h1 h2 hd k
  | ifCond c off =>
    obtain ⟨rfl, k⟩ := k; replace k := on1_e k; obtain ⟨v, r, rfl, k⟩ := k; replace k := onI_e k; obtain ⟨x, rfl, h0, k⟩ := k
    cases c
    · exact a_if_eq hd (tg_ok h0) (fun q => by rw [if_pos (show cnd .eq x 0 = true from decide_eq_true q)] at k; exact k) (fun q => by rw [if_neg (show ¬ cnd .eq x 0 = true from fun z => q (of_decide_eq_true z))] at k; exact k)
    · exact a_if_ne hd (tg_ok h0) (fun q => by rw [if_pos (show cnd .ne x 0 = true from decide_eq_true q)] at k; exact k) (fun q => by rw [if_neg (show ¬ cnd .ne x 0 = true from fun z => q (of_decide_eq_true z))] at k; exact k)
    · exact a_if_lt hd (tg_ok h0) (fun q => by rw [if_pos (show cnd .lt x 0 = true from decide_eq_true q)] at k; exact k) (fun q => by rw [if_neg (show ¬ cnd .lt x 0 = true from fun z => q (of_decide_eq_true z))] at k; exact k)
    · exact a_if_ge hd (tg_ok h0) (fun q => by rw [if_pos (show cnd .ge x 0 = true from decide_eq_true q)] at k; exact k) (fun q => by rw [if_neg (show ¬ cnd .ge x 0 = true from fun z => q (of_decide_eq_true z))] at k; exact k)
    · exact a_if_gt hd (tg_ok h0) (fun q => by rw [if_pos (show cnd .gt x 0 = true from decide_eq_true q)] at k; exact k) (fun q => by rw [if_neg (show ¬ cnd .gt x 0 = true from fun z => q (of_decide_eq_true z))] at k; exact k)
    · exact a_if_le hd (tg_ok h0) (fun q => by rw [if_pos (show cnd .le x 0 = true from decide_eq_true q)] at k; exact k) (fun q => by rw [if_neg (show ¬ cnd .le x 0 = true from fun z => q (of_decide_eq_true z))] at k; exact k)
  | if_icmp c off =>
    obtain ⟨rfl, k⟩ := k; replace k := on1_e k; obtain ⟨v, r, rfl, k⟩ := k; replace k := on1_e k; obtain ⟨u, r, rfl, k⟩ := k; replace k := onI_e k; obtain ⟨y, rfl, k⟩ := k; replace k := onI_e k; obtain ⟨x, rfl, h0, k⟩ := k
    cases c
    · exact a_icmp_eq hd (tg_ok h0) (fun q => by rw [if_pos (show cnd .eq x y = true from decide_eq_true q)] at k; exact k) (fun q => by rw [if_neg (show ¬ cnd .eq x y = true from fun z => q (of_decide_eq_true z))] at k; exact k)
    · exact a_icmp_ne hd (tg_ok h0) (fun q => by rw [if_pos (show cnd .ne x y = true from decide_eq_true q)] at k; exact k) (fun q => by rw [if_neg (show ¬ cnd .ne x y = true from fun z => q (of_decide_eq_true z))] at k; exact k)
    · exact a_icmp_lt hd (tg_ok h0) (fun q => by rw [if_pos (show cnd .lt x y = true from decide_eq_true q)] at k; exact k) (fun q => by rw [if_neg (show ¬ cnd .lt x y = true from fun z => q (of_decide_eq_true z))] at k; exact k)
    · exact a_icmp_ge hd (tg_ok h0) (fun q => by rw [if_pos (show cnd .ge x y = true from decide_eq_true q)] at k; exact k) (fun q => by rw [if_neg (show ¬ cnd .ge x y = true from fun z => q (of_decide_eq_true z))] at k; exact k)
    · exact a_icmp_gt hd (tg_ok h0) (fun q => by rw [if_pos (show cnd .gt x y = true from decide_eq_true q)] at k; exact k) (fun q => by rw [if_neg (show ¬ cnd .gt x y = true from fun z => q (of_decide_eq_true z))] at k; exact k)
    · exact a_icmp_le hd (tg_ok h0) (fun q => by rw [if_pos (show cnd .le x y = true from decide_eq_true q)] at k; exact k) (fun q => by rw [if_neg (show ¬ cnd .le x y = true from fun z => q (of_decide_eq_true z))] at k; exact k)
  | if_acmp c off =>
    obtain ⟨rfl, k⟩ := k; replace k := on1_e k; obtain ⟨v, r, rfl, k⟩ := k; replace k := on1_e k; obtain ⟨u, r, rfl, k⟩ := k; replace k := onR_e k; obtain ⟨y, rfl, k⟩ := k; replace k := onR_e k; obtain ⟨x, rfl, hq9, h0, k⟩ := k
    cases c
    · exact a_acmp_eq hd (tg_ok h0) hq9 (fun q => by rw [if_pos (show acB .eq x y = true from decide_eq_true q)] at k; exact k) (fun q => by rw [if_neg (show ¬ acB .eq x y = true from fun z => q (of_decide_eq_true z))] at k; exact k)
    · exact a_acmp_ne hd (tg_ok h0) hq9 (fun q => by rw [if_pos (show acB .ne x y = true from decide_eq_true q)] at k; exact k) (fun q => by rw [if_neg (show ¬ acB .ne x y = true from fun z => q (of_decide_eq_true z))] at k; exact k)
  | ifnull off =>
    obtain ⟨rfl, k⟩ := k; replace k := on1_e k; obtain ⟨v, r, rfl, k⟩ := k; replace k := onR_e k; obtain ⟨x, rfl, h0, k⟩ := k
    exact a_ifnull hd (tg_ok h0) (fun q => by subst q; exact k) (fun q => by cases x with
      | none => exact absurd rfl q
      | some y => exact k)
  | ifnonnull off =>
    obtain ⟨rfl, k⟩ := k; replace k := on1_e k; obtain ⟨v, r, rfl, k⟩ := k; replace k := onR_e k; obtain ⟨x, rfl, h0, k⟩ := k
    exact a_ifnonnull hd (tg_ok h0) (fun q => by cases x with
      | none => exact absurd rfl q
      | some y => exact k) (fun q => by subst q; exact k)
  | goto off =>
    obtain ⟨rfl, h0, k⟩ := k; exact a_goto hd (tg_ok h0) k
  | tableswitch dflt lo hi offs =>
    replace k := on1_e k; obtain ⟨v, r, rfl, k⟩ := k; replace k := onI_e k; obtain ⟨x, rfl, k⟩ := k; replace k := onS_e k; obtain ⟨off, ho, h0, k⟩ := k
    exact a_table hd (by rw [ho]; have := tg_ok h0; congr 1; omega) k
  | getfield idx =>
    obtain ⟨rfl, k⟩ := k; replace k := on1_e k; obtain ⟨v, r, rfl, k⟩ := k; replace k := onN_e k; obtain ⟨n, rfl, k⟩ := k; replace k := onS_e k; obtain ⟨⟨ci, j⟩, hf, ht, k⟩ := k; exact a_get hG hd (hM ▸ rF_FV hf) ht k
  | putfield idx =>
    obtain ⟨rfl, k⟩ := k; replace k := on1_e k; obtain ⟨u, r, rfl, k⟩ := k; replace k := on1_e k; obtain ⟨v, r, rfl, k⟩ := k; replace k := onN_e k; obtain ⟨n, rfl, k⟩ := k; replace k := onS_e k; obtain ⟨⟨ci, j⟩, hf, ⟨hp, hfit, ht, hw⟩, k⟩ := k
    obtain ⟨ty, ln, I, R, c1, w1⟩ := h
    have hFV : FV M.1.cls idx ci j := hM ▸ rF_FV hf
    have hFP : FP M.1.cls ci j ∧ (M.1.name = "<init>" ∨ ∃ C T N, clT[ci]? = some (C, T, N) ∧ (T j).2.2.2 = false) := by
      unfold fpB at hp
      dsimp only at hp
      split at hp
      · rename_i C T N hc
        rcases Bool.or_eq_true_iff.mp hp with q | q
        · have q' : (T j).2.2.2 = false := by simpa using q
          exact ⟨⟨C, T, N, hc, Or.inl q'⟩, Or.inr ⟨C, T, N, hc, q'⟩⟩
        · obtain ⟨q1, q2⟩ := Bool.and_eq_true_iff.mp q
          exact ⟨⟨C, T, N, hc, Or.inr (of_decide_eq_true q1)⟩, Or.inl (of_decide_eq_true q2)⟩
      · cases hp
    match u, hfit, k with
    | .inl z, hfit, k =>
      have hfit' : (!frf ci j && (decide (fyT ci j = .int) || (decide (fyT ci j = .boolean) && (decide (z = 0) || decide (z = 1))))) = true := hfit
      simp only [Bool.and_eq_true, Bool.or_eq_true, decide_eq_true_eq, Bool.not_eq_true'] at hfit'
      rcases hfit'.2 with q | q
      · exact a_putI hG hd hFV hFP.1 hFP.2 hfit'.1 q ht hw k
      · exact a_putZ hG hd hFV hFP.1 hFP.2 hfit'.1 q.1 q.2 ht hw k
    | .inr (.inr (.inl z)), hfit, k =>
      have hfit' : (frf ci j && (match fyT ci j with
        | .object _ => true
        | .array _ => true
        | _ => false)) = true := hfit
      obtain ⟨q1, q2⟩ := Bool.and_eq_true_iff.mp hfit'
      refine a_putR hG hd hFV hFP.1 hFP.2 q1 ?_ ht hw k
      split at q2
      · exact Or.inl ⟨_, ‹_›⟩
      · exact Or.inr ⟨_, ‹_›⟩
      · cases q2
    | .inr (.inl z), hfit, _ => cases hfit
    | .inr (.inr (.inr z)), hfit, _ => cases hfit
  | getstatic idx =>
    obtain ⟨rfl, ⟨ho, rfl⟩, k⟩ := k
    rw [ho] at hM
    exact a_gets hG hd (by rw [← hM]; exact List.mem_of_getElem? (i := 326) (by decide +kernel)) k
  | arraylength =>
    obtain ⟨rfl, k⟩ := k; replace k := on1_e k; obtain ⟨v, r, rfl, k⟩ := k; replace k := onN_e k; obtain ⟨n, rfl, ht, k⟩ := k; exact a_alen hG hd ht k
  | iaload =>
    obtain ⟨rfl, k⟩ := k; replace k := on1_e k; obtain ⟨u, r, rfl, k⟩ := k; replace k := on1_e k; obtain ⟨v, r, rfl, k⟩ := k; replace k := onI_e k; obtain ⟨j, rfl, k⟩ := k; replace k := onN_e k; obtain ⟨n, rfl, ⟨ht, h0, h1⟩, k⟩ := k
    rcases ht with ht | ht
    · exact a_iald hG hd ht h0 h1 k
    · exact a_sald hd ht h0 h1 k
  | baload =>
    obtain ⟨rfl, k⟩ := k; replace k := on1_e k; obtain ⟨u, r, rfl, k⟩ := k; replace k := on1_e k; obtain ⟨v, r, rfl, k⟩ := k; replace k := onI_e k; obtain ⟨j, rfl, k⟩ := k; replace k := onN_e k; obtain ⟨n, rfl, ⟨ht, h0, h1⟩, k⟩ := k; exact a_zald hG hd ht h0 h1 k
  | laload =>
    obtain ⟨rfl, k⟩ := k; replace k := on1_e k; obtain ⟨u, r, rfl, k⟩ := k; replace k := on1_e k; obtain ⟨v, r, rfl, k⟩ := k; replace k := onI_e k; obtain ⟨j, rfl, k⟩ := k; replace k := onN_e k; obtain ⟨n, rfl, ⟨ht, h0, h1⟩, k⟩ := k; exact a_lald hG hd ht h0 h1 k
  | aaload =>
    obtain ⟨rfl, k⟩ := k; replace k := on1_e k; obtain ⟨u, r, rfl, k⟩ := k; replace k := on1_e k; obtain ⟨v, r, rfl, k⟩ := k; replace k := onI_e k; obtain ⟨j, rfl, k⟩ := k; replace k := onN_e k; obtain ⟨n, rfl, ⟨ht, h0, h1⟩, k⟩ := k; exact a_aald hG hd ht h0 h1 k
  | iastore =>
    obtain ⟨rfl, k⟩ := k; replace k := on1_e k; obtain ⟨w, r, rfl, k⟩ := k; replace k := on1_e k; obtain ⟨u, r, rfl, k⟩ := k; replace k := on1_e k; obtain ⟨v, r, rfl, k⟩ := k; replace k := onI_e k; obtain ⟨z, rfl, k⟩ := k; replace k := onI_e k; obtain ⟨j, rfl, k⟩ := k; replace k := onN_e k; obtain ⟨n, rfl, ⟨ht, hw, h0, h1⟩, k⟩ := k; obtain ⟨ty, ln, I, R, c1, w1⟩ := h; exact a_iast hG hd ht hw h0 h1 k
  | bastore =>
    obtain ⟨rfl, k⟩ := k; replace k := on1_e k; obtain ⟨w, r, rfl, k⟩ := k; replace k := on1_e k; obtain ⟨u, r, rfl, k⟩ := k; replace k := on1_e k; obtain ⟨v, r, rfl, k⟩ := k; replace k := onI_e k; obtain ⟨z, rfl, k⟩ := k; replace k := onI_e k; obtain ⟨j, rfl, k⟩ := k; replace k := onN_e k; obtain ⟨n, rfl, ⟨ht, hw, h0, h1, hz⟩, k⟩ := k; obtain ⟨ty, ln, I, R, c1, w1⟩ := h; exact a_zast hG hd hz ht hw h0 h1 k
  | lastore =>
    obtain ⟨rfl, k⟩ := k; replace k := on1_e k; obtain ⟨w, r, rfl, k⟩ := k; replace k := on1_e k; obtain ⟨u, r, rfl, k⟩ := k; replace k := on1_e k; obtain ⟨v, r, rfl, k⟩ := k; replace k := onL_e k; obtain ⟨z, rfl, k⟩ := k; replace k := onI_e k; obtain ⟨j, rfl, k⟩ := k; replace k := onN_e k; obtain ⟨n, rfl, ⟨ht, hw, h0, h1⟩, k⟩ := k; obtain ⟨ty, ln, I, R, c1, w1⟩ := h; exact a_last hG hd ht hw h0 h1 k
  | aastore =>
    obtain ⟨rfl, k⟩ := k; replace k := on1_e k; obtain ⟨w, r, rfl, k⟩ := k; replace k := on1_e k; obtain ⟨u, r, rfl, k⟩ := k; replace k := on1_e k; obtain ⟨v, r, rfl, k⟩ := k; replace k := onR_e k; obtain ⟨z, rfl, k⟩ := k; replace k := onI_e k; obtain ⟨j, rfl, k⟩ := k; replace k := onN_e k; obtain ⟨n, rfl, ⟨ht, hw, h0, h1, hz⟩, k⟩ := k; obtain ⟨ty, ln, I, R, c1, w1⟩ := h
    cases z with
    | none =>
      have hE : ∃ E, atT (ty n) = .object E := by
        have h5 : ty n ≠ 5 := hz
        obtain ⟨q1, q2⟩ : 3 < ty n ∧ ty n < 9 := ht
        generalize ty n = t at h5 q1 q2
        match t, h5, q1, q2 with
        | 4, _, _, _ => exact ⟨_, rfl⟩
        | 5, h5, _, _ => exact absurd rfl h5
        | 6, _, _, _ => exact ⟨_, rfl⟩
        | 7, _, _, _ => exact ⟨_, rfl⟩
        | 8, _, _, _ => exact ⟨_, rfl⟩
      obtain ⟨E, hE⟩ := hE
      exact a_aastN hG hd hE ht hw h0 h1 k
    | some y =>
      obtain ⟨z1, z2⟩ := hz
      have z1' : 100 ≤ ty y := z1
      exact a_aast hG hd (av_ok z2) ht (show ty y = 100 + (ty y - 100) by omega) hw h0 h1 k
  | newarray q =>
    obtain ⟨rfl, k⟩ := k; replace k := on1_e k; obtain ⟨v, r, rfl, k⟩ := k; replace k := onI_e k; obtain ⟨z, rfl, ⟨hq, h0, h1, h2, h3⟩, n, hn, k⟩ := k; obtain ⟨ty, ln, I, R, c1, w1⟩ := h
    have key : newarray.typeOf q = atT (atK q) ∧ (0 < atK q ∧ atK q < 4) ∧ Cond.arrayClass (atT (atK q)) ∈ lw_tbl := by
      unfold atK at hq ⊢
      split at hq
      · rename_i e; rw [e]; exact ⟨rfl, by decide, List.mem_of_getElem? (i := 108) (by decide +kernel)⟩
      · rename_i e; rw [e]; exact ⟨rfl, by decide, List.mem_of_getElem? (i := 694) (by decide +kernel)⟩
      · rename_i e; rw [e]; exact ⟨rfl, by decide, List.mem_of_getElem? (i := 1314) (by decide +kernel)⟩
      · exact absurd rfl hq
    exact a_newa hG hd key.1 key.2.1 key.2.2 hn h0 h1 h2 h3 k
  | anewarray idx =>
    obtain ⟨rfl, k⟩ := k; replace k := on1_e k; obtain ⟨v, r, rfl, k⟩ := k; replace k := onI_e k; obtain ⟨z, rfl, k⟩ := k; replace k := onS_e k; obtain ⟨t, ht, ⟨h0, h1, h2, h3⟩, n, hn, k⟩ := k; obtain ⟨ty, ln, I, R, c1, w1⟩ := h
    obtain ⟨E, q1, q2, q3, q4⟩ := rA_ok ht
    rw [hM] at q3
    exact a_anew hG hd q1 q2 q3 q4 hn h0 h1 h2 h3 k
  | new idx =>
    obtain ⟨rfl, k⟩ := k; obtain ⟨ty, ln, I, R, c1, w1⟩ := h
    split at k
    · rename_i ci hci
      obtain ⟨⟨h1, h2⟩, n, hn, k⟩ := k
      exact a_new hG hd (hM ▸ rN_NV hci) hn h1 h2 k
    · split at k
      · rename_i ic d3 d4 d7
        replace k := onS_e k; obtain ⟨kx, hx, ⟨h1, h2, h3, h4, h5⟩, k⟩ := k
        obtain ⟨n1, n2, n3⟩ := ntB_ok h2
        exact a_throw hG hd d3 d4 d7 (hM ▸ rX_ok hx) h1 n3 n2 n1 (by omega) h4 h5 k
      · exact k.elim
  | checkcast idx =>
    obtain ⟨rfl, k⟩ := k; replace k := on1_e k; obtain ⟨v, r, rfl, k⟩ := k; replace k := onR_e k; obtain ⟨z, rfl, k⟩ := k
    cases z with
    | none => exact a_castN hd k
    | some n =>
      replace k := onS_e k; obtain ⟨t, ht, hn, k⟩ := k
      rcases rK_ok ht with ⟨rfl, q⟩ | ⟨ci, rfl, q⟩
      · exact a_castA hG hd (hM ▸ q) hn k
      · exact a_cast hG hd (hM ▸ q) hn k
  | ldc idx =>
    obtain ⟨rfl, k⟩ := k
    split at k
    · rename_i e
      obtain ⟨e1, rfl⟩ := e
      rw [e1] at hM
      exact a_ldcM hG hd (by rw [← hM]; exact List.mem_of_getElem? (i := 563) (by decide +kernel)) k
    · replace k := onS_e k; obtain ⟨z, hz, k⟩ := k
      obtain ⟨y, hy, hc⟩ := rI_ok hz
      exact a_ldc hG hd (hM ▸ hc) hy k
  | ldc2_w idx =>
    obtain ⟨rfl, k⟩ := k; replace k := onS_e k; obtain ⟨z, hz, k⟩ := k
    obtain ⟨y, hy, hc⟩ := rJ_ok hz
    exact a_ldc2 hG hd (hM ▸ hc) hy k
  | invokestatic idx =>
    obtain ⟨rfl, k⟩ := k; replace k := onS_e k; obtain ⟨⟨kd, N⟩, hr, k⟩ := k
    dsimp only at k
    split at k
    · rename_i e
      subst e
      obtain ⟨hV, hO, hl, hs, -⟩ := rM_Kn hr (by decide)
      obtain ⟨hn, hrm, h1, k⟩ := k
      obtain ⟨t1, t2⟩ := td_len hn
      obtain ⟨r1, r2, r3⟩ := rmB_ok hrm
      rw [← t2]
      exact a_callS hG hd hV (by rw [t1]; exact np_of hG hV) r2 r1 r3 (hM ▸ hl) (hs rfl) ((hcall _ _ _ _ _ (onS1_ok h1) hV hO k).mono (fun _ _ z => z) (thr_TH hG hM))
    · split at k
      · rename_i e
        replace k := on1_e k; obtain ⟨vn, r, rfl, k⟩ := k; replace k := on1_e k; obtain ⟨vd, r, rfl, k⟩ := k; replace k := on1_e k; obtain ⟨vb, r, rfl, k⟩ := k; replace k := on1_e k; obtain ⟨vs, r, rfl, k⟩ := k; replace k := on1_e k; obtain ⟨va, r, rfl, k⟩ := k
        replace k := onI_e k; obtain ⟨n, rfl, k⟩ := k; replace k := onI_e k; obtain ⟨dp, rfl, k⟩ := k; replace k := onN_e k; obtain ⟨b, rfl, k⟩ := k; replace k := onI_e k; obtain ⟨sp, rfl, k⟩ := k; replace k := onN_e k; obtain ⟨a, rfl, ⟨hnt, hab, hw, g0, g1, g2, g3, g4⟩, k⟩ := k
        obtain ⟨n1, n2, n3⟩ := ntB_ok hnt
        obtain ⟨ty, ln, I, R, c1, w1⟩ := h
        split at k
        · rename_i e1
          exact a_copyI hG hd (hM ▸ yv hr e) n3 n2 n1 (by omega) (hab.trans e1) e1 hw g0 g1 g2 g3 g4 k
        · obtain ⟨e1, hel, k⟩ := k
          exact a_copyR hG hd (hM ▸ yv hr e) n3 n2 n1 (by omega) (hab.trans e1) e1 hw g0 g1 g2 g3 g4 (fun i i0 i1 y hy => by
            obtain ⟨z1, z2⟩ := hel i i0 i1 y hy
            have z1' : 100 ≤ ty y := z1
            exact ⟨ty y - 100, by omega, av_ok z2⟩) k
      · split at k
        · rename_i e
          subst e
          replace k := on1_e k; obtain ⟨y, r, rfl, k⟩ := k; replace k := on1_e k; obtain ⟨x, r, rfl, k⟩ := k; replace k := onI_e k; obtain ⟨b, rfl, k⟩ := k; replace k := onI_e k; obtain ⟨a, rfl, hnt, k⟩ := k
          obtain ⟨n1, n2, n3⟩ := ntB_ok hnt
          exact a_max hG hd (hM ▸ rM_sp hr (by decide)) n3 n2 n1 k
        · split at k
          · rename_i e
            subst e
            replace k := on1_e k; obtain ⟨y, r, rfl, k⟩ := k; replace k := on1_e k; obtain ⟨x, r, rfl, k⟩ := k; replace k := onI_e k; obtain ⟨b, rfl, k⟩ := k; replace k := onI_e k; obtain ⟨a, rfl, hnt, k⟩ := k
            obtain ⟨n1, n2, n3⟩ := ntB_ok hnt
            exact a_min hG hd (hM ▸ rM_sp hr (by decide)) n3 n2 n1 k
          · exact k.elim
  | invokevirtual idx =>
    obtain ⟨rfl, k⟩ := k; replace k := onS_e k; obtain ⟨⟨kd, N⟩, hr, k⟩ := k
    dsimp only at k
    split at k
    · rename_i e
      subst e
      obtain ⟨hV, hO, hl, -, hi, hs, -⟩ := rM_Kn hr (by decide)
      obtain ⟨hn, k⟩ := k
      replace k := on1_e k; obtain ⟨v, r, er, k⟩ := k
      replace k := onN_e k; obtain ⟨n, rfl, ht, hrm, h1, k⟩ := k
      obtain ⟨t1, t2⟩ := td_len hn
      obtain ⟨r1, r2, r3⟩ := rmB_ok hrm
      rw [← t2, er]
      have hcn : ∃ T9 N9, clT[N.2.2.2.2.2]? = some (N.1.cls, T9, N9) := by
        have hc := (hs rfl).2.1
        unfold clN at hc
        cases hq : clT[N.2.2.2.2.2]? with
        | none => exact absurd (hM9 N hO hq) (by have := (hs rfl).2.2; omega)
        | some q => rw [hq] at hc; exact ⟨q.2.1, q.2.2, by rw [← hc]; rfl⟩
      exact a_callV hG hd hV (by rw [t1]; exact np_of hG hV) r2 r1 r3 (hM ▸ hl) (hi (by decide)) hcn (hs rfl).1 ht ((hcall _ _ _ _ _ (onS1_ok h1) hV hO k).mono (fun _ _ z => z) (thr_TH hG hM))
    · split at k
      · rename_i e
        subst e
        replace k := on1_e k; obtain ⟨v, r, rfl, k⟩ := k; replace k := onN_e k; obtain ⟨a, rfl, ⟨hnt, ht, h1, h2⟩, n, hn, k⟩ := k
        obtain ⟨n1, n2, n3⟩ := ntB_ok hnt
        obtain ⟨ty, ln, I, R, c1, w1⟩ := h
        exact a_clone hG hd (hM ▸ rM_sp hr (by decide)) (List.mem_of_getElem? (i := 669) (by decide +kernel)) (List.mem_of_getElem? (i := 670) (by decide +kernel)) (List.mem_of_getElem? (i := 671) (by decide +kernel)) (List.mem_of_getElem? (i := 672) (by decide +kernel)) (List.mem_of_getElem? (i := 673) (by decide +kernel)) ht hn n3 n2 n1 (by omega) h1 h2 k
      · split at k
        · rename_i e
          subst e
          replace k := on1_e k; obtain ⟨v, r, rfl, k⟩ := k; replace k := onN_e k; obtain ⟨a, rfl, ⟨hnt, ht⟩, k⟩ := k
          obtain ⟨n1, n2, n3⟩ := ntB_ok hnt
          exact a_getC hG hd (hM ▸ rM_sp hr (by decide)) (List.mem_of_getElem? (i := 1321) (by decide +kernel)) (List.mem_of_getElem? (i := 1320) (by decide +kernel)) (List.mem_of_getElem? (i := 544) (by decide +kernel)) (List.mem_of_getElem? (i := 559) (by decide +kernel)) ht n3 n2 n1 (by omega) k
        · exact k.elim
  | invokespecial idx =>
    obtain ⟨rfl, k⟩ := k
    replace k := onSe_e k; rcases k with ⟨⟨kd, N⟩, hr, k⟩ | k
    · dsimp only at k
      split at k
      · rename_i e
        subst e
        obtain ⟨hV, hO, hl, -, hi, -, hq⟩ := rM_Kn hr (by decide)
        obtain ⟨hn, k⟩ := k
        replace k := on1_e k; obtain ⟨v, r, er, k⟩ := k
        replace k := onN_e k; obtain ⟨n, rfl, hrm, h1, k⟩ := k
        obtain ⟨t1, t2⟩ := td_len hn
        obtain ⟨r1, r2, r3⟩ := rmB_ok hrm
        rw [← t2, er]
        obtain ⟨q1, q2, q3⟩ := hq rfl
        exact a_callI hG hd hV (by rw [t1]; exact np_of hG hV) r2 r1 r3 q1 q2 q3 (hM ▸ hl) (hi (by decide)) ((hcall _ _ _ _ _ (onS1_ok h1) hV hO k).mono (fun _ _ z => z) (thr_TH hG hM))
      · split at k
        · rename_i e
          subst e
          replace k := on1_e k; obtain ⟨v, r, rfl, k⟩ := k; replace k := onN_e k; obtain ⟨n, rfl, hnt, k⟩ := k
          obtain ⟨n1, n2, n3⟩ := ntB_ok hnt
          exact a_obj hG hd (hM ▸ rM_sp hr (by decide)) (List.mem_of_getElem? (i := 85) (by decide +kernel)) (List.mem_of_getElem? (i := 86) (by decide +kernel)) n3 n2 n1 k
        · exact k.elim
    · split at k
      · rename_i e
        obtain ⟨e1, rfl⟩ := e
        replace k := on1_e k; obtain ⟨v, r, rfl, k⟩ := k
        replace k := onN_e k; obtain ⟨n, rfl, hrm, h1, k⟩ := k
        obtain ⟨r1, r2, r3⟩ := rmB_ok hrm
        have hM0 : M.1.cls = "FriendBackup" := by rw [← hM, e1]; rfl
        obtain ⟨hV, hO⟩ := mT_MV (j := 5) (e := (M_Draft_init, 149, 58, 2, 148, 0)) rfl
        exact a_callIN (vs := []) (N := M_Draft_init) (host := "FriendBackup") hG hd hV (by decide +kernel) r2 r1 r3 rfl rfl rfl (by rw [hM0]; exact List.mem_of_getElem? (i := 147) (of_decide_eq_true (by decide +kernel))) (List.mem_of_getElem? (i := 148) (of_decide_eq_true (by decide +kernel))) ((hcall _ _ _ _ _ (onS1_ok h1) hV hO k).mono (fun _ _ z => z) (thr_TH hG hM))
      · exact k.elim
  | multianewarray idx dims =>
    obtain ⟨rfl, k⟩ := k
    replace k := on1_e k; obtain ⟨vk, r, rfl, k⟩ := k
    replace k := on1_e k; obtain ⟨vn, r, rfl, k⟩ := k
    replace k := onI_e k; obtain ⟨z, rfl, k⟩ := k
    replace k := onI_e k; obtain ⟨n, rfl, ⟨rfl, hy, h0, h1, h2, h3, h4, h5⟩, q, f, ⟨f1, f2, f3, f4⟩, k⟩ := k
    exact a_mna hG hd (hM ▸ rY_ok hy) h0 h1 h2 h3 h4 h5 f1 f2 f3 f4 k
  | ireturn =>
    obtain ⟨rfl, k⟩ := k; replace k := on1_e k; obtain ⟨v, r, rfl, k⟩ := k; replace k := onI_e k; obtain ⟨z, rfl, ⟨rfl, hr⟩, k⟩ := k
    refine a_iret (stk := []) hd ?_ k
    unfold retI at hr
    simp only [Bool.or_eq_true, Bool.and_eq_true, decide_eq_true_eq] at hr
    exact hr
  | areturn =>
    obtain ⟨rfl, k⟩ := k; replace k := on1_e k; obtain ⟨v, r, rfl, k⟩ := k; replace k := onR_e k; obtain ⟨z, rfl, ⟨rfl, hr⟩, k⟩ := k
    unfold retR at hr
    split at hr
    · exact a_aret (stk := []) hd ‹_› (Or.inl ⟨_, rfl⟩) k
    · exact a_aret (stk := []) hd ‹_› (Or.inr ⟨_, rfl⟩) k
    · cases hr
  | return_ =>
    obtain ⟨rfl, ⟨rfl, hr⟩, k⟩ := k; exact a_vret (stk := []) hd hr k
  | _ => exact k.elim
theorem istep_sound {g : Gt} (hG : Gd g) {call : Ct} {d : Nat} (hcall : ∀ N vs h K X, (∀ v ∈ vs, oneW v = true) → MV N → oN N.2.2.2.2.2 = N.1.cls → call N vs h K X → CT g d N vs h K X) {M : Mt} (hM : oN M.2.2.2.2.2 = M.1.cls) {K : Kt} {X : Xt} {pc : Nat} {ls stk : List Vl} {h : AH}
    (k : istep call d M K X (SW g (d + 1) M K X) pc ls stk h) : SW g (d + 1) M K X pc ls stk h := by
  unfold istep at k
  split at k
  · exact iarm_sound hG hcall hM ‹_› k
  · exact k.elim
/-- every run of the abstract machine is a contract of the machine -/
theorem Mth_sound {g : Gt} (hG : Gd g) : ∀ (d : Nat) (N : Mt) (vs : List Vl) (h : AH) (K : Kt) (X : Xt), (∀ v ∈ vs, oneW v = true) → MV N → oN N.2.2.2.2.2 = N.1.cls → Mth d N vs h K X → CT g d N vs h K X
  | 0, _, _, _, _, _, _, _, _, k => k.elim
  | d + 1, N, vs, h, K, X, ho, hV, hO, ⟨hl, k⟩ => CT.of hV ho hl (k (SW g (d + 1) N K X) (fun _ _ _ _ z => istep_sound hG (Mth_sound hG d) hO z))
