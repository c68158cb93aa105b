/-! ===== more behind, more ahead ===== -/
def cMono (call : Ct) : Prop := ∀ N vs h (K K' : Kt) (X X' : Xt), (∀ v h, K v h → K' v h) → (∀ k h, X k h → X' k h) → call N vs h K X → call N vs h K' X'
theorem bI_mono {P P' : Nx} (hP : ∀ a b c e, P a b c e → P' a b c e) {pc : Nat} {ls stk : List Vl} {h : AH} {f : Int → Int → Int} : bI P pc ls stk h f → bI P' pc ls stk h f :=
  on1_mono fun _ _ => on1_mono fun _ _ => onI_mono fun _ => onI_mono fun _ => hP _ _ _ _
theorem bL_mono {P P' : Nx} (hP : ∀ a b c e, P a b c e → P' a b c e) {pc : Nat} {ls stk : List Vl} {h : AH} {f : Int → Int → Vl} : bL P pc ls stk h f → bL P' pc ls stk h f :=
  on1_mono fun _ _ => on1_mono fun _ _ => onL_mono fun _ => onL_mono fun _ => hP _ _ _ _
theorem stI_mono {P P' : Nx} (hP : ∀ a b c e, P a b c e → P' a b c e) {pc n : Nat} {ls stk : List Vl} {h : AH} {i : Nat} : stI P pc n ls stk h i → stI P' pc n ls stk h i :=
  on1_mono fun _ _ => onI_mono fun _ => And.imp_right (And.imp_right (hP _ _ _ _))
theorem stR_mono {P P' : Nx} (hP : ∀ a b c e, P a b c e → P' a b c e) {pc n : Nat} {ls stk : List Vl} {h : AH} {i : Nat} : stR P pc n ls stk h i → stR P' pc n ls stk h i :=
  on1_mono fun _ _ => And.imp_right (And.imp_right (And.imp_right (hP _ _ _ _)))
theorem go2_mono {P P' : Nx} (hP : ∀ a b c e, P a b c e → P' a b c e) {pc : Nat} {off : Int} {ls r : List Vl} {h : AH} {c : Bool} : go2 P pc off ls r h c → go2 P' pc off ls r h c :=
  And.imp_right (ite_mono (hP _ _ _ _) (hP _ _ _ _))
theorem doCall_mono {call : Ct} (hC : cMono call) {X X' : Xt} {P P' : Nx} (hP : ∀ a b c e, P a b c e → P' a b c e) (hX : ∀ k h, X k h → X' k h) {M N : Mt} {pc : Nat} {ls r vs : List Vl} {h : AH} : doCall call M X P pc ls r h N vs → doCall call M X' P' pc ls r h N vs :=
  And.imp_right (And.imp_right (hC _ _ _ _ _ _ _ (fun _ _ => hP _ _ _ _) (thr_mono hX hP)))
set_option maxHeartbeats 4000000 in
theorem iarm_mono {call : Ct} (hC : cMono call) {d : Nat} {M : Mt} {K K' : Kt} {X X' : Xt} {P P' : Nx} (hP : ∀ a b c e, P a b c e → P' a b c e) (hK : ∀ v h, K v h → K' v h) (hX : ∀ k h, X k h → X' k h) (pc : Nat) (ls stk : List Vl) (h : AH) (i : Instr) (n0 : Nat) :
    iarm call d M K X P pc ls stk h i n0 → iarm call d M K' X' P' pc ls stk h i n0 := by
  cases i with
  | iconst _ => exact And.imp_right (hP _ _ _ _)
  | bipush _ => exact And.imp_right (hP _ _ _ _)
  | sipush _ => exact And.imp_right (hP _ _ _ _)
  | lconst _ => exact And.imp_right (hP _ _ _ _)
  | aconst_null => exact And.imp_right (hP _ _ _ _)
  | iload_n _ => exact And.imp_right (onS_mono fun _ => onI_mono fun _ => hP _ _ _ _)
  | iload _ => exact And.imp_right (onS_mono fun _ => onI_mono fun _ => hP _ _ _ _)
  | lload _ => exact And.imp_right (onS_mono fun _ => onL_mono fun _ => hP _ _ _ _)
  | aload_n _ => exact And.imp_right (onS_mono fun _ => onR_mono fun _ => hP _ _ _ _)
  | aload _ => exact And.imp_right (onS_mono fun _ => onR_mono fun _ => hP _ _ _ _)
  | istore_n _ => exact And.imp_right (stI_mono hP)
  | istore _ => exact And.imp_right (stI_mono hP)
  | astore_n _ => exact And.imp_right (stR_mono hP)
  | astore _ => exact And.imp_right (stR_mono hP)
  | lstore _ => exact And.imp_right (on1_mono fun _ _ => onL_mono fun _ => And.imp_right (And.imp_right (hP _ _ _ _)))
  | iinc _ _ => exact And.imp_right (onS_mono fun _ => onI_mono fun _ => And.imp_right (hP _ _ _ _))
  | iadd => exact And.imp_right (bI_mono hP)
  | isub => exact And.imp_right (bI_mono hP)
  | imul => exact And.imp_right (bI_mono hP)
  | iand => exact And.imp_right (bI_mono hP)
  | ixor => exact And.imp_right (bI_mono hP)
  | ishl => exact And.imp_right (bI_mono hP)
  | ishr => exact And.imp_right (bI_mono hP)
  | idiv => exact And.imp_right (on1_mono fun _ _ => on1_mono fun _ _ => onI_mono fun _ => onI_mono fun _ => And.imp_right (hP _ _ _ _))
  | irem => exact And.imp_right (on1_mono fun _ _ => on1_mono fun _ _ => onI_mono fun _ => onI_mono fun _ => And.imp_right (hP _ _ _ _))
  | ladd => exact And.imp_right (bL_mono hP)
  | lmul => exact And.imp_right (bL_mono hP)
  | lrem => exact And.imp_right (on1_mono fun _ _ => on1_mono fun _ _ => onL_mono fun _ => onL_mono fun _ => And.imp_right (hP _ _ _ _))
  | lcmp => exact And.imp_right (bL_mono hP)
  | i2l => exact And.imp_right (on1_mono fun _ _ => onI_mono fun _ => hP _ _ _ _)
  | l2i => exact And.imp_right (on1_mono fun _ _ => onL_mono fun _ => hP _ _ _ _)
  | dup => exact And.imp_right (on1_mono fun _ _ => And.imp_right (hP _ _ _ _))
  | pop => exact And.imp_right (on1_mono fun _ _ => And.imp_right (hP _ _ _ _))
  | dup_x1 => exact And.imp_right (on1_mono fun _ _ => on1_mono fun _ _ => And.imp_right (hP _ _ _ _))
  | dup2 => exact And.imp_right (on1_mono fun _ _ => on1_mono fun _ _ => And.imp_right (hP _ _ _ _))
  | ifCond _ _ => exact And.imp_right (on1_mono fun _ _ => onI_mono fun _ => go2_mono hP)
  | if_icmp _ _ => exact And.imp_right (on1_mono fun _ _ => on1_mono fun _ _ => onI_mono fun _ => onI_mono fun _ => go2_mono hP)
  | if_acmp _ _ => exact And.imp_right (on1_mono fun _ _ => on1_mono fun _ _ => onR_mono fun _ => onR_mono fun _ => And.imp_right (go2_mono hP))
  | ifnull _ => exact And.imp_right (on1_mono fun _ _ => onR_mono fun _ => go2_mono hP)
  | ifnonnull _ => exact And.imp_right (on1_mono fun _ _ => onR_mono fun _ => go2_mono hP)
  | goto _ => exact And.imp_right (And.imp_right (hP _ _ _ _))
  | tableswitch _ _ _ _ => exact on1_mono fun _ _ => onI_mono fun _ => onS_mono fun _ => And.imp_right (hP _ _ _ _)
  | getfield _ => exact And.imp_right (on1_mono fun _ _ => onN_mono fun _ => onS_mono fun _ => And.imp_right (hP _ _ _ _))
  | putfield _ => exact And.imp_right (on1_mono fun _ _ => on1_mono fun _ _ => onN_mono fun _ => onS_mono fun _ => And.imp_right (hP _ _ _ _))
  | getstatic _ => exact And.imp_right (And.imp_right (hP _ _ _ _))
  | arraylength => exact And.imp_right (on1_mono fun _ _ => onN_mono fun _ => And.imp_right (hP _ _ _ _))
  | iaload => exact And.imp_right (on1_mono fun _ _ => on1_mono fun _ _ => onI_mono fun _ => onN_mono fun _ => And.imp_right (hP _ _ _ _))
  | baload => exact And.imp_right (on1_mono fun _ _ => on1_mono fun _ _ => onI_mono fun _ => onN_mono fun _ => And.imp_right (hP _ _ _ _))
  | laload => exact And.imp_right (on1_mono fun _ _ => on1_mono fun _ _ => onI_mono fun _ => onN_mono fun _ => And.imp_right (hP _ _ _ _))
  | aaload => exact And.imp_right (on1_mono fun _ _ => on1_mono fun _ _ => onI_mono fun _ => onN_mono fun _ => And.imp_right (hP _ _ _ _))
  | iastore => exact And.imp_right (on1_mono fun _ _ => on1_mono fun _ _ => on1_mono fun _ _ => onI_mono fun _ => onI_mono fun _ => onN_mono fun _ => And.imp_right (hP _ _ _ _))
  | bastore => exact And.imp_right (on1_mono fun _ _ => on1_mono fun _ _ => on1_mono fun _ _ => onI_mono fun _ => onI_mono fun _ => onN_mono fun _ => And.imp_right (hP _ _ _ _))
  | lastore => exact And.imp_right (on1_mono fun _ _ => on1_mono fun _ _ => on1_mono fun _ _ => onL_mono fun _ => onI_mono fun _ => onN_mono fun _ => And.imp_right (hP _ _ _ _))
  | aastore => exact And.imp_right (on1_mono fun _ _ => on1_mono fun _ _ => on1_mono fun _ _ => onR_mono fun _ => onI_mono fun _ => onN_mono fun _ => And.imp_right (hP _ _ _ _))
  | newarray _ => exact And.imp_right (on1_mono fun _ _ => onI_mono fun _ => And.imp_right (Exists.imp fun _ => And.imp_right (hP _ _ _ _)))
  | anewarray _ => exact And.imp_right (on1_mono fun _ _ => onI_mono fun _ => onS_mono fun _ => And.imp_right (Exists.imp fun _ => And.imp_right (hP _ _ _ _)))
  | ldc2_w _ => exact And.imp_right (onS_mono fun _ => hP _ _ _ _)
  | ireturn => exact And.imp_right (on1_mono fun _ _ => onI_mono fun _ => And.imp_right (hK _ _))
  | areturn => exact And.imp_right (on1_mono fun _ _ => onR_mono fun _ => And.imp_right (hK _ _))
  | return_ => exact And.imp_right (And.imp_right (hK _ _))
  | new idx =>
    refine And.imp_right ?_
    split
    · exact And.imp_right (Exists.imp fun _ => And.imp_right (hP _ _ _ _))
    · split
      · exact onS_mono fun _ => And.imp_right (hX _ _)
      · exact id
  | checkcast idx =>
    refine And.imp_right (on1_mono fun _ _ => onR_mono fun _ => ?_)
    split
    · exact hP _ _ _ _
    · exact onS_mono fun _ => And.imp_right (hP _ _ _ _)
  | ldc idx => exact And.imp_right (ite_mono (hP _ _ _ _) (onS_mono fun _ => hP _ _ _ _))
  | invokestatic idx => exact And.imp_right (onS_mono fun _ => ite_mono (And.imp_right (doCall_mono hC hP hX)) (ite_mono (on1_mono fun _ _ => on1_mono fun _ _ => on1_mono fun _ _ => on1_mono fun _ _ => on1_mono fun _ _ => onI_mono fun _ => onI_mono fun _ => onN_mono fun _ => onI_mono fun _ => onN_mono fun _ => And.imp_right (ite_mono (hP _ _ _ _) (And.imp_right (And.imp_right (hP _ _ _ _))))) (ite_mono (on1_mono fun _ _ => on1_mono fun _ _ => onI_mono fun _ => onI_mono fun _ => And.imp_right (hP _ _ _ _)) (ite_mono (on1_mono fun _ _ => on1_mono fun _ _ => onI_mono fun _ => onI_mono fun _ => And.imp_right (hP _ _ _ _)) id))))
  | invokevirtual idx => exact And.imp_right (onS_mono fun _ => ite_mono (And.imp_right (on1_mono fun _ _ => onN_mono fun _ => And.imp_right (doCall_mono hC hP hX))) (ite_mono (on1_mono fun _ _ => onN_mono fun _ => And.imp_right (Exists.imp fun _ => And.imp_right (hP _ _ _ _))) (ite_mono (on1_mono fun _ _ => onN_mono fun _ => And.imp_right (hP _ _ _ _)) id)))
  | invokespecial idx => exact And.imp_right (onSe_mono (fun _ => ite_mono (And.imp_right (on1_mono fun _ _ => onN_mono fun _ => doCall_mono hC hP hX)) (ite_mono (on1_mono fun _ _ => onN_mono fun _ => And.imp_right (hP _ _ _ _)) id)) (ite_mono (on1_mono fun _ _ => onN_mono fun _ => doCall_mono hC hP hX) id))
  | multianewarray _ _ => exact And.imp_right (on1_mono fun _ _ => on1_mono fun _ _ => onI_mono fun _ => onI_mono fun _ => And.imp_right (Exists.imp fun _ => Exists.imp fun _ => And.imp_right (hP _ _ _ _)))
  | _ => exact id
theorem istep_mono {call : Ct} (hC : cMono call) {d : Nat} {M : Mt} {K K' : Kt} {X X' : Xt} {P P' : Nx} (hP : ∀ a b c e, P a b c e → P' a b c e) (hK : ∀ v h, K v h → K' v h) (hX : ∀ k h, X k h → X' k h) (pc : Nat) (ls stk : List Vl) (h : AH) :
    istep call d M K X P pc ls stk h → istep call d M K' X' P' pc ls stk h := by
  unfold istep
  split
  · exact iarm_mono hC hP hK hX _ _ _ _ _ _
  · exact id
/-! ===== runs ===== -/
/-- at pc with these locals, this stack, this heap: the body comes to its end as K and X say (the least such) -/
def Run (call : Ct) (d : Nat) (M : Mt) (K : Kt) (X : Xt) : Nx := fun pc ls stk h => ∀ P : Nx, (∀ a b c e, istep call d M K X P a b c e → P a b c e) → P pc ls stk h
theorem Run.fold {call : Ct} (hC : cMono call) {d : Nat} {M : Mt} {K : Kt} {X : Xt} {pc : Nat} {ls stk : List Vl} {h : AH} (k : istep call d M K X (Run call d M K X) pc ls stk h) : Run call d M K X pc ls stk h := by
  intro P hP
  exact hP _ _ _ _ (istep_mono hC (fun a b c e z => z P hP) (fun _ _ z => z) (fun _ _ z => z) _ _ _ _ k)
theorem Run.unfold {call : Ct} (hC : cMono call) {d : Nat} {M : Mt} {K : Kt} {X : Xt} {pc : Nat} {ls stk : List Vl} {h : AH} (k : Run call d M K X pc ls stk h) : istep call d M K X (Run call d M K X) pc ls stk h :=
  k (fun a b c e => istep call d M K X (Run call d M K X) a b c e) (fun a b c e z => istep_mono hC (fun _ _ _ _ y => Run.fold hC y) (fun _ _ y => y) (fun _ _ y => y) _ _ _ _ z)
theorem Run_eq {call : Ct} (hC : cMono call) {d : Nat} {M : Mt} {K : Kt} {X : Xt} (pc : Nat) (ls stk : List Vl) (h : AH) : Run call d M K X pc ls stk h = istep call d M K X (Run call d M K X) pc ls stk h := propext ⟨Run.unfold hC, Run.fold hC⟩
theorem Run_mono {call : Ct} (hC : cMono call) {d : Nat} {M : Mt} {K K' : Kt} {X X' : Xt} (hK : ∀ v h, K v h → K' v h) (hX : ∀ k h, X k h → X' k h) {pc : Nat} {ls stk : List Vl} {h : AH} (k : Run call d M K X pc ls stk h) : Run call d M K' X' pc ls stk h :=
  k (Run call d M K' X') (fun a b c e z => Run.fold hC (istep_mono hC (fun _ _ _ _ y => y) hK hX _ _ _ _ z))
/-- a method's call, d frames left above it -/
def Mth : Nat → Ct
  | 0 => fun _ _ _ _ _ => False
  | d + 1 => fun N vs h K X => vs.length ≤ N.2.2.1 ∧ Run (Mth d) d N K X 0 (entry vs N.2.2.1) [] h
theorem Mth_mono : ∀ d : Nat, cMono (Mth d)
  | 0 => fun _ _ _ _ _ _ _ _ _ k => k.elim
  | d + 1 => fun _ _ _ _ _ _ _ hK hX k => ⟨k.1, Run_mono (Mth_mono d) hK hX k.2⟩
