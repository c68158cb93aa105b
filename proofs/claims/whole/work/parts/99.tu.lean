/-! ===== a snapshot is made and added ===== -/
set_option maxHeartbeats 4000000 in
theorem s_Snapshot_init {d : Nat} {K : Kt} {X : Xt} {ty : Nm → Nat} {ln : Nm → Int} {I : Nm → Int → Int} {R : Nm → Int → Option Nm} {c w : Nat} {a q : Int} {ns mc st hf ml : Nm} (tn : ty ns = 108) (wn : wr ns = true) (t16 : ty [16] = 103) (r0 : R [16] 0 = some [16, 0]) (r1 : R [16] 1 = some [16, 1]) (t160 : ty [16, 0] = 6 ∧ ln [16, 0] = 500) (t161 : ty [16, 1] = 1 ∧ ln [16, 1] = 11) (hq : I [16] 2 = q ∧ 0 ≤ q ∧ q ≤ 500) (t4 : ty [4, a] = 105) (r6 : R [4, a] 6 = some ml) (t6 : ty ml = 1 ∧ ln ml = 10) (hc0 : ty hf = 0 ∧ wr hf = true) (hc1 : ty mc = 0 ∧ wr mc = true) (hc2 : ty st = 0) (n1 : hf ≠ mc) (n2 : hf ≠ st) (n3 : mc ≠ st) (he : ∀ i : Int, 0 ≤ i → i < q → ∃ y, R [16, 0] i = some y ∧ ty y = 101) (hc : 3 ≤ c) (hw : 600 ≤ w)
    (k : ∀ (ty' : Nm → Nat) (ln' : Nm → Int) (I' : Nm → Int → Int) (R' : Nm → Int → Option Nm) (w' : Nat), (ty' hf = 2 ∧ ln' hf = 10) → (ty' mc = 6 ∧ ln' mc = q) → (ty' st = 1 ∧ ln' st = 11) → R' ns 0 = some mc → R' ns 1 = some st → R' ns 2 = some hf → (∀ i, 0 ≤ i → i < q → R' mc i = R [16, 0] i) → (∀ x, I' st x = I [16, 1] x) → (∀ x, 0 ≤ x → x < 10 → I' hf x = if I ml x = -1 then 0 else 1) → (∀ n, n ≠ hf → n ≠ mc → n ≠ st → ty' n = ty n ∧ ln' n = ln n ∧ (∀ x, I' n x = I n x) ∧ (∀ x, n ≠ ns → R' n x = R n x)) → w ≤ w' + 600 → K none (ty', ln', I', R', c - 3, w')) :
    Mth (d + 2) M_Snapshot_init [vR (some ns), vR (some [16]), vR (some [4, a])] (ty, ln, I, R, c, w) K X := by
  have z : ∀ {x y : Nm}, ty x ≠ 0 → ty y = 0 → x ≠ y := fun h1 h2 e => h1 (by rw [e]; exact h2)
  have a1 : ns ≠ hf := z (by omega) hc0.1
  have a2 : ns ≠ mc := z (by omega) hc1.1
  have a3 : ns ≠ st := z (by omega) hc2
  have b1 : ([16] : Nm) ≠ hf := z (by omega) hc0.1
  have b2 : ([16] : Nm) ≠ mc := z (by omega) hc1.1
  have b3 : ([16] : Nm) ≠ st := z (by omega) hc2
  have b4 : ([16] : Nm) ≠ ns := fun e => by rw [← e] at tn; omega
  have d1 : ([16, 0] : Nm) ≠ hf := z (by omega) hc0.1
  have d2 : ([16, 0] : Nm) ≠ mc := z (by omega) hc1.1
  have d4 : ([16, 0] : Nm) ≠ ns := fun e => by rw [← e] at tn; omega
  have e1 : ([16, 1] : Nm) ≠ hf := z (by omega) hc0.1
  have e2 : ([16, 1] : Nm) ≠ mc := z (by omega) hc1.1
  have g1 : ([4, a] : Nm) ≠ hf := z (by omega) hc0.1
  have g2 : ([4, a] : Nm) ≠ mc := z (by omega) hc1.1
  have g3 : ([4, a] : Nm) ≠ st := z (by omega) hc2
  have g4 : ([4, a] : Nm) ≠ ns := fun e => by rw [← e] at tn; omega
  have m1 : ml ≠ hf := z (by omega) hc0.1
  have m2 : ml ≠ mc := z (by omega) hc1.1
  have m3 : ml ≠ st := z (by omega) hc2
  -- the tags
  have k67 : ∀ (p x : Nat) (ty' : Nm → Nat) (ln' : Nm → Int) (I' : Nm → Int → Int) (R' : Nm → Int → Option Nm) (w' : Nat), x + p = 10 → (ty' hf = 2 ∧ ln' hf = 10) → (ty' mc = 6 ∧ ln' mc = q) → (ty' st = 1 ∧ ln' st = 11) → R' ns 0 = some mc → R' ns 1 = some st → R' ns 2 = some hf → (∀ i, 0 ≤ i → i < q → R' mc i = R [16, 0] i) → (∀ x, I' st x = I [16, 1] x) → (∀ y : Int, 0 ≤ y → y < x → I' hf y = if I ml y = -1 then 0 else 1) → (∀ n, n ≠ hf → n ≠ mc → n ≠ st → ty' n = ty n ∧ ln' n = ln n ∧ (∀ x, I' n x = I n x) ∧ (∀ x, n ≠ ns → R' n x = R n x)) → w ≤ w' + 600 → Rn (d + 1) M_Snapshot_init K X 67 [vR (some ns), vR (some [16]), vR (some [4, a]), vI (x : Int)] [] (ty', ln', I', R', c - 3, w') := by
    intro p
    induction p with
    | zero =>
      intro x ty' ln' I' R' w' hx y1 y2 y3 y4 y5 y6 y7 y8 y9 y10 y11
      rw [b_Snapshot_init_67, if_pos (by omega)]
      exact k ty' ln' I' R' w' y1 y2 y3 y4 y5 y6 y7 y8 (fun x' h1 h2 => y9 x' h1 (by omega)) y10 y11
    | succ p ih =>
      intro x ty' ln' I' R' w' hx y1 y2 y3 y4 y5 y6 y7 y8 y9 y10 y11
      have o1 := y10 ns a1 a2 a3
      have o4 := y10 [4, a] g1 g2 g3
      have om := y10 ml m1 m2 m3
      rw [b_Snapshot_init_67, if_neg (by omega), and_t (by rw [o1.1]; exact tn), ex_some, and_t (by rw [o4.1]; exact t4), s_House_hasFile (by rw [o4.1]; exact t4) (by rw [o4.2.2.2 6 g4]; exact r6) (by rw [om.1]; exact t6.1) (by omega) (by rw [om.2.1]; omega), om.2.2.1]
      show Rn (d + 1) M_Snapshot_init K X 83 _ [vI _, vI _, vR (R' ns 2)] _
      rw [b_Snapshot_init_83, y6, ex_some, and_t ⟨y1.1, hc0.2, by omega, by omega, by by_cases v : I ml x = -1 <;> simp [v]⟩, w32_id (by omega) (by omega)]
      refine ih (x + 1) ty' ln' _ R' w' (by omega) y1 y2 y3 y4 y5 y6 y7 (fun x' => by rw [up2_ne (Ne.symm n2)]; exact y8 x') (fun y h1 h2 => ?_) (fun n v1 v2 v3 => ?_) y11
      · rw [up2_self]
        by_cases v : y = x
        · rw [v, upI_self]
        · rw [upI_ne _ _ v]; exact y9 y h1 (by omega)
      · have := y10 n v1 v2 v3
        exact ⟨this.1, this.2.1, fun x' => by rw [up2_ne v1]; exact this.2.2.1 x', this.2.2.2⟩
  have T16 : upN (upN ty hf 2) mc 6 [16] = 103 := by rw [upN_ne _ _ b2, upN_ne _ _ b1]; exact t16
  have T160 : upN (upN ty hf 2) mc 6 [16, 0] = 6 := by rw [upN_ne _ _ d2, upN_ne _ _ d1]; exact t160.1
  have L160 : upN (upN ln hf 10) mc q [16, 0] = 500 := by rw [upN_ne _ _ d2, upN_ne _ _ d1]; exact t160.2
  have T161 : upN (upN ty hf 2) mc 6 [16, 1] = 1 := by rw [upN_ne _ _ e2, upN_ne _ _ e1]; exact t161.1
  have L161 : upN (upN ln hf 10) mc q [16, 1] = 11 := by rw [upN_ne _ _ e2, upN_ne _ _ e1]; exact t161.2
  have Tns : upN (upN ty hf 2) mc 6 ns = 108 := by rw [upN_ne _ _ a2, upN_ne _ _ a1]; exact tn
  have I162 : upN (upN I hf (fun _ => 0)) mc (fun _ => 0) [16] 2 = q := by rw [upN_ne _ _ b2, upN_ne _ _ b1]; exact hq.1
  have Tmc : upN (upN ty hf 2) mc 6 mc = 6 := upN_self _ _ _
  have Lmc : upN (upN ln hf 10) mc q mc = q := upN_self _ _ _
  -- the chunks
  have k25 : ∀ (p x : Nat) (R' : Nm → Int → Option Nm), (x : Int) + p = q → (R' ns 0 = some mc ∧ R' ns 2 = some hf) → (∀ i : Int, 0 ≤ i → i < x → R' mc i = R [16, 0] i) → (∀ n, n ≠ hf → n ≠ mc → n ≠ ns → ∀ x, R' n x = R n x) → Rn (d + 1) M_Snapshot_init K X 25 [vR (some ns), vR (some [16]), vR (some [4, a]), vI (x : Int)] [] (upN (upN ty hf 2) mc 6, upN (upN ln hf 10) mc q, upN (upN I hf (fun _ => 0)) mc (fun _ => 0), R', c - 1 - 1, w - 10 - q.toNat) := by
    intro p
    induction p with
    | zero =>
      intro x R' hx h0 hr ho
      rw [b_Snapshot_init_25, ex_some, and_t T16, I162, if_pos (by omega), ex_some, and_t T16, ho _ b1 b2 b4, r1, ex_some, and_t ⟨T161, by omega, by omega⟩]
      refine ⟨st, by rw [upN_ne _ _ (Ne.symm n3), upN_ne _ _ (Ne.symm n2)]; exact hc2, ?_⟩
      rw [and_t (upN_self _ _ _), and_t ⟨by rw [upN_ne _ _ a3]; exact Tns, wn⟩, L161, show c - 1 - 1 - 1 = c - 3 by omega]
      refine k67 10 0 _ _ _ _ _ rfl ⟨?_, ?_⟩ ⟨?_, ?_⟩ ⟨?_, ?_⟩ ?_ ?_ ?_ (fun i i0 i1 => ?_) (fun x' => ?_) (fun y y0 y1 => by omega) (fun n v1 v2 v3 => ⟨?_, ?_, fun x' => ?_, fun x' v4 => ?_⟩) (by omega)
      · rw [upN_ne _ _ n2, upN_ne _ _ n1, upN_self]
      · rw [upN_ne _ _ n2, upN_ne _ _ n1, upN_self]
      · rw [upN_ne _ _ n3, upN_self]
      · rw [upN_ne _ _ n3, upN_self]
      · rw [upN_self]
      · rw [upN_self]
      · rw [up2_self, upI_ne _ _ (by decide), upN_ne _ _ a3]; exact h0.1
      · rw [up2_self, upI_self]
      · rw [up2_self, upI_ne _ _ (by decide), upN_ne _ _ a3]; exact h0.2
      · rw [up2_ne (Ne.symm a2), upN_ne _ _ n3]; exact hr i i0 (by omega)
      · rw [upN_self, upN_ne _ _ e2, upN_ne _ _ e1]
      · rw [upN_ne _ _ v3, upN_ne _ _ v2, upN_ne _ _ v1]
      · rw [upN_ne _ _ v3, upN_ne _ _ v2, upN_ne _ _ v1]
      · rw [upN_ne _ _ v3, upN_ne _ _ v2, upN_ne _ _ v1]
      · rw [up2_ne v4, upN_ne _ _ v3]; exact ho n v1 v2 v4 x'
    | succ p ih =>
      intro x R' hx h0 hr ho
      obtain ⟨y, ry, ty'⟩ := he x (by omega) (by omega)
      have yh : y ≠ hf := z (by omega) hc0.1
      have ym : y ≠ mc := z (by omega) hc1.1
      rw [b_Snapshot_init_25, ex_some, and_t T16, I162, if_neg (by omega), and_t Tns, ex_some, and_t T16, ho _ b1 b2 b4, r0, ex_some, and_t ⟨⟨by omega, by omega⟩, by omega, by omega⟩, h0.1, ex_some, ho _ d1 d2 d4, ry, and_t ⟨⟨by omega, by omega⟩, hc1.2, by omega, by omega, by show 100 ≤ upN (upN ty hf 2) mc 6 y ∧ avB (upN (upN ty hf 2) mc 6 mc) (upN (upN ty hf 2) mc 6 y - 100) = true; rw [Tmc, upN_ne _ _ ym, upN_ne _ _ yh, ty']; exact ⟨by decide, avB6⟩⟩, w32_id (by omega) (by omega)]
      refine ih (x + 1) _ (by omega) ⟨?_, ?_⟩ (fun i i0 i1 => ?_) (fun n v1 v2 v3 x' => ?_)
      · rw [up2_ne a2]; exact h0.1
      · rw [up2_ne a2]; exact h0.2
      · rw [up2_self]
        by_cases v : i = x
        · rw [v, upI_self, ry]
        · rw [upI_ne _ _ v]; exact hr i i0 (by omega)
      · rw [up2_ne v2]; exact ho n v1 v2 v3 x'
  rw [in_Snapshot_init, b_Snapshot_init_0, and_t ⟨by omega, by omega, by omega, by omega⟩]
  refine ⟨hf, hc0.1, ?_⟩
  rw [upN_ne _ _ a1, and_t ⟨tn, wn⟩, ex_some, upN_ne _ _ b1, and_t t16, upN_ne _ _ b1, hq.1, and_t ⟨by omega, by omega, by omega, by omega⟩]
  refine ⟨mc, by rw [upN_ne _ _ (Ne.symm n1)]; exact hc1.1, ?_⟩
  rw [upN_ne _ _ a2, upN_ne _ _ a1, and_t ⟨tn, wn⟩]
  refine k25 q.toNat 0 _ (by omega) ⟨?_, ?_⟩ (fun i i0 i1 => by omega) (fun n v1 v2 v3 x => ?_)
  · rw [up2_self, upI_self]
  · rw [up2_self, upI_ne _ _ (by decide), upN_ne _ _ a2, up2_self, upI_self]
  · rw [up2_ne v3, upN_ne _ _ v2, up2_ne v3, upN_ne _ _ v1]
set_option maxHeartbeats 4000000 in
theorem y_addSnapshot {d : Nat} {K : Kt} {X : Xt} {ty : Nm → Nat} {ln : Nm → Int} {I : Nm → Int → Int} {R : Nm → Int → Option Nm} {c w : Nat} {a q sl n : Int} {J1 : Int → Int → Int} {LL : List Ck} {U : Ck → Int} {ns mc m nn : Nm} (t0 : ty [4, a] = 105) (r9 : R [4, a] 9 = some [4, a, 9]) (tn : ty ns = 108) (rn : R ns 0 = some mc) (tm : ty mc = 6 ∧ ln mc = q) (hq : 0 ≤ q ∧ q ≤ 500) (he : ∀ i : Nat, (i : Int) < q → ∃ e ∈ LL, R mc i = some e.1 ∧ e.2.2.1 = J1 18 (500 * sl + i)) (hc : ∀ e ∈ LL, ty e.1 = 101 ∧ wr e.1 = true ∧ I e.1 3 = U e ∧ 0 ≤ U e ∧ U e ≤ 100000) (hD : ∀ e ∈ LL, ∀ f ∈ LL, e = f ∨ (e.1 ≠ f.1 ∧ e.2.2.1 ≠ f.2.2.1)) (hl : LQ ty ln I R [4, a, 9] m n) (hn : n ≤ 2000) (hv : 0 ≤ I [4, a] 10 ∧ I [4, a] 10 ≤ 1000) (hf : ty nn = 0 ∧ wr nn = true) (hc1 : 1 ≤ c) (hw1 : 9000 ≤ w)
    (k : ∀ (ty' : Nm → Nat) (ln' : Nm → Int) (I' : Nm → Int → Int) (R' : Nm → Int → Option Nm) (c' w' : Nat) (m' : Nm), LQ ty' ln' I' R' [4, a, 9] m' (n + 1) → (m' = m ∨ m' = nn) → R' m' n = some ns → (∀ j, 0 ≤ j → j < n → R' m' j = R m j) → (∀ x, x ≠ nn → ty' x = ty x ∧ ln' x = ln x) → (∀ x y, x ≠ nn → x ≠ [4, a, 9] → (x ≠ [4, a] ∨ y ≠ 10) → (y ≠ 3 ∨ ∀ e ∈ LL, x ≠ e.1) → I' x y = I x y) → (∀ e ∈ LL, I' e.1 3 = U e + uI J1 sl e.2.2.1 q.toNat) → I' [4, a] 10 = I [4, a] 10 + 1 → (∀ x y, x ≠ nn → x ≠ m' → (x ≠ [4, a, 9] ∨ y ≠ 0) → R' x y = R x y) → ((ty' nn = 0 ∧ c' = c) ∨ c' + 1 = c) → ((w : Int) + 4 * ln m ≤ w' + 4 * ln' m') → K none (ty', ln', I', R', c', w')) :
    Mth (d + 7) M_House_addSnapshot [vR (some [4, a]), vR (some ns)] (ty, ln, I, R, c, w) K X := by
  have key : ∀ (p i : Nat) (I1 : Nm → Int → Int), (i : Int) + p = q → (∀ x y, (y ≠ 3 ∨ ∀ e ∈ LL, x ≠ e.1) → I1 x y = I x y) → (∀ e ∈ LL, I1 e.1 3 = U e + uI J1 sl e.2.2.1 i) → Rn (d + 6) M_House_addSnapshot K X 2 [vR (some [4, a]), vR (some ns), vI (i : Int)] [] (ty, ln, I1, R, c, w) := by
    intro p
    induction p with
    | zero =>
      intro i I1 hi p1 p2
      have ei : i = q.toNat := by omega
      subst ei
      have lq : LQ ty ln I1 R [4, a, 9] m n := hl.fr (fun _ _ => ⟨rfl, rfl⟩) rfl (p1 _ _ (Or.inl (by decide))) (fun _ => rfl)
      rw [b_House_addSnapshot_2, ex_some, and_t tn, rn, ex_some, and_t (Or.inl (by omega)), if_pos (by omega), and_t t0, r9, ex_some, and_t hl.1.1]
      refine s_AL_add (nn := nn) (e := ns) lq (by omega) (by unfold oke; rw [tn]; exact ⟨by decide, by decide⟩) hf.1 hf.2 hc1 hw1 (fun ty' ln' I' R' c' w' m' g1 g2 g3 g4 g5 g6 g7 g8 g9 => ?_)
      show Rn (d + 6) M_House_addSnapshot K X 40 _ [vI 1] _
      have t4n : ([4, a] : Nm) ≠ nn := fun z => by rw [z] at t0; omega
      have i10 : I' [4, a] 10 = I [4, a] 10 := by rw [g6 _ _ t4n (Or.inl (by simp)), p1 _ _ (Or.inl (by decide))]
      rw [b_House_addSnapshot_40, and_t (by rw [(g5 _ t4n).1]; exact t0), and_t ⟨by rw [(g5 _ t4n).1]; exact t0, rfl⟩, i10, w32_id (by omega) (by omega)]
      have e4 : ∀ e ∈ LL, e.1 ≠ [4, a] ∧ e.1 ≠ [4, a, 9] ∧ e.1 ≠ nn := fun e he' => ⟨fun z => by have := (hc e he').1; rw [z] at this; omega, fun z => by have := (hc e he').1; rw [z, hl.1.1] at this; omega, fun z => by have := (hc e he').1; rw [z] at this; omega⟩
      refine k ty' ln' _ R' c' w' m' ?_ g2 g3 g4 g5 (fun x y v1 v2 v3 v4 => ?_) (fun e he' => ?_) (by rw [up2_self, upI_self]) g7 g8 g9
      · obtain ⟨x1, x2, x3, x4, x5, x6⟩ := g1
        exact ⟨x1, x2, by rw [up2_ne (by simp)]; exact x3, x4, x5, x6⟩
      · by_cases v : x = [4, a]
        · rw [v, up2_self, upI_ne _ _ (v3.elim (fun u => absurd v u) id), g6 _ _ t4n (Or.inl (by simp))]
          exact p1 _ _ (by rw [← v]; exact v4)
        · rw [up2_ne v, g6 x y v1 (Or.inl v2)]; exact p1 x y v4
      · have := e4 e he'
        rw [up2_ne this.1, g6 _ _ this.2.2 (Or.inl this.2.1)]; exact p2 e he'
    | succ p ih =>
      intro i I1 hi p1 p2
      obtain ⟨f, hf', r1, u1⟩ := he i (by omega)
      obtain ⟨c1, c2, c3, c4, c5⟩ := hc f hf'
      have ui := uI_le (J := J1) (s := sl) (P := f.2.2.1) i
      have ui0 := (uI_p (J := J1) (s := sl) (P := f.2.2.1) i).1
      rw [b_House_addSnapshot_2, ex_some, and_t tn, rn, ex_some, and_t (Or.inl (by omega)), if_neg (by omega), ex_some, and_t tn, rn, ex_some, and_t ⟨⟨by omega, by omega⟩, by omega, by omega⟩, r1, ex_some, and_t c1, ex_some, and_t ⟨c1, c2⟩, p2 f hf', w32_id (x := (i : Int) + 1) (by omega) (by omega), w32_id (by omega) (by omega)]
      refine ih (i + 1) _ (by omega) (fun x y hx => ?_) (fun e he' => ?_)
      · by_cases z : x = f.1
        · rw [z, up2_self, upI_ne _ _ (hx.elim id (fun v => absurd z (v f hf')))]
          exact p1 _ _ (hx.elim Or.inl (fun v => absurd z (v f hf')))
        · rw [up2_ne z]; exact p1 x y hx
      · show _ = _ + (uI J1 sl e.2.2.1 i + _)
        rcases hD e he' f hf' with rfl | dd
        · rw [up2_self, upI_self, if_pos u1.symm]; omega
        · rw [up2_ne dd.1, p2 e he', if_neg (fun z => dd.2 (z.symm.trans u1.symm))]; omega
  rw [in_House_addSnapshot, b_House_addSnapshot_0]
  exact key q.toNat 0 I (by omega) (fun _ _ _ => rfl) (fun e he' => by rw [(hc e he').2.2.1]; show _ = _ + (0 : Int); omega)
