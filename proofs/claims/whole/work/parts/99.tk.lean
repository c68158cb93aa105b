/-! ===== chunks made, compared, found; where a chunk ends ===== -/
theorem s_Chunk_init {d : Nat} {K : Kt} {X : Xt} {ty : Nm → Nat} {ln : Nm → Int} {I : Nm → Int → Int} {R : Nm → Int → Option Nm} {c w : Nat} {nc nb fm : Nm} {st z sg off : Int} (t1 : ty nc = 101) (t2 : ty fm = 1) (hf : ty nb = 0) (wc : wr nc = true) (wb : wr nb = true) (hz : 0 ≤ z ∧ z ≤ 60) (hs : 0 ≤ st ∧ st + z ≤ ln fm) (hc : 1 ≤ c) (hw : 60 ≤ w)
    (k : ∀ (I' : Nm → Int → Int) (R' : Nm → Int → Option Nm), (∀ x y, x ≠ nb → (x ≠ nc ∨ (y ≠ 1 ∧ y ≠ 2)) → I' x y = I x y) → (∀ x, 0 ≤ x → x < z → I' nb x = I fm (st + x)) → I' nc 1 = sg → I' nc 2 = off → R' nc 0 = some nb → (∀ x y, x ≠ nb → (x ≠ nc ∨ y ≠ 0) → R' x y = R x y) → K none (upN ty nb 1, upN ln nb z, I', R', c - 1, w - z.toNat)) :
    Mth (d + 1) M_Chunk_init [vR (some nc), vR (some fm), vI st, vI z, vI sg, vI off] (ty, ln, I, R, c, w) K X := by
  have n1 : nb ≠ nc := fun e => by rw [e] at hf; omega
  have n2 : nb ≠ fm := fun e => by rw [e] at hf; omega
  rw [in_Chunk_init, b_Chunk_init_0, and_t ⟨by omega, by omega, by omega, by omega⟩]
  refine ⟨nb, hf, ?_⟩
  rw [upN_ne ty _ (Ne.symm n1), and_t ⟨t1, wc⟩, and_t t1, up2_self, upI_self, ex_some, ex_some, upN_self ty, upN_ne ty _ (Ne.symm n2), upN_ne ln _ (Ne.symm n2), upN_self ln, and_t ⟨t2, wb, by omega, by omega, by omega, by omega, by omega⟩, if_pos rfl, and_t ⟨t1, wc⟩, and_t ⟨t1, wc⟩]
  refine k _ _ (fun x y hx hy => ?_) (fun x x0 x1 => ?_) ?_ ?_ ?_ (fun x y hx hy => ?_)
  · by_cases e : x = nc
    · rw [e, up2_self, upI_ne _ _ (hy.elim (fun u => absurd e u) (fun u => u.2)), up2_self, upI_ne _ _ (hy.elim (fun u => absurd e u) (fun u => u.1)), upN_ne _ _ (Ne.symm n1), upN_ne _ _ (Ne.symm n1)]
    · rw [up2_ne e, up2_ne e, upN_ne _ _ hx, upN_ne _ _ hx]
  · rw [up2_ne n1, up2_ne n1, upN_self]
    unfold cpyI
    rw [if_pos (by omega), upN_ne _ _ (Ne.symm n2), show st + (x - 0) = st + x by omega]
  · rw [up2_self, upI_ne _ _ (by decide), up2_self, upI_self]
  · rw [up2_self, upI_self]
  · rw [up2_self, upI_self]
  · by_cases e : x = nc
    · rw [e, up2_self, upI_ne _ _ (hy.elim (fun u => absurd e u) id), upN_ne _ _ (Ne.symm n1)]
    · rw [up2_ne e, upN_ne _ _ hx]
theorem s_Chunk_isSame {d : Nat} {K : Kt} {X : Xt} {ty : Nm → Nat} {ln : Nm → Int} {I : Nm → Int → Int} {R : Nm → Int → Option Nm} {c w : Nat} {nc nb fm : Nm} {st z : Int} (t1 : ty nc = 101) (r1 : R nc 0 = some nb) (t3 : ty nb = 1) (t2 : ty fm = 1) (hz : 0 ≤ z ∧ z ≤ 60) (hs : 0 ≤ st ∧ st + z ≤ ln fm) (hl : ln fm ≤ 1000) (k1 : (ln nb = z ∧ ∀ x : Int, 0 ≤ x → x < z → I nb x = I fm (st + x)) → K (some (vI 1)) (ty, ln, I, R, c, w)) (k0 : ¬ (ln nb = z ∧ ∀ x : Int, 0 ≤ x → x < z → I nb x = I fm (st + x)) → K (some (vI 0)) (ty, ln, I, R, c, w)) :
    Mth (d + 1) M_Chunk_isSame [vR (some nc), vR (some fm), vI st, vI z] (ty, ln, I, R, c, w) K X := by
  rw [in_Chunk_isSame, b_Chunk_isSame_0, and_t t1, r1, ex_some, and_t (Or.inl (by omega))]
  by_cases q : ln nb = z
  · rw [if_pos q]
    have key : ∀ q i : Nat, i + q = z.toNat → (∀ x : Int, 0 ≤ x → x < i → I nb x = I fm (st + x)) → Rn d M_Chunk_isSame K X 14 [vR (some nc), vR (some fm), vI st, vI z, vI (i : Int)] [] (ty, ln, I, R, c, w) := by
      intro q'
      induction q' with
      | zero =>
        intro i hi hx
        rw [b_Chunk_isSame_14, if_pos (by omega), and_t (Or.inr rfl)]
        exact k1 ⟨q, fun x x0 x1 => hx x x0 (by omega)⟩
      | succ q' ih =>
        intro i hi hx
        rw [b_Chunk_isSame_14, if_neg (by omega), and_t t1, r1, ex_some, and_t ⟨Or.inl t3, by omega, by omega⟩, ex_some, w32_id (x := st + i) (by omega) (by omega), and_t ⟨Or.inl t2, by omega, by omega⟩]
        by_cases p : I nb i = I fm (st + i)
        · rw [if_pos p, w32_id (by omega) (by omega)]
          refine ih (i + 1) (by omega) (fun x x0 x1 => ?_)
          by_cases e : x = i
          · rw [e]; exact p
          · exact hx x x0 (by omega)
        · rw [if_neg p, and_t (Or.inl rfl)]
          exact k0 (fun u => p (u.2 i (by omega) (by omega)))
    exact key z.toNat 0 (Nat.zero_add _) (fun x x0 x1 => by omega)
  · rw [if_neg q, and_t (Or.inl rfl)]
    exact k0 (fun u => q u.1)
theorem s_findChunk {d : Nat} {K : Kt} {X : Xt} {ty : Nm → Nat} {ln : Nm → Int} {I : Nm → Int → Int} {R : Nm → Int → Option Nm} {c w : Nat} {a st z : Int} {m fm : Nm} {L : List Ck} (t0 : ty [4, a] = 105) (r7 : R [4, a] 7 = some [4, a, 7]) (hL : LQ ty ln I R [4, a, 7] m L.length) (hi : ∀ (i : Nat) (e : Ck), L[i]? = some e → R m i = some e.1) (hC : ∀ e ∈ L, ty e.1 = 101 ∧ R e.1 0 = some e.2.1 ∧ ty e.2.1 = 1 ∧ ln e.2.1 = e.2.2.2) (t2 : ty fm = 1) (hz : 0 ≤ z ∧ z ≤ 60) (hs : 0 ≤ st ∧ st + z ≤ ln fm) (hl : ln fm ≤ 1000)
    (k0 : (∀ e ∈ L, ¬ (e.2.2.2 = z ∧ ∀ x : Int, 0 ≤ x → x < z → I e.2.1 x = I fm (st + x))) → K (some (vR none)) (ty, ln, I, R, c, w)) (k1 : ∀ e ∈ L, (e.2.2.2 = z ∧ ∀ x : Int, 0 ≤ x → x < z → I e.2.1 x = I fm (st + x)) → K (some (vR (some e.1))) (ty, ln, I, R, c, w)) :
    Mth (d + 4) M_House_findChunk [vR (some [4, a]), vR (some fm), vI st, vI z] (ty, ln, I, R, c, w) K X := by
  have key : ∀ q i : Nat, i + q = L.length → (∀ j e, j < i → L[j]? = some e → ¬ (e.2.2.2 = z ∧ ∀ x : Int, 0 ≤ x → x < z → I e.2.1 x = I fm (st + x))) → Rn (d + 3) M_House_findChunk K X 3 [vR (some [4, a]), vR (some fm), vI st, vI z, vI (i : Int)] [] (ty, ln, I, R, c, w) := by
    intro q
    induction q with
    | zero =>
      intro i hi' hx
      rw [b_House_findChunk_3, and_t t0, r7, ex_some, and_t hL.1.1, s_AL_size2 hL]
      show Rn (d + 3) M_House_findChunk K X 12 _ [vI _, vI _] _
      rw [b_House_findChunk_12, if_pos (by omega)]
      refine k0 (fun e he => ?_)
      obtain ⟨j, hj, ej⟩ := List.mem_iff_getElem.mp he
      exact hx j e (by omega) (List.getElem?_eq_some_iff.mpr ⟨hj, ej⟩)
    | succ q ih =>
      intro i hi' hx
      have hil : i < L.length := by omega
      have ge : L[i]? = some L[i] := List.getElem?_eq_getElem hil
      have me : L[i] ∈ L := List.getElem_mem hil
      obtain ⟨c1, c2, c3, c4⟩ := hC _ me
      have lb := hL.2.2.2.1
      rw [b_House_findChunk_3, and_t t0, r7, ex_some, and_t hL.1.1, s_AL_size2 hL]
      show Rn (d + 3) M_House_findChunk K X 12 _ [vI _, vI _] _
      rw [b_House_findChunk_12, if_neg (by omega), and_t t0, r7, ex_some, and_t hL.1.1, s_AL_get2 hL (by omega), hi i _ ge]
      show Rn (d + 3) M_House_findChunk K X 24 _ [vR (some _)] _
      rw [b_House_findChunk_24, ck c1, ex_some, and_t c1]
      refine s_Chunk_isSame c1 c2 c3 t2 hz hs hl (fun p => ?_) (fun p => ?_)
      · rw [c4] at p
        show Rn (d + 3) M_House_findChunk K X 33 _ [vI 1] _
        rw [b_House_findChunk_33, if_neg (by decide), and_t t0, r7, ex_some, and_t hL.1.1, s_AL_get2 hL (by omega), hi i _ ge]
        show Rn (d + 3) M_House_findChunk K X 45 _ [vR (some _)] _
        rw [b_House_findChunk_45, ck c1]
        exact k1 _ me p
      · rw [c4] at p
        show Rn (d + 3) M_House_findChunk K X 33 _ [vI 0] _
        rw [b_House_findChunk_33, if_pos rfl, w32_id (by omega) (by omega)]
        refine ih (i + 1) (by omega) (fun j e hj he => ?_)
        by_cases y : j = i
        · subst y
          rw [ge] at he
          cases he
          exact p
        · exact hx j e (by omega) he
  rw [in_House_findChunk, b_House_findChunk_0]
  exact key L.length 0 (Nat.zero_add _) (fun j e hj => by omega)
theorem s_isCutBehind {d : Nat} {K : Kt} {X : Xt} {ty : Nm → Nat} {ln : Nm → Int} {I : Nm → Int → Int} {R : Nm → Int → Option Nm} {c w : Nat} {fm : Nm} {st i : Int} (t2 : ty fm = 1) (hs : 0 ≤ st ∧ st ≤ i ∧ i < ln fm) (hl : ln fm ≤ 1000) (hb : ∀ x, 0 ≤ x → x ≤ i → 0 ≤ I fm x ∧ I fm x ≤ 255) :
    Mth (d + 1) M_Draft_isCutBehind [vR (some fm), vI st, vI i] (ty, ln, I, R, c, w) K X = K (some (vI (if 4 ≤ i + 1 - st ∧ (i + 1 - st = 16 ∨ (I fm i + 3 * I fm (i - 1) + 5 * I fm (i - 2) + 7 * I fm (i - 3)) % 11 = 0) then 1 else 0))) (ty, ln, I, R, c, w) := by
  rw [in_Draft_isCutBehind, b_Draft_isCutBehind_0, w32_id (x := i + 1) (by omega) (by omega), w32_id (x := i + 1 - st) (by omega) (by omega)]
  by_cases q : 4 ≤ i + 1 - st
  · have x0 := hb i (by omega) (by omega)
    have x1 := hb (i - 1) (by omega) (by omega)
    have x2 := hb (i - 2) (by omega) (by omega)
    have x3 := hb (i - 3) (by omega) (by omega)
    rw [if_pos q, ex_some, and_t ⟨Or.inl t2, by omega, by omega⟩, ex_some, w32_id (x := i - 1) (by omega) (by omega), and_t ⟨Or.inl t2, by omega, by omega⟩, ex_some, w32_id (x := i - 2) (by omega) (by omega), and_t ⟨Or.inl t2, by omega, by omega⟩, ex_some, w32_id (x := i - 3) (by omega) (by omega), and_t ⟨Or.inl t2, by omega, by omega⟩, w32_id (x := 3 * I fm (i - 1)) (by omega) (by omega), w32_id (x := 5 * I fm (i - 2)) (by omega) (by omega), w32_id (x := 7 * I fm (i - 3)) (by omega) (by omega), w32_id (x := I fm i + 3 * I fm (i - 1)) (by omega) (by omega), w32_id (x := I fm i + 3 * I fm (i - 1) + 5 * I fm (i - 2)) (by omega) (by omega), w32_id (by omega) (by omega), Int.tmod_eq_emod_of_nonneg (by omega)]
    by_cases p : i + 1 - st = 16
    · rw [if_pos p, b_Draft_isCutBehind_57, b_Draft_isCutBehind_62, and_t (Or.inr rfl), if_pos ⟨q, Or.inl p⟩]
    · rw [if_neg p, and_t (by decide)]
      by_cases p2 : (I fm i + 3 * I fm (i - 1) + 5 * I fm (i - 2) + 7 * I fm (i - 3)) % 11 = 0
      · rw [if_neg (fun z => z p2), b_Draft_isCutBehind_57, b_Draft_isCutBehind_62, and_t (Or.inr rfl), if_pos ⟨q, Or.inr p2⟩]
      · rw [if_pos p2, b_Draft_isCutBehind_62, and_t (Or.inl rfl), if_neg (fun z => z.2.elim p p2)]
  · rw [if_neg q, and_t (Or.inl rfl), if_neg (fun z => q z.1)]
