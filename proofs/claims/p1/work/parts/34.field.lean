/-! ===== the reference's product ===== -/
def gdb (acc : Int) : Int := if shl32 acc 1 ≤ 255 then shl32 acc 1 else xor32 (shl32 acc 1) 285
def gst (a b acc j : Int) : Int := if ¬ and32 (shr32 b j) 1 = 1 then gdb acc else xor32 (gdb acc) a
/-- the first n bits of b are still to be taken -/
def gml (a b : Int) : Nat → Int → Int
  | 0, acc => acc
  | n + 1, acc => gml a b n (gst a b acc n)
theorem s_Mo_product {d : Nat} {K : Kt} {X : Xt} {a b : Int} {h : AH} : Mth (d + 1) M_Mo_product [vI a, vI b] h K X = K (some (vI (gml a b 8 0))) h := by
  obtain ⟨ty, ln, I, R, c, w⟩ := h
  rw [in_Mo_product, b_Mo_product_0]
  have key : ∀ (n : Nat) (acc : Int), n ≤ 8 → Rn d M_Mo_product K X 5 [vI a, vI b, vI acc, vI ((n : Int) - 1)] [] (ty, ln, I, R, c, w) = K (some (vI (gml a b n acc))) (ty, ln, I, R, c, w) := by
    intro n
    induction n with
    | zero =>
      intro acc _
      rw [b_Mo_product_5, if_pos (by decide)]
      rfl
    | succ n ih =>
      intro acc hn
      have e : ((n + 1 : Nat) : Int) - 1 = (n : Int) := by omega
      have e2 : w32 ((n : Int) + (-1)) = (n : Int) - 1 := by rw [w32_id (by omega) (by omega)]; omega
      have st : ∀ x y : Int, Rn d M_Mo_product K X 46 [vI a, vI b, vI x, vI (n : Int)] [vI y] (ty, ln, I, R, c, w) = K (some (vI (gml a b n y))) (ty, ln, I, R, c, w) := by
        intro x y
        rw [b_Mo_product_46, e2, ih y (by omega)]
      have md : ∀ x y : Int, Rn d M_Mo_product K X 29 [vI a, vI b, vI x, vI (n : Int)] [vI y] (ty, ln, I, R, c, w) = K (some (vI (gml a b n (if ¬ and32 (shr32 b n) 1 = 1 then y else xor32 y a)))) (ty, ln, I, R, c, w) := by
        intro x y
        rw [b_Mo_product_29, st, st]
        by_cases q : ¬ and32 (shr32 b n) 1 = 1
        · rw [if_pos q, if_pos q]
        · rw [if_neg q, if_neg q]
      rw [e, b_Mo_product_5, if_neg (by omega), md, md]
      show _ = K (some (vI (gml a b n (gst a b acc n)))) _
      unfold gst gdb
      by_cases q : shl32 acc 1 ≤ 255
      · rw [if_pos q, if_pos q]
      · rw [if_neg q, if_neg q]
  exact key 8 0 (Nat.le_refl 8)
theorem s_FB_restored {d : Nat} {K : Kt} {X : Xt} {t m : Nm} {i : Int} {ty : Nm → Nat} {ln : Nm → Int} {I : Nm → Int → Int} {R : Nm → Int → Option Nm} {c w : Nat} (h1 : ty t = 100) (h2 : R t 3 = some m) (h3 : ty m = 1) (h4 : 0 ≤ I t 6) (h5 : I t 6 ≤ ln m) (h6 : I t 6 ≤ 1000) : Mth (d + 2) M_FB_restored [vR (some t), vI i] (ty, ln, I, R, c, w) K X = K (some (vI (if 0 ≤ i ∧ i < I t 6 then I m i else -1))) (ty, ln, I, R, c, w) := by
  rw [in_FB_restored, b_FB_restored_0, and_t h1, s_FB_isWithin, w32_id (by omega) (by omega)]
  refine b_FB_restored_11.trans ?_
  rw [b_FB_restored_24]
  by_cases h : 0 ≤ i ∧ i ≤ I t 6 - 1
  · rw [if_pos h, if_neg (by decide), and_t h1]
    simp only [h2, Option.some.injEq, exists_eq_left']
    rw [and_t ⟨Or.inl h3, h.1, by omega⟩, b_FB_restored_24, if_pos (by omega)]
  · rw [if_neg h, if_pos rfl, if_neg (by omega)]
