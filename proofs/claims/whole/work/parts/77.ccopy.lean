/-! ===== THE CLASS: a World is copied ===== -/
def disW (w v : Nat) : Prop := w + 17 ≤ v ∨ v + 17 ≤ w
theorem disW_of {w v : Nat} (hw : isW w) (hv : isW v) (h : w ≠ v) : disW w v := by
  unfold isW at hw hv
  unfold disW
  omega
section cp
variable {S : Nat → Int → Int} {w v a k l : Nat} {i x y n : Int}
theorem ud (hd : disW w v) (hk : k < 17) (hl : l < 17) : upS S (w + l) i x (v + k) = S (v + k) := if_neg (by unfold disW at hd; omega)
theorem ud0 (hd : disW w v) (hl : l < 17) : upS S (w + l) i x v = S v := if_neg (by unfold disW at hd; omega)
theorem ud1 (hd : disW w v) (hk : k < 17) : upS S w i x (v + k) = S (v + k) := if_neg (by unfold disW at hd; omega)
theorem ud2 (hd : disW w v) : upS S w i x v = S v := if_neg (by unfold disW at hd; omega)
theorem uc (hd : disW w v) (hk : k < 17) (hl : l < 17) : cpyS S a (w + l) i x n (v + k) = S (v + k) := if_neg (by unfold disW at hd; omega)
theorem uc0 (hd : disW w v) (hl : l < 17) : cpyS S a (w + l) i x n v = S v := if_neg (by unfold disW at hd; omega)
end cp
/-- the debts, the log copied -/
def cpD (S : Nat → Int → Int) (w v : Nat) : Nat → Int → Int := cpyS (cpyS (cpyS (upS S (w + 9) 0 (S (v + 9) 0)) (v + 10) (w + 10) 0 0 8) (v + 11) (w + 11) 0 0 8) (v + 12) (w + 12) 0 0 8
def cpL (S : Nat → Int → Int) (w v : Nat) : Nat → Int → Int := cpyS (upS S (w + 13) 0 (S (v + 13) 0)) (v + 14) (w + 14) 0 0 240
theorem cpD_d {S : Nat → Int → Int} {w v k : Nat} (hd : disW w v) (hk : k < 17) : cpD S w v (v + k) = S (v + k) := by
  unfold cpD
  rw [uc hd hk (by omega), uc hd hk (by omega), uc hd hk (by omega), ud hd hk (by omega)]
theorem cpD_0 {S : Nat → Int → Int} {w v : Nat} (hd : disW w v) : cpD S w v v = S v := by
  unfold cpD
  rw [uc0 hd (by omega), uc0 hd (by omega), uc0 hd (by omega), ud0 hd (by omega)]
theorem cpL_d {S : Nat → Int → Int} {w v k : Nat} (hd : disW w v) (hk : k < 17) : cpL S w v (v + k) = S (v + k) := by
  unfold cpL
  rw [uc hd hk (by omega), ud hd hk (by omega)]
theorem cpL_0 {S : Nat → Int → Int} {w v : Nat} (hd : disW w v) : cpL S w v v = S v := by
  unfold cpL
  rw [uc0 hd (by omega), ud0 hd (by omega)]
section World6
variable {tb : Tab} {d : Nat} {m : AM} {K : Out → AM → Prop} {S : Nat → Int → Int} {w v : Nat} {r : Int → Int}
theorem a13_0 {tb : Tab} {d : Nat} {K : Out → AM → Prop} {ls st : List AV} {m : AM} : At tb d 13 K 0 ls st m = wpB tb (pg.2.1 13) (Runs tb pg d) K (At tb d 13 K) [.aload 0, .aload 1, .getfield 0, .putfield 0, .aload 1, .getfield 1, .bipush 0, .aload 0, .getfield 1, .bipush 0, .bipush 8, .invokestatic 2, .aload 1, .getfield 2, .bipush 0, .aload 0, .getfield 2, .bipush 0, .bipush 8, .invokestatic 2, .aload 1, .getfield 3, .bipush 0, .aload 0, .getfield 3, .bipush 0, .bipush 8, .invokestatic 2, .return_] ls st m := At.eq k13_0
theorem w_13 (hw : isW w) (hv : isW v) (hd : disW w v) (hK : K (.inl none) (X (cpD S w v) m)) : Runs tb pg (d + 1) 13 [vr (w + 9), vr (v + 9)] (X S m) K := by
  refine Runs.of (al := [vr (w + 9), vr (v + 9)]) (n := 0) ⟨w + 9, _, _, rfl, xo_w9 hw⟩ rfl rfl trivial ?_
  repeat' (first | omega | (exact hK) | simp only [w_aload, x_g0_w9, x_p0_w9, x_g1_w9, w_iconst, x_copy, x_g2_w9, x_g3_w9, w_return, isA_w1, isA_w2, isA_w3, isA_w4, isA_w5, isA_w6, isA_w7, isA_w8, isA_w10, isA_w11, isA_w12, isA_w14, isA_w15, isA_w16, len_w1, len_w2, len_w3, len_w4, len_w5, len_w6, len_w7, len_w8, len_w10, len_w11, len_w12, len_w14, len_w15, len_w16, Int.cast_ofNat_Int, a13_0, R32, List.getElem?_cons_zero, List.getElem?_cons_succ, List.set_cons_zero, List.set_cons_succ, List.cons_append, List.nil_append, List.replicate_succ, List.replicate_zero, List.take_succ_cons, List.take_zero, List.drop_succ_cons, List.drop_zero, List.reverse_cons, List.reverse_nil, List.length_cons, List.length_nil, Option.toList, true_and, and_true, eq_self, ↓reduceIte, not_true_eq_false, not_false_eq_true, true_or, or_true, hw, hv, hd, ud, ud0, ud1, ud2, uc, uc0, Nat.reduceLT, cpD_d, cpD_0, cpL_d, cpL_0] | with_reducible refine And.intro ?_ ?_ | with_reducible intro _)
  all_goals (try (first | omega | (exfalso; assumption) | skip))
theorem a49_0 {tb : Tab} {d : Nat} {K : Out → AM → Prop} {ls st : List AV} {m : AM} : At tb d 49 K 0 ls st m = wpB tb (pg.2.1 49) (Runs tb pg d) K (At tb d 49 K) [.aload 0, .aload 1, .getfield 400, .putfield 400, .aload 1, .getfield 401, .bipush 0, .aload 0, .getfield 401, .bipush 0, .bipush 240, .invokestatic 2, .return_] ls st m := At.eq k49_0
theorem w_49 (hw : isW w) (hv : isW v) (hd : disW w v) (hK : K (.inl none) (X (cpL S w v) m)) : Runs tb pg (d + 1) 49 [vr (w + 13), vr (v + 13)] (X S m) K := by
  refine Runs.of (al := [vr (w + 13), vr (v + 13)]) (n := 0) ⟨w + 13, _, _, rfl, xo_w13 hw⟩ rfl rfl trivial ?_
  repeat' (first | omega | (exact hK) | simp only [w_aload, x_g400_w13, x_p400_w13, x_g401_w13, w_iconst, x_copy, w_return, isA_w1, isA_w2, isA_w3, isA_w4, isA_w5, isA_w6, isA_w7, isA_w8, isA_w10, isA_w11, isA_w12, isA_w14, isA_w15, isA_w16, len_w1, len_w2, len_w3, len_w4, len_w5, len_w6, len_w7, len_w8, len_w10, len_w11, len_w12, len_w14, len_w15, len_w16, Int.cast_ofNat_Int, a49_0, R32, List.getElem?_cons_zero, List.getElem?_cons_succ, List.set_cons_zero, List.set_cons_succ, List.cons_append, List.nil_append, List.replicate_succ, List.replicate_zero, List.take_succ_cons, List.take_zero, List.drop_succ_cons, List.drop_zero, List.reverse_cons, List.reverse_nil, List.length_cons, List.length_nil, Option.toList, true_and, and_true, eq_self, ↓reduceIte, not_true_eq_false, not_false_eq_true, true_or, or_true, hw, hv, hd, ud, ud0, ud1, ud2, uc, uc0, Nat.reduceLT, cpD_d, cpD_0, cpL_d, cpL_0] | with_reducible refine And.intro ?_ ?_ | with_reducible intro _)
  all_goals (try (first | omega | (exfalso; assumption) | skip))
end World6
