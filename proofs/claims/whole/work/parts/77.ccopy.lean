/-! ===== THE CLASS: a World is copied ===== -/
def disW (w v : Nat) : Prop := w + 17 ≤ v ∨ v + 17 ≤ w
theorem disW_of {w v : Nat} (hw : isW w) (hv : isW v) (h : w ≠ v) : disW w v := by
  unfold isW at hw hv
  unfold disW
  omega
section cp
variable {S : Nat → Int → Int} {w v a k l : Nat} {i x y n : Int}
theorem ud (hd : disW w v) (hk : k < 17) (hl : l < 17) : upS S (w + l) i x (v + k) = S (v + k) := if_neg (by unfold disW at hd; omega)
theorem ud0 (hd : disW w v) (hl : l < 17) : upS S (w + l) i x v = S v := if_neg (by unfold disW at hd; omega)
theorem ud1 (hd : disW w v) (hk : k < 17) : upS S w i x (v + k) = S (v + k) := if_neg (by unfold disW at hd; omega)
theorem ud2 (hd : disW w v) : upS S w i x v = S v := if_neg (by unfold disW at hd; omega)
theorem uc (hd : disW w v) (hk : k < 17) (hl : l < 17) : cpyS S a (w + l) i x n (v + k) = S (v + k) := if_neg (by unfold disW at hd; omega)
theorem uc0 (hd : disW w v) (hl : l < 17) : cpyS S a (w + l) i x n v = S v := if_neg (by unfold disW at hd; omega)
end cp
/-- the debts, the log copied -/
def cpD (S : Nat → Int → Int) (w v : Nat) : Nat → Int → Int := cpyS (cpyS (cpyS (upS S (w + 9) 0 (S (v + 9) 0)) (v + 10) (w + 10) 0 0 8) (v + 11) (w + 11) 0 0 8) (v + 12) (w + 12) 0 0 8
def cpL (S : Nat → Int → Int) (w v : Nat) : Nat → Int → Int := cpyS (upS S (w + 13) 0 (S (v + 13) 0)) (v + 14) (w + 14) 0 0 240
theorem cpD_d {S : Nat → Int → Int} {w v k : Nat} (hd : disW w v) (hk : k < 17) : cpD S w v (v + k) = S (v + k) := by
  unfold cpD
  rw [uc hd hk (by omega), uc hd hk (by omega), uc hd hk (by omega), ud hd hk (by omega)]
theorem cpD_0 {S : Nat → Int → Int} {w v : Nat} (hd : disW w v) : cpD S w v v = S v := by
  unfold cpD
  rw [uc0 hd (by omega), uc0 hd (by omega), uc0 hd (by omega), ud0 hd (by omega)]
theorem cpL_d {S : Nat → Int → Int} {w v k : Nat} (hd : disW w v) (hk : k < 17) : cpL S w v (v + k) = S (v + k) := by
  unfold cpL
  rw [uc hd hk (by omega), ud hd hk (by omega)]
theorem cpL_0 {S : Nat → Int → Int} {w v : Nat} (hd : disW w v) : cpL S w v v = S v := by
  unfold cpL
  rw [uc0 hd (by omega), ud0 hd (by omega)]
def CPw (S T : Nat → Int → Int) (w v : Nat) : Prop := EW S T w ∧ (T w 0 = S v 0 ∧ T w 4 = S v 4 ∧ T w 13 = S v 13 ∧ T w 14 = S v 14 ∧ T w 15 = S v 15) ∧ (∀ j, 0 ≤ j → j < 6 → T (w + 1) j = S (v + 1) j ∧ T (w + 2) j = S (v + 2) j ∧ T (w + 3) j = S (v + 3) j ∧ T (w + 4) j = S (v + 4) j ∧ T (w + 6) j = S (v + 6) j) ∧ (∀ j, 0 ≤ j → j < 36 → T (w + 5) j = S (v + 5) j ∧ T (w + 7) j = S (v + 7) j ∧ T (w + 8) j = S (v + 8) j) ∧ (T (w + 9) 0 = S (v + 9) 0 ∧ ∀ j, 0 ≤ j → j < 8 → T (w + 10) j = S (v + 10) j ∧ T (w + 11) j = S (v + 11) j ∧ T (w + 12) j = S (v + 12) j) ∧ (T (w + 13) 0 = S (v + 13) 0 ∧ ∀ j, 0 ≤ j → j < 240 → T (w + 14) j = S (v + 14) j) ∧ (∀ j, 0 ≤ j → j < 5 → T (w + 15) j = S (v + 15) j)
section ew
variable {S T : Nat → Int → Int} {w a k : Nat} {i x y n : Int}
theorem EW_u (h : EW S T w) (hk : k < 17) : EW S (upS T (w + k) i x) w := fun b hb => (show upS T (w + k) i x b = T b from if_neg (by omega)).trans (h b hb)
theorem EW_u0 (h : EW S T w) : EW S (upS T w i x) w := fun b hb => (show upS T w i x b = T b from if_neg (by omega)).trans (h b hb)
theorem EW_c (h : EW S T w) (hk : k < 17) : EW S (cpyS T a (w + k) i x n) w := fun b hb => (show cpyS T a (w + k) i x n b = T b from if_neg (by omega)).trans (h b hb)
theorem EW_d {v : Nat} (h : EW S T w) : EW S (cpD T w v) w := EW_c (EW_c (EW_c (EW_u h (by omega)) (by omega)) (by omega)) (by omega)
theorem EW_l {v : Nat} (h : EW S T w) : EW S (cpL T w v) w := EW_c (EW_u h (by omega)) (by omega)
end ew
theorem RW_cp {S T : Nat → Int → Int} {w v : Nat} {r : Int → Int} (hA : AB r) (hR : RW S v r) (h : CPw S T w v) : RW T w r := by
  obtain ⟨⟨c0, c1, c2, c3⟩, cf, cp, cd, cl, cs⟩ := hR
  obtain ⟨_, ⟨t0, t4, t13, t14, _⟩, t6, t36, ⟨t9, t8⟩, ⟨tl, t240⟩, t5⟩ := h
  have b3 := hA.2.1.1
  have b4 := hA.2.1.2.1
  have b5 := hA.2.1.2.2.1
  have b11 := hA.2.1.2.2.2.2.2.2.1
  refine ⟨⟨by rw [t0]; exact c0, by rw [t4]; exact c1, by rw [t13]; exact c2, by rw [t14]; exact c3⟩, fun g g0 g1 => ?_, fun q q0 q1 => ?_, ⟨by rw [t9]; exact cd.1, fun k k0 k1 => ?_⟩, ⟨by rw [tl]; exact cl.1, fun k c k0 k1 c0 c1 => ?_⟩, fun j j0 j1 => ?_⟩
  · have e := t6 g g0 (by omega)
    rw [e.1, e.2.1, e.2.2.1]
    exact cf g g0 g1
  · have zq := AB_pp hA q0 q1
    have e := t6 q q0 (by omega)
    obtain ⟨d1, d2, d3, d4⟩ := cp q q0 q1
    rw [e.2.2.2.1, e.2.2.2.2]
    refine ⟨d1, d2, fun k k0 k1 => ?_, fun hq k k0 k1 => ?_⟩
    · rw [(t36 (6 * q + k) (by omega) (by omega)).1]; exact d3 k k0 k1
    · rw [(t36 (6 * q + k) (by omega) (by omega)).2.1, (t36 (6 * q + k) (by omega) (by omega)).2.2]; exact d4 hq k k0 k1
  · have e := t8 k k0 (by omega)
    rw [e.1, e.2.1, e.2.2]
    exact cd.2 k k0 k1
  · rw [t240 _ (by omega) (by omega)]
    exact cl.2 k c k0 k1 c0 c1
  · rw [t5 j j0 j1]
    exact cs j j0 j1
section kk
variable {S T : Nat → Int → Int} {w v a k l : Nat} {i x y n j : Int}
theorem kc (h : k ≠ l) : cpyS S a (w + l) i x n (w + k) = S (w + k) := if_neg (by omega)
theorem ku (h : k ≠ l) : upS S (w + l) i x (w + k) = S (w + k) := if_neg (by omega)
theorem ku0 (h : k ≠ 0) : upS S w i x (w + k) = S (w + k) := if_neg (by omega)
theorem k0u (h : l ≠ 0) : upS S (w + l) i x w = S w := if_neg (by omega)
theorem k0c (h : l ≠ 0) : cpyS S a (w + l) i x n w = S w := if_neg (by omega)
theorem kat (h0 : 0 ≤ j) (h1 : j < n) : cpyS S a l 0 0 n l j = S a j := by
  unfold cpyS
  rw [if_pos rfl, if_pos ⟨h0, by omega⟩, show 0 + (j - 0) = j by omega]
theorem kuat : upS S a i x a j = if j = i then x else S a j := by unfold upS; rw [if_pos rfl]
theorem kD (h : k < 9 ∨ 12 < k) : cpD S w v (w + k) = S (w + k) := by
  unfold cpD
  rw [kc (by omega), kc (by omega), kc (by omega), ku (by omega)]
theorem kL (h : k < 13 ∨ 14 < k) : cpL S w v (w + k) = S (w + k) := by
  unfold cpL
  rw [kc (by omega), ku (by omega)]
theorem kD0 : cpD S w v w = S w := by
  unfold cpD
  rw [k0c (by omega), k0c (by omega), k0c (by omega), k0u (by omega)]
theorem kL0 : cpL S w v w = S w := by
  unfold cpL
  rw [k0c (by omega), k0u (by omega)]
theorem kD9 : cpD S w v (w + 9) 0 = S (v + 9) 0 := by
  unfold cpD
  rw [kc (by omega), kc (by omega), kc (by omega), kuat, if_pos rfl]
theorem kDa (hd : disW w v) (h0 : 0 ≤ j) (h1 : j < 8) : cpD S w v (w + 10) j = S (v + 10) j ∧ cpD S w v (w + 11) j = S (v + 11) j ∧ cpD S w v (w + 12) j = S (v + 12) j := by
  unfold cpD
  refine ⟨?_, ?_, ?_⟩
  · rw [kc (by omega), kc (by omega), kat h0 h1, ud hd (by omega) (by omega)]
  · rw [kc (by omega), kat h0 h1, uc hd (by omega) (by omega), ud hd (by omega) (by omega)]
  · rw [kat h0 h1, uc hd (by omega) (by omega), uc hd (by omega) (by omega), ud hd (by omega) (by omega)]
theorem kL3 : cpL S w v (w + 13) 0 = S (v + 13) 0 := by
  unfold cpL
  rw [kc (by omega), kuat, if_pos rfl]
theorem kLa (hd : disW w v) (h0 : 0 ≤ j) (h1 : j < 240) : cpL S w v (w + 14) j = S (v + 14) j := by
  unfold cpL
  rw [kat h0 h1, ud hd (by omega) (by omega)]
end kk
section World6
variable {tb : Tab} {d : Nat} {m : AM} {K : Out → AM → Prop} {S : Nat → Int → Int} {w v : Nat} {r : Int → Int}
theorem a13_0 {tb : Tab} {d : Nat} {K : Out → AM → Prop} {ls st : List AV} {m : AM} : At tb d 13 K 0 ls st m = wpB tb (pg.2.1 13) (Runs tb pg d) K (At tb d 13 K) [.aload 0, .aload 1, .getfield 0, .putfield 0, .aload 1, .getfield 1, .bipush 0, .aload 0, .getfield 1, .bipush 0, .bipush 8, .invokestatic 2, .aload 1, .getfield 2, .bipush 0, .aload 0, .getfield 2, .bipush 0, .bipush 8, .invokestatic 2, .aload 1, .getfield 3, .bipush 0, .aload 0, .getfield 3, .bipush 0, .bipush 8, .invokestatic 2, .return_] ls st m := At.eq k13_0
theorem w_13 (hw : isW w) (hv : isW v) (hd : disW w v) (hK : K (.inl none) (X (cpD S w v) m)) : Runs tb pg (d + 1) 13 [vr (w + 9), vr (v + 9)] (X S m) K := by
  refine Runs.of (al := [vr (w + 9), vr (v + 9)]) (n := 0) ⟨w + 9, _, _, rfl, xo_w9 hw⟩ rfl rfl trivial ?_
  repeat' (first | omega | (exact hK) | simp only [w_aload, x_g0_w9, x_p0_w9, x_g1_w9, w_iconst, x_copy, x_g2_w9, x_g3_w9, w_return, isA_w1, isA_w2, isA_w3, isA_w4, isA_w5, isA_w6, isA_w7, isA_w8, isA_w10, isA_w11, isA_w12, isA_w14, isA_w15, isA_w16, len_w1, len_w2, len_w3, len_w4, len_w5, len_w6, len_w7, len_w8, len_w10, len_w11, len_w12, len_w14, len_w15, len_w16, Int.cast_ofNat_Int, a13_0, R32, List.getElem?_cons_zero, List.getElem?_cons_succ, List.set_cons_zero, List.set_cons_succ, List.cons_append, List.nil_append, List.replicate_succ, List.replicate_zero, List.take_succ_cons, List.take_zero, List.drop_succ_cons, List.drop_zero, List.reverse_cons, List.reverse_nil, List.length_cons, List.length_nil, Option.toList, true_and, and_true, eq_self, ↓reduceIte, not_true_eq_false, not_false_eq_true, true_or, or_true, hw, hv, hd, ud, ud0, ud1, ud2, uc, uc0, Nat.reduceLT, cpD_d, cpD_0, cpL_d, cpL_0] | with_reducible refine And.intro ?_ ?_ | with_reducible intro _)
  all_goals (try (first | omega | (exfalso; assumption) | skip))
theorem a49_0 {tb : Tab} {d : Nat} {K : Out → AM → Prop} {ls st : List AV} {m : AM} : At tb d 49 K 0 ls st m = wpB tb (pg.2.1 49) (Runs tb pg d) K (At tb d 49 K) [.aload 0, .aload 1, .getfield 400, .putfield 400, .aload 1, .getfield 401, .bipush 0, .aload 0, .getfield 401, .bipush 0, .bipush 240, .invokestatic 2, .return_] ls st m := At.eq k49_0
theorem w_49 (hw : isW w) (hv : isW v) (hd : disW w v) (hK : K (.inl none) (X (cpL S w v) m)) : Runs tb pg (d + 1) 49 [vr (w + 13), vr (v + 13)] (X S m) K := by
  refine Runs.of (al := [vr (w + 13), vr (v + 13)]) (n := 0) ⟨w + 13, _, _, rfl, xo_w13 hw⟩ rfl rfl trivial ?_
  repeat' (first | omega | (exact hK) | simp only [w_aload, x_g400_w13, x_p400_w13, x_g401_w13, w_iconst, x_copy, w_return, isA_w1, isA_w2, isA_w3, isA_w4, isA_w5, isA_w6, isA_w7, isA_w8, isA_w10, isA_w11, isA_w12, isA_w14, isA_w15, isA_w16, len_w1, len_w2, len_w3, len_w4, len_w5, len_w6, len_w7, len_w8, len_w10, len_w11, len_w12, len_w14, len_w15, len_w16, Int.cast_ofNat_Int, a49_0, R32, List.getElem?_cons_zero, List.getElem?_cons_succ, List.set_cons_zero, List.set_cons_succ, List.cons_append, List.nil_append, List.replicate_succ, List.replicate_zero, List.take_succ_cons, List.take_zero, List.drop_succ_cons, List.drop_zero, List.reverse_cons, List.reverse_nil, List.length_cons, List.length_nil, Option.toList, true_and, and_true, eq_self, ↓reduceIte, not_true_eq_false, not_false_eq_true, true_or, or_true, hw, hv, hd, ud, ud0, ud1, ud2, uc, uc0, Nat.reduceLT, cpD_d, cpD_0, cpL_d, cpL_0] | with_reducible refine And.intro ?_ ?_ | with_reducible intro _)
  all_goals (try (first | omega | (exfalso; assumption) | skip))
theorem k106_0 : pg.1 106 0 = [.aload 0, .aload 1, .getfield 800, .putfield 800, .aload 1, .getfield 801, .bipush 0, .aload 0, .getfield 801, .bipush 0, .bipush 6, .invokestatic 2, .aload 1, .getfield 802, .bipush 0, .aload 0, .getfield 802, .bipush 0, .bipush 6, .invokestatic 2, .aload 1, .getfield 803, .bipush 0, .aload 0, .getfield 803, .bipush 0, .bipush 6, .invokestatic 2, .aload 0, .aload 1, .getfield 804, .putfield 804, .aload 1, .getfield 805, .bipush 0, .aload 0, .getfield 805, .bipush 0, .bipush 6, .invokestatic 2, .aload 1, .getfield 806, .bipush 0, .aload 0, .getfield 806, .bipush 0, .bipush 36, .invokestatic 2, .aload 1, .getfield 807, .bipush 0, .aload 0, .getfield 807, .bipush 0, .bipush 6, .invokestatic 2, .aload 1, .getfield 808, .bipush 0, .aload 0, .getfield 808, .bipush 0, .bipush 36, .invokestatic 2, .aload 1, .getfield 809, .bipush 0, .aload 0, .getfield 809, .bipush 0, .bipush 36, .invokestatic 2, .aload 0, .getfield 810, .aload 1, .getfield 810, .invokeinterface 13 2, .aload 0, .getfield 811, .aload 1, .getfield 811, .invokeinterface 49 2, .aload 1, .getfield 812, .bipush 0, .aload 0, .getfield 812, .bipush 0, .bipush 5, .invokestatic 2, .aload 0, .aload 1, .getfield 813, .putfield 813, .aload 0, .aload 1, .getfield 814, .putfield 814, .aload 0, .aload 1, .getfield 815, .putstatic 815, .return_] := rfl
theorem a106_0 {tb : Tab} {d : Nat} {K : Out → AM → Prop} {ls st : List AV} {m : AM} : At tb d 106 K 0 ls st m = wpB tb (pg.2.1 106) (Runs tb pg d) K (At tb d 106 K) [.aload 0, .aload 1, .getfield 800, .putfield 800, .aload 1, .getfield 801, .bipush 0, .aload 0, .getfield 801, .bipush 0, .bipush 6, .invokestatic 2, .aload 1, .getfield 802, .bipush 0, .aload 0, .getfield 802, .bipush 0, .bipush 6, .invokestatic 2, .aload 1, .getfield 803, .bipush 0, .aload 0, .getfield 803, .bipush 0, .bipush 6, .invokestatic 2, .aload 0, .aload 1, .getfield 804, .putfield 804, .aload 1, .getfield 805, .bipush 0, .aload 0, .getfield 805, .bipush 0, .bipush 6, .invokestatic 2, .aload 1, .getfield 806, .bipush 0, .aload 0, .getfield 806, .bipush 0, .bipush 36, .invokestatic 2, .aload 1, .getfield 807, .bipush 0, .aload 0, .getfield 807, .bipush 0, .bipush 6, .invokestatic 2, .aload 1, .getfield 808, .bipush 0, .aload 0, .getfield 808, .bipush 0, .bipush 36, .invokestatic 2, .aload 1, .getfield 809, .bipush 0, .aload 0, .getfield 809, .bipush 0, .bipush 36, .invokestatic 2, .aload 0, .getfield 810, .aload 1, .getfield 810, .invokeinterface 13 2, .aload 0, .getfield 811, .aload 1, .getfield 811, .invokeinterface 49 2, .aload 1, .getfield 812, .bipush 0, .aload 0, .getfield 812, .bipush 0, .bipush 5, .invokestatic 2, .aload 0, .aload 1, .getfield 813, .putfield 813, .aload 0, .aload 1, .getfield 814, .putfield 814, .aload 0, .aload 1, .getfield 815, .putstatic 815, .return_] ls st m := At.eq k106_0
theorem w_106n (hw : isW w) (hv : isW v) (hd : disW w v) (hl : S v 15 = -1) (hK : ∀ T, CPw S T w v → K (.inl none) (X T m)) : Runs tb pg (d + 2) 106 [vr w, vr v] (X S m) K := by
  refine Runs.of (al := [vr w, vr v]) (n := 0) ⟨w, _, _, rfl, xo_w0 hw⟩ rfl rfl trivial ?_
  have hlv : lv (S v 15) = vn := by rw [hl]; rfl
  repeat' (first | omega | (refine hK _ ?_) | simp only [w_aload, x_g800_w0, x_p800_w0, x_g801_w0, w_iconst, x_copy, x_g802_w0, x_g803_w0, x_g804_w0, x_p804_w0, x_g805_w0, x_g806_w0, x_g807_w0, x_g808_w0, x_g809_w0, x_g810_w0, w_call, x_g811_w0, x_g812_w0, x_g813_w0, x_p813_w0, x_g814_w0, x_p814_w0, x_g815_w0, x_p815n_w0, x_p815r_w0, w_return, isA_w1, isA_w2, isA_w3, isA_w4, isA_w5, isA_w6, isA_w7, isA_w8, isA_w10, isA_w11, isA_w12, isA_w14, isA_w15, isA_w16, len_w1, len_w2, len_w3, len_w4, len_w5, len_w6, len_w7, len_w8, len_w10, len_w11, len_w12, len_w14, len_w15, len_w16, Int.cast_ofNat_Int, a106_0, R32, List.getElem?_cons_zero, List.getElem?_cons_succ, List.set_cons_zero, List.set_cons_succ, List.cons_append, List.nil_append, List.replicate_succ, List.replicate_zero, List.take_succ_cons, List.take_zero, List.drop_succ_cons, List.drop_zero, List.reverse_cons, List.reverse_nil, List.length_cons, List.length_nil, Option.toList, true_and, and_true, eq_self, ↓reduceIte, not_true_eq_false, not_false_eq_true, true_or, or_true, hw, hv, hd, ud, ud0, ud1, ud2, uc, uc0, Nat.reduceLT, cpD_d, cpD_0, cpL_d, cpL_0, hlv] | with_reducible refine w_13 hw hv hd ?_ | with_reducible refine w_49 hw hv hd ?_ | with_reducible refine And.intro ?_ ?_ | with_reducible intro _)
  all_goals (try (first | omega | (exfalso; assumption) | skip))
  · refine ⟨?_, ?_⟩
    · repeat' (first | exact EW_r | refine EW_u0 ?_ | refine EW_u ?_ (by decide) | refine EW_c ?_ (by decide) | refine EW_d ?_ | refine EW_l ?_)
    · (refine ⟨⟨?_, ?_, ?_, ?_, ?_⟩, fun j j0 j1 => ⟨?_, ?_, ?_, ?_, ?_⟩, fun j j0 j1 => ⟨?_, ?_, ?_⟩, ⟨?_, fun j j0 j1 => ⟨?_, ?_, ?_⟩⟩, ⟨?_, fun j j0 j1 => ?_⟩, fun j j0 j1 => ?_⟩ <;> (try simp +decide only [kc, ku, ku0, k0u, k0c, kuat, kD, kL, kD0, kL0, kD9, kL3, ud, ud0, ud1, ud2, uc, uc0, cpD_d, cpD_0, cpL_d, cpL_0, hd, ne_eq, Nat.reduceEqDiff, not_false_eq_true, Nat.reduceLT, Int.reduceEq, if_true, if_false, true_or, or_true, or_self, false_or, or_false]) <;> (try rw [kat j0 j1]) <;> (try simp +decide only [kc, ku, ku0, k0u, k0c, kuat, kD, kL, kD0, kL0, kD9, kL3, ud, ud0, ud1, ud2, uc, uc0, cpD_d, cpD_0, cpL_d, cpL_0, hd, ne_eq, Nat.reduceEqDiff, not_false_eq_true, Nat.reduceLT, Int.reduceEq, if_true, if_false, true_or, or_true, or_self, false_or, or_false]) <;> (try first | rw [(kDa hd j0 j1).1] | rw [(kDa hd j0 j1).2.1] | rw [(kDa hd j0 j1).2.2] | rw [kLa hd j0 j1]) <;> (try simp +decide only [kc, ku, ku0, k0u, k0c, kuat, kD, kL, kD0, kL0, kD9, kL3, ud, ud0, ud1, ud2, uc, uc0, cpD_d, cpD_0, cpL_d, cpL_0, hd, ne_eq, Nat.reduceEqDiff, not_false_eq_true, Nat.reduceLT, Int.reduceEq, if_true, if_false, true_or, or_true, or_self, false_or, or_false]) <;> (try first | rfl | exact hl.symm))
theorem w_106r (hw : isW w) (hv : isW v) (hd : disW w v) {n : Nat} (hl : S v 15 = (n : Int)) (hK : ∀ T, CPw S T w v → K (.inl none) (X T m)) : Runs tb pg (d + 2) 106 [vr w, vr v] (X S m) K := by
  refine Runs.of (al := [vr w, vr v]) (n := 0) ⟨w, _, _, rfl, xo_w0 hw⟩ rfl rfl trivial ?_
  have hlv : lv (S v 15) = vr n := by rw [hl]; unfold lv; rw [if_neg (by omega), Int.toNat_natCast]
  repeat' (first | omega | (refine hK _ ?_) | simp only [w_aload, x_g800_w0, x_p800_w0, x_g801_w0, w_iconst, x_copy, x_g802_w0, x_g803_w0, x_g804_w0, x_p804_w0, x_g805_w0, x_g806_w0, x_g807_w0, x_g808_w0, x_g809_w0, x_g810_w0, w_call, x_g811_w0, x_g812_w0, x_g813_w0, x_p813_w0, x_g814_w0, x_p814_w0, x_g815_w0, x_p815n_w0, x_p815r_w0, w_return, isA_w1, isA_w2, isA_w3, isA_w4, isA_w5, isA_w6, isA_w7, isA_w8, isA_w10, isA_w11, isA_w12, isA_w14, isA_w15, isA_w16, len_w1, len_w2, len_w3, len_w4, len_w5, len_w6, len_w7, len_w8, len_w10, len_w11, len_w12, len_w14, len_w15, len_w16, Int.cast_ofNat_Int, a106_0, R32, List.getElem?_cons_zero, List.getElem?_cons_succ, List.set_cons_zero, List.set_cons_succ, List.cons_append, List.nil_append, List.replicate_succ, List.replicate_zero, List.take_succ_cons, List.take_zero, List.drop_succ_cons, List.drop_zero, List.reverse_cons, List.reverse_nil, List.length_cons, List.length_nil, Option.toList, true_and, and_true, eq_self, ↓reduceIte, not_true_eq_false, not_false_eq_true, true_or, or_true, hw, hv, hd, ud, ud0, ud1, ud2, uc, uc0, Nat.reduceLT, cpD_d, cpD_0, cpL_d, cpL_0, hlv] | with_reducible refine w_13 hw hv hd ?_ | with_reducible refine w_49 hw hv hd ?_ | with_reducible refine And.intro ?_ ?_ | with_reducible intro _)
  all_goals (try (first | omega | (exfalso; assumption) | skip))
  · refine ⟨?_, ?_⟩
    · repeat' (first | exact EW_r | refine EW_u0 ?_ | refine EW_u ?_ (by decide) | refine EW_c ?_ (by decide) | refine EW_d ?_ | refine EW_l ?_)
    · (refine ⟨⟨?_, ?_, ?_, ?_, ?_⟩, fun j j0 j1 => ⟨?_, ?_, ?_, ?_, ?_⟩, fun j j0 j1 => ⟨?_, ?_, ?_⟩, ⟨?_, fun j j0 j1 => ⟨?_, ?_, ?_⟩⟩, ⟨?_, fun j j0 j1 => ?_⟩, fun j j0 j1 => ?_⟩ <;> (try simp +decide only [kc, ku, ku0, k0u, k0c, kuat, kD, kL, kD0, kL0, kD9, kL3, ud, ud0, ud1, ud2, uc, uc0, cpD_d, cpD_0, cpL_d, cpL_0, hd, ne_eq, Nat.reduceEqDiff, not_false_eq_true, Nat.reduceLT, Int.reduceEq, if_true, if_false, true_or, or_true, or_self, false_or, or_false]) <;> (try rw [kat j0 j1]) <;> (try simp +decide only [kc, ku, ku0, k0u, k0c, kuat, kD, kL, kD0, kL0, kD9, kL3, ud, ud0, ud1, ud2, uc, uc0, cpD_d, cpD_0, cpL_d, cpL_0, hd, ne_eq, Nat.reduceEqDiff, not_false_eq_true, Nat.reduceLT, Int.reduceEq, if_true, if_false, true_or, or_true, or_self, false_or, or_false]) <;> (try first | rw [(kDa hd j0 j1).1] | rw [(kDa hd j0 j1).2.1] | rw [(kDa hd j0 j1).2.2] | rw [kLa hd j0 j1]) <;> (try simp +decide only [kc, ku, ku0, k0u, k0c, kuat, kD, kL, kD0, kL0, kD9, kL3, ud, ud0, ud1, ud2, uc, uc0, cpD_d, cpD_0, cpL_d, cpL_0, hd, ne_eq, Nat.reduceEqDiff, not_false_eq_true, Nat.reduceLT, Int.reduceEq, if_true, if_false, true_or, or_true, or_self, false_or, or_false]) <;> (try first | rfl | exact hl.symm))
end World6
