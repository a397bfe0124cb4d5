/-! ===== THE CLASS: a debt paid ===== -/
/-- i rows behind the k-th moved up -/
def rvS (S : Nat → Int → Int) (w : Nat) (k i : Int) : Nat → Int → Int := fun b => if b = w + 10 ∨ b = w + 11 ∨ b = w + 12 then (fun j => if k ≤ j ∧ j < k + i then S b (j + 1) else S b j) else S b
theorem rvS_o {S : Nat → Int → Int} {w b : Nat} {k i : Int} (h : ¬ (b = w + 10 ∨ b = w + 11 ∨ b = w + 12)) : rvS S w k i b = S b := if_neg h
theorem rvS_y {S : Nat → Int → Int} {w b : Nat} {k i j : Int} (h : b = w + 10 ∨ b = w + 11 ∨ b = w + 12) : rvS S w k i b j = if k ≤ j ∧ j < k + i then S b (j + 1) else S b j := by unfold rvS; rw [if_pos h]
theorem rvS_0 {S : Nat → Int → Int} {w : Nat} {k : Int} : S = rvS S w k 0 := by
  funext b j
  by_cases h : b = w + 10 ∨ b = w + 11 ∨ b = w + 12
  · rw [rvS_y h, if_neg (by omega)]
  · rw [rvS_o h]
theorem rvS_s {S T : Nat → Int → Int} {w : Nat} {k i a b c : Int} (hi : 0 ≤ i) (hT : T = rvS S w k i) (ha : a = S (w + 10) (k + i + 1)) (hb : b = S (w + 11) (k + i + 1)) (hc : c = S (w + 12) (k + i + 1)) : upS (upS (upS T (w + 10) (k + i) a) (w + 11) (k + i) b) (w + 12) (k + i) c = rvS S w k (i + 1) := by
  subst hT
  funext x j
  rw [upS_at, upS_at, upS_at]
  by_cases h : x = w + 10 ∨ x = w + 11 ∨ x = w + 12
  · rw [rvS_y h, rvS_y h]
    by_cases z : j = k + i
    · subst z
      rw [show (if k ≤ k + i ∧ k + i < k + (i + 1) then S x (k + i + 1) else S x (k + i)) = S x (k + i + 1) from if_pos (by omega)]
      rcases h with h | h | h <;> subst h
      · rw [if_neg (by omega), if_neg (by omega), if_pos ⟨rfl, rfl⟩]; exact ha
      · rw [if_neg (by omega), if_pos ⟨rfl, rfl⟩]; exact hb
      · rw [if_pos ⟨rfl, rfl⟩]; exact hc
    · rw [if_neg (fun y => z y.2), if_neg (fun y => z y.2), if_neg (fun y => z y.2)]
      by_cases y : k ≤ j ∧ j < k + i
      · rw [if_pos y, if_pos (by omega)]
      · rw [if_neg y, if_neg (by omega)]
  · rw [if_neg (fun y => h (Or.inr (Or.inr y.1))), if_neg (fun y => h (Or.inr (Or.inl y.1))), if_neg (fun y => h (Or.inl y.1)), rvS_o h, rvS_o h]
def rmS5 (S : Nat → Int → Int) (w : Nat) (k n : Int) : Nat → Int → Int := upS (rvS S w k (n - 1 - k)) (w + 9) 0 (n - 1)
theorem rmS5_o {S : Nat → Int → Int} {w x : Nat} {k n : Int} (h : x < 9 ∨ 12 < x) : rmS5 S w k n (w + x) = S (w + x) := by
  unfold rmS5
  rw [show upS (rvS S w k (n - 1 - k)) (w + 9) 0 (n - 1) (w + x) = rvS S w k (n - 1 - k) (w + x) from if_neg (by omega), rvS_o (by omega)]
theorem rmS5_0 {S : Nat → Int → Int} {w : Nat} {k n : Int} : rmS5 S w k n w = S w := by
  unfold rmS5
  rw [show upS (rvS S w k (n - 1 - k)) (w + 9) 0 (n - 1) w = rvS S w k (n - 1 - k) w from if_neg (by omega), rvS_o (by omega)]
theorem rmS5_9 {S : Nat → Int → Int} {w : Nat} {k n : Int} : rmS5 S w k n (w + 9) 0 = n - 1 := by
  unfold rmS5
  rw [upS_at, if_pos ⟨rfl, rfl⟩]
theorem rmS5_d {S : Nat → Int → Int} {w x : Nat} {k n j : Int} (hx : x = 10 ∨ x = 11 ∨ x = 12) (hj : j < n - 1) : rmS5 S w k n (w + x) j = if k ≤ j then S (w + x) (j + 1) else S (w + x) j := by
  unfold rmS5
  rw [show upS (rvS S w k (n - 1 - k)) (w + 9) 0 (n - 1) (w + x) = rvS S w k (n - 1 - k) (w + x) from if_neg (by omega), rvS_y (by omega)]
  by_cases z : k ≤ j
  · rw [if_pos z, if_pos (by omega)]
  · rw [if_neg z, if_neg (by omega)]
theorem rmS5_EW {S : Nat → Int → Int} {w : Nat} {k n : Int} : EW S (rmS5 S w k n) w := EW_u (fun a ha => rvS_o (by omega)) (by omega)
theorem RW_py {S : Nat → Int → Int} {w : Nat} {r : Int → Int} {k : Int} (hA : AB r) (hR : RW S w r) (k0 : 0 ≤ k) (k1 : k < r 5) : RW (rmS5 S w k (r 5)) w (payP r k (3 * (r 5 - 1))) := by
  obtain ⟨⟨c0, c1, c2, c3⟩, cf, cp, cd, cl, cs⟩ := hR
  have b3 := hA.2.1.1
  have b4 := hA.2.1.2.1
  have b5 := hA.2.1.2.2.1
  have b11 := hA.2.1.2.2.2.2.2.2.1
  have e : ∀ j, j < 151 ∨ 175 ≤ j → j ≠ 5 → payP r k (3 * (r 5 - 1)) j = r j := fun j h1 h2 => by unfold payP; rw [if_neg h2, if_neg (by omega)]
  have e5 : payP r k (3 * (r 5 - 1)) 5 = r 5 - 1 := rfl
  refine ⟨?_, fun g g0 g1 => ?_, fun q q0 q1 => ?_, ⟨?_, fun j j0 j1 => ?_⟩, ⟨?_, fun q c q0 q1 c0 c1 => ?_⟩, fun j j0 j1 => ?_⟩
  · rw [rmS5_0, e 3 (by omega) (by omega), e 4 (by omega) (by omega), e 12 (by omega) (by omega), e 0 (by omega) (by omega)]
    exact ⟨c0, c1, c2, c3⟩
  · rw [e 3 (by omega) (by omega)] at g1
    have w9 : ∀ v9, 0 ≤ v9 → v9 < 3 → fr (payP r k (3 * (r 5 - 1))) g v9 = fr r g v9 := fun v9 v0 v1 => e _ (by omega) (by omega)
    rw [rmS5_o (by omega), rmS5_o (by omega), rmS5_o (by omega), w9 0 (by decide) (by decide), w9 1 (by decide) (by decide), w9 2 (by decide) (by decide)]
    exact cf g g0 g1
  · rw [e 4 (by omega) (by omega)] at q1
    have zq := AB_pp hA q0 q1
    have w9 : ∀ v9, 0 ≤ v9 → v9 < 20 → pr (payP r k (3 * (r 5 - 1))) q v9 = pr r q v9 := fun v9 v0 v1 => e _ (by omega) (by omega)
    obtain ⟨d1, d2, d3, d4⟩ := cp q q0 q1
    rw [rmS5_o (by omega), rmS5_o (by omega), rmS5_o (by omega), rmS5_o (by omega), rmS5_o (by omega), w9 0 (by decide) (by decide), w9 1 (by decide) (by decide)]
    refine ⟨d1, d2, fun k k0 k1 => ?_, fun hq k k0 k1 => ?_⟩
    · rw [w9 _ (by omega) (by omega)]; exact d3 k k0 k1
    · rw [w9 _ (by omega) (by omega), w9 _ (by omega) (by omega)]; exact d4 hq k k0 k1
  · rw [rmS5_9, e5]
  · rw [e5] at j1
    have h : ∀ c, 0 ≤ c → c < 3 → dr (payP r k (3 * (r 5 - 1))) j c = if k ≤ j then dr r (j + 1) c else dr r j c := fun c c0 c1 => by
      show payP r k (3 * (r 5 - 1)) (151 + 3 * j + c) = _
      unfold payP
      rw [if_neg (by omega)]
      by_cases z : k ≤ j
      · rw [if_pos z, if_pos (by omega)]
        exact congrArg r (by omega)
      · rw [if_neg z, if_neg (by omega)]
        rfl
    rw [rmS5_d (Or.inl rfl) j1, rmS5_d (Or.inr (Or.inl rfl)) j1, rmS5_d (Or.inr (Or.inr rfl)) j1, h 0 (by omega) (by omega), h 1 (by omega) (by omega), h 2 (by omega) (by omega)]
    by_cases z : k ≤ j
    · simp only [if_pos z]
      exact cd.2 (j + 1) (by omega) (by omega)
    · simp only [if_neg z]
      exact cd.2 j j0 (by omega)
  · rw [rmS5_o (by omega), e 11 (by omega) (by omega)]; exact cl.1
  · rw [e 11 (by omega) (by omega)] at q1 ⊢
    have w9 : gr (payP r k (3 * (r 5 - 1))) q c = gr r q c := e _ (by omega) (by omega)
    rw [rmS5_o (by omega), w9]
    exact cl.2 q c q0 q1 c0 c1
  · rw [rmS5_o (by omega), e (6 + j) (by omega) (by omega)]
    exact cs j j0 j1
section Debts2
variable {tb : Tab} {d : Nat} {m : AM} {K : Out → AM → Prop} {S : Nat → Int → Int} {w : Nat} {r : Int → Int}
theorem a15_0 {tb : Tab} {d : Nat} {K : Out → AM → Prop} {ls st : List AV} {m : AM} : At tb d 15 K 0 ls st m = wpB tb (pg.2.1 15) (Runs tb pg d) K (At tb d 15 K) [.iload 1, .istore 2, .jsr 2] ls st m := At.eq k15_0
theorem a15_2 {tb : Tab} {d : Nat} {K : Out → AM → Prop} {ls st : List AV} {m : AM} : At tb d 15 K 2 ls st m = wpB tb (pg.2.1 15) (Runs tb pg d) K (At tb d 15 K) [.iload 2, .bipush 1, .iadd, .aload 0, .getfield 0, .if_icmp .ge 60, .aload 0, .getfield 1, .iload 2, .aload 0, .getfield 1, .iload 2, .bipush 1, .iadd, .iaload, .iastore, .aload 0, .getfield 2, .iload 2, .aload 0, .getfield 2, .iload 2, .bipush 1, .iadd, .iaload, .iastore, .aload 0, .getfield 3, .iload 2, .aload 0, .getfield 3, .iload 2, .bipush 1, .iadd, .iaload, .iastore, .iinc 2 1, .goto 2] ls st m := At.eq k15_2
theorem a15_60 {tb : Tab} {d : Nat} {K : Out → AM → Prop} {ls st : List AV} {m : AM} : At tb d 15 K 60 ls st m = wpB tb (pg.2.1 15) (Runs tb pg d) K (At tb d 15 K) [.aload 0, .dup, .getfield 0, .bipush 1, .isub, .putfield 0, .return_] ls st m := At.eq k15_60
theorem w_15 {k : Int} (hw : isW w) (hk : 0 ≤ k ∧ k < S (w + 9) 0) (h8 : S (w + 9) 0 ≤ 8) (hK : K (.inl none) (X (rmS5 S w k (S (w + 9) 0)) m)) : Runs tb pg (d + 1) 15 [vr (w + 9), vi k] (X S m) K := by
  have hL2 : (fun i : Int => ∀ (j : Int) (T : Nat → Int → Int), j = k + i → (T = rvS S w k i) → At tb d 15 K 2 [vr (w + 9), vi k, vi j] [] (X T m)) 0 := by
    refine loopZ (fun i : Int => ∀ (j : Int) (T : Nat → Int → Int), j = k + i → (T = rvS S w k i) → At tb d 15 K 2 [vr (w + 9), vi k, vi j] [] (X T m)) (S (w + 9) 0 - 1 - k) (by omega) ?_ ?_
    · intro i h0 h1 h9 j T hj hT
      subst hj
      have t9 : T (w + 9) 0 = S (w + 9) 0 := by rw [hT, rvS_o (by omega)]
      have t10 : T (w + 10) (k + i + 1) = S (w + 10) (k + i + 1) := by rw [hT, rvS_y (by omega), if_neg (by omega)]
      have t11 : T (w + 11) (k + i + 1) = S (w + 11) (k + i + 1) := by rw [hT, rvS_y (by omega), if_neg (by omega)]
      have t12 : T (w + 12) (k + i + 1) = S (w + 12) (k + i + 1) := by rw [hT, rvS_y (by omega), if_neg (by omega)]
      rw [a15_2]
      repeat' (first | omega | with_reducible refine h9 _ _ ?_ ?_ | simp only [w_iload, w_istore, w_fall, Int.reduceToNat, w_iconst, w_iadd, w_aload, x_g0_w9, w_ifc, cI, x_g1_w9, x_iald, w_ialoads, w_ialoadw, x_iast, x_g2_w9, x_g3_w9, w_iinc, lgB, Nat.reduceSub, w_goto, w_dupi, w_dupr, w_isub, x_p0_w9, w_return, isA_w1, isA_w2, isA_w3, isA_w4, isA_w5, isA_w6, isA_w7, isA_w8, isA_w10, isA_w11, isA_w12, isA_w14, isA_w15, isA_w16, len_w1, len_w2, len_w3, len_w4, len_w5, len_w6, len_w7, len_w8, len_w10, len_w11, len_w12, len_w14, len_w15, len_w16, Int.cast_ofNat_Int, a15_0, a15_60, R32, List.getElem?_cons_zero, List.getElem?_cons_succ, List.set_cons_zero, List.set_cons_succ, List.cons_append, List.nil_append, List.replicate_succ, List.replicate_zero, List.take_succ_cons, List.take_zero, List.drop_succ_cons, List.drop_zero, List.reverse_cons, List.reverse_nil, List.length_cons, List.length_nil, Option.toList, true_and, and_true, eq_self, ↓reduceIte, not_true_eq_false, not_false_eq_true, true_or, or_true, hw, up_ne, ux_s, ne_eq, Nat.reduceEqDiff, not_false_eq_true] | with_reducible refine And.intro ?_ ?_ | with_reducible intro _)
      all_goals (try (first | omega | contradiction | (exact rvS_s h0 hT t10 t11 t12)))
    · intro j T hj hT
      subst hj
      have t9 : T (w + 9) 0 = S (w + 9) 0 := by rw [hT, rvS_o (by omega)]
      rw [a15_2]
      repeat' (first | omega | (rw [t9]; subst hT; exact hK) | simp only [w_iload, w_istore, w_fall, Int.reduceToNat, w_iconst, w_iadd, w_aload, x_g0_w9, w_ifc, cI, x_g1_w9, x_iald, w_ialoads, w_ialoadw, x_iast, x_g2_w9, x_g3_w9, w_iinc, lgB, Nat.reduceSub, w_goto, w_dupi, w_dupr, w_isub, x_p0_w9, w_return, isA_w1, isA_w2, isA_w3, isA_w4, isA_w5, isA_w6, isA_w7, isA_w8, isA_w10, isA_w11, isA_w12, isA_w14, isA_w15, isA_w16, len_w1, len_w2, len_w3, len_w4, len_w5, len_w6, len_w7, len_w8, len_w10, len_w11, len_w12, len_w14, len_w15, len_w16, Int.cast_ofNat_Int, a15_0, a15_60, R32, List.getElem?_cons_zero, List.getElem?_cons_succ, List.set_cons_zero, List.set_cons_succ, List.cons_append, List.nil_append, List.replicate_succ, List.replicate_zero, List.take_succ_cons, List.take_zero, List.drop_succ_cons, List.drop_zero, List.reverse_cons, List.reverse_nil, List.length_cons, List.length_nil, Option.toList, true_and, and_true, eq_self, ↓reduceIte, not_true_eq_false, not_false_eq_true, true_or, or_true, hw, up_ne, ux_s, ne_eq, Nat.reduceEqDiff, not_false_eq_true] | with_reducible refine And.intro ?_ ?_ | with_reducible intro _)
      all_goals (try (first | omega | contradiction | omega))
  refine Runs.of (al := [vr (w + 9), vi k]) (n := 1) ⟨w + 9, _, _, rfl, xo_w9 hw⟩ rfl rfl trivial ?_
  repeat' (first | omega | with_reducible refine hL2 _ _ ?_ ?_ | simp only [w_iload, w_istore, w_fall, Int.reduceToNat, w_iconst, w_iadd, w_aload, x_g0_w9, w_ifc, cI, x_g1_w9, x_iald, w_ialoads, w_ialoadw, x_iast, x_g2_w9, x_g3_w9, w_iinc, lgB, Nat.reduceSub, w_goto, w_dupi, w_dupr, w_isub, x_p0_w9, w_return, isA_w1, isA_w2, isA_w3, isA_w4, isA_w5, isA_w6, isA_w7, isA_w8, isA_w10, isA_w11, isA_w12, isA_w14, isA_w15, isA_w16, len_w1, len_w2, len_w3, len_w4, len_w5, len_w6, len_w7, len_w8, len_w10, len_w11, len_w12, len_w14, len_w15, len_w16, Int.cast_ofNat_Int, a15_0, a15_60, R32, List.getElem?_cons_zero, List.getElem?_cons_succ, List.set_cons_zero, List.set_cons_succ, List.cons_append, List.nil_append, List.replicate_succ, List.replicate_zero, List.take_succ_cons, List.take_zero, List.drop_succ_cons, List.drop_zero, List.reverse_cons, List.reverse_nil, List.length_cons, List.length_nil, Option.toList, true_and, and_true, eq_self, ↓reduceIte, not_true_eq_false, not_false_eq_true, true_or, or_true, hw, up_ne, ux_s, ne_eq, Nat.reduceEqDiff, not_false_eq_true] | with_reducible refine And.intro ?_ ?_ | with_reducible intro _)
  all_goals (try (first | omega | (exfalso; assumption) | exact rvS_0))
end Debts2
