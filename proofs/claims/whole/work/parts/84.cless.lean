/-! ===== THE CLASS: marks lessened ===== -/
def lsS (S : Nat → Int → Int) (w : Nat) (p n i : Int) : Nat → Int → Int := fun b => if b = w + 8 then (fun j => if 6 * p ≤ j ∧ j < 6 * p + i then snkV n 0 (S (w + 8) j) else S (w + 8) j) else S b
theorem lsS_8 {S : Nat → Int → Int} {w : Nat} {p n i j : Int} : lsS S w p n i (w + 8) j = if 6 * p ≤ j ∧ j < 6 * p + i then snkV n 0 (S (w + 8) j) else S (w + 8) j := by unfold lsS; rw [if_pos rfl]
theorem lsS_o {S : Nat → Int → Int} {w b : Nat} {p n i : Int} (h : b ≠ w + 8) : lsS S w p n i b = S b := if_neg h
theorem lsS_0 {S : Nat → Int → Int} {w : Nat} {p n : Int} : S = lsS S w p n 0 := by
  funext b j
  by_cases h : b = w + 8
  · subst h; rw [lsS_8, if_neg (by omega)]
  · rw [lsS_o h]
theorem lsS_s {S T : Nat → Int → Int} {w : Nat} {p n i v : Int} (hi : 0 ≤ i) (hT : T = lsS S w p n i) (hv : v = snkV n 0 (S (w + 8) (6 * p + i))) : upS T (w + 8) (6 * p + i) v = lsS S w p n (i + 1) := by
  subst hT
  funext b j
  rw [upS_at]
  by_cases h : b = w + 8
  · subst h
    rw [lsS_8, lsS_8]
    by_cases z : j = 6 * p + i
    · rw [if_pos ⟨rfl, z⟩, if_pos (by omega), hv, z]
    · rw [if_neg (fun y => z y.2)]
      by_cases y : 6 * p ≤ j ∧ j < 6 * p + i
      · rw [if_pos y, if_pos (by omega)]
      · rw [if_neg y, if_neg (by omega)]
  · rw [if_neg (fun y => h y.1), lsS_o h, lsS_o h]
theorem lsS_EW {S : Nat → Int → Int} {w : Nat} {p n i : Int} : EW S (lsS S w p n i) w := fun a ha => lsS_o (by omega)
theorem RW_ls {S : Nat → Int → Int} {w : Nat} {r : Int → Int} {p n : Int} (hA : AB r) (h : RW S w r) (h0 : 0 ≤ p) (h1 : p < r 4) : RW (lsS S w p n (pr r p 0)) w (sinkP r p n 0 (pr r p 0)) := by
  obtain ⟨⟨c0, c1, c2, c3⟩, cf, cp, cd, cl, cs⟩ := h
  have z := AB_pp hA h0 h1
  have e : ∀ j, j < 31 ∨ 151 ≤ j → sinkP r p n 0 (pr r p 0) j = r j := fun j hj => sinkP_o h0 z.2.2 z.1.2 hj
  have b3 := hA.2.1.1
  have b4 := hA.2.1.2.1
  have b11 := hA.2.1.2.2.2.2.2.2.1
  have o : ∀ k : Nat, k ≠ 8 → lsS S w p n (pr r p 0) (w + k) = S (w + k) := fun k hk => lsS_o (by omega)
  have o0 : lsS S w p n (pr r p 0) w = S w := lsS_o (by omega)
  refine ⟨?_, fun g g0 g1 => ?_, fun q q0 q1 => ?_, ?_, ?_, fun j j0 j1 => ?_⟩
  · rw [o0, e 3 (by omega), e 4 (by omega), e 12 (by omega), e 0 (by omega)]
    exact ⟨c0, c1, c2, c3⟩
  · rw [e 3 (by omega)] at g1
    have w9 : ∀ v9, 0 ≤ v9 → v9 < 3 → fr (sinkP r p n 0 (pr r p 0)) g v9 = fr r g v9 := fun v9 v0 v1 => e _ (by omega)
    rw [o 1 (by omega), o 2 (by omega), o 3 (by omega), w9 0 (by decide) (by decide), w9 1 (by decide) (by decide), w9 2 (by decide) (by decide)]
    exact cf g g0 g1
  · rw [e 4 (by omega)] at q1
    obtain ⟨d1, d2, d3, d4⟩ := cp q q0 q1
    have zq := AB_pp hA q0 q1
    have s : ∀ k, 0 ≤ k → k < 14 → pr (sinkP r p n 0 (pr r p 0)) q k = pr r q k := fun k k0 k1 => by rw [sinkP_p z.1.2 k0 (by omega), if_neg (by omega)]
    rw [s 0 (by omega) (by omega), s 1 (by omega) (by omega), o 4 (by omega), o 5 (by omega), o 6 (by omega), o 7 (by omega)]
    refine ⟨d1, d2, fun k k0 k1 => ?_, fun hq k k0 k1 => ?_⟩
    · rw [s _ (by omega) (by omega)]; exact d3 k k0 k1
    · rw [s _ (by omega) (by omega), lsS_8, sinkP_p z.1.2 (by omega) (by omega)]
      refine ⟨(d4 hq k k0 k1).1, ?_⟩
      by_cases y : q = p
      · subst y
        rw [if_pos (by omega), if_pos ⟨rfl, by omega, by omega⟩, (d4 hq k k0 k1).2]
      · rw [if_neg (by omega), if_neg (fun x => y x.1)]
        exact (d4 hq k k0 k1).2
  · refine ⟨by rw [o 9 (by omega), e 5 (by omega)]; exact cd.1, fun k k0 k1 => ?_⟩
    rw [e 5 (by omega)] at k1
    have w9 : ∀ v9, 0 ≤ v9 → dr (sinkP r p n 0 (pr r p 0)) k v9 = dr r k v9 := fun v9 v0 => e _ (by omega)
    rw [o 10 (by omega), o 11 (by omega), o 12 (by omega), w9 0 (by decide), w9 1 (by decide), w9 2 (by decide)]
    exact cd.2 k k0 k1
  · refine ⟨by rw [o 13 (by omega), e 11 (by omega)]; exact cl.1, fun k c k0 k1 c0 c1 => ?_⟩
    rw [e 11 (by omega)] at k1 ⊢
    have w9 : gr (sinkP r p n 0 (pr r p 0)) k c = gr r k c := e _ (by omega)
    rw [o 14 (by omega), w9]
    exact cl.2 k c k0 k1 c0 c1
  · rw [o 15 (by omega), e (6 + j) (by omega)]
    exact cs j j0 j1
section Days2
variable {tb : Tab} {d : Nat} {m : AM} {K : Out → AM → Prop} {S : Nat → Int → Int} {w : Nat} {r : Int → Int}
theorem k7_0 : pg.1 7 0 = [.bipush 6, .iload 1, .imul, .istore 3, .jsr 5] := rfl
theorem a7_0 {tb : Tab} {d : Nat} {K : Out → AM → Prop} {ls st : List AV} {m : AM} : At tb d 7 K 0 ls st m = wpB tb (pg.2.1 7) (Runs tb pg d) K (At tb d 7 K) [.bipush 6, .iload 1, .imul, .istore 3, .jsr 5] ls st m := At.eq k7_0
theorem k7_5 : pg.1 7 5 = [.iload 3, .bipush 6, .iload 1, .imul, .aload 0, .getfield 805, .iload 1, .iaload, .iadd, .if_icmp .ge 44, .aload 0, .getfield 809, .iload 3, .bipush 0, .aload 0, .getfield 809, .iload 3, .iaload, .iload 2, .isub, .invokestatic 1, .iastore, .iinc 3 1, .goto 5] := rfl
theorem a7_5 {tb : Tab} {d : Nat} {K : Out → AM → Prop} {ls st : List AV} {m : AM} : At tb d 7 K 5 ls st m = wpB tb (pg.2.1 7) (Runs tb pg d) K (At tb d 7 K) [.iload 3, .bipush 6, .iload 1, .imul, .aload 0, .getfield 805, .iload 1, .iaload, .iadd, .if_icmp .ge 44, .aload 0, .getfield 809, .iload 3, .bipush 0, .aload 0, .getfield 809, .iload 3, .iaload, .iload 2, .isub, .invokestatic 1, .iastore, .iinc 3 1, .goto 5] ls st m := At.eq k7_5
theorem k7_44 : pg.1 7 44 = [.return_] := rfl
theorem a7_44 {tb : Tab} {d : Nat} {K : Out → AM → Prop} {ls st : List AV} {m : AM} : At tb d 7 K 44 ls st m = wpB tb (pg.2.1 7) (Runs tb pg d) K (At tb d 7 K) [.return_] ls st m := At.eq k7_44
theorem w_7 {p n : Int} (hw : isW w) (hR : RW S w r) (hA : AB r) (hp : 0 ≤ p ∧ p < r 4) (hon : pr r p 1 ≠ -1) (hn : 0 ≤ n ∧ n ≤ 10000) (hK : K (.inl none) (X (lsS S w p n (pr r p 0)) m)) : Runs tb pg (d + 1) 7 [vr w, vi p, vi n] (X S m) K := by
  have b3 := hA.2.1.1
  have b4 := hA.2.1.2.1
  have b5 := hA.2.1.2.2.1
  have e0 := hR.1.1
  have e4 := hR.1.2.1
  obtain ⟨q1, q2, q3, q4⟩ := hR.2.2.1 p hp.1 hp.2
  have z := AB_pp hA hp.1 hp.2
  have hL5 : (fun i : Int => ∀ (z4 : Int) (T : Nat → Int → Int), z4 = 6 * p + i → (T = lsS S w p n i) → At tb d 7 K 5 [vr w, vi p, vi n, vi z4] [] (X T m)) 0 := by
    refine loopZ (fun i : Int => ∀ (z4 : Int) (T : Nat → Int → Int), z4 = 6 * p + i → (T = lsS S w p n i) → At tb d 7 K 5 [vr w, vi p, vi n, vi z4] [] (X T m)) (pr r p 0) (by omega) ?_ ?_
    · intro i h0 h1 h9 z4 T hz4 hT
      subst hz4
      have y := AB_pk hA hp.1 hp.2 h0 (by omega : i < 6)
      have q8 := (q4 hon i h0 h1).2
      have t4 : T (w + 4) p = S (w + 4) p := by rw [hT, lsS_o (by omega)]
      have t8 : T (w + 8) (6 * p + i) = S (w + 8) (6 * p + i) := by rw [hT, lsS_8, if_neg (by omega)]
      have te : snkV n 0 (pr r p (14 + i)) = if pr r p (14 + i) - n < 0 then 0 else pr r p (14 + i) - n := rfl
      rw [a7_5]
      repeat' (first | omega | with_reducible refine h9 _ _ ?_ ?_ | simp only [w_iconst, w_iload, w_imul, w_istore, w_fall, Int.reduceToNat, w_aload, x_g805_w0, x_iald, w_ialoads, w_ialoadw, w_iadd, w_ifc, cI, x_g809_w0, w_isub, w_max, x_iast, w_iinc, lgB, Nat.reduceSub, w_goto, w_return, isA_w1, isA_w2, isA_w3, isA_w4, isA_w5, isA_w6, isA_w7, isA_w8, isA_w10, isA_w11, isA_w12, isA_w14, isA_w15, isA_w16, len_w1, len_w2, len_w3, len_w4, len_w5, len_w6, len_w7, len_w8, len_w10, len_w11, len_w12, len_w14, len_w15, len_w16, Int.cast_ofNat_Int, a7_0, a7_44, R32, List.getElem?_cons_zero, List.getElem?_cons_succ, List.set_cons_zero, List.set_cons_succ, List.cons_append, List.nil_append, List.replicate_succ, List.replicate_zero, List.take_succ_cons, List.take_zero, List.drop_succ_cons, List.drop_zero, List.reverse_cons, List.reverse_nil, List.length_cons, List.length_nil, Option.toList, true_and, and_true, eq_self, ↓reduceIte, not_true_eq_false, not_false_eq_true, true_or, or_true, hw] | with_reducible refine And.intro ?_ ?_ | with_reducible intro _)
      all_goals (try (first | omega | contradiction | (refine lsS_s h0 hT ?_; rw [q8, te]; grind) | grind))
    · intro z4 T hz4 hT
      subst hz4
      have t4 : T (w + 4) p = S (w + 4) p := by rw [hT, lsS_o (by omega)]
      rw [a7_5]
      repeat' (first | omega | (subst hT; exact hK) | simp only [w_iconst, w_iload, w_imul, w_istore, w_fall, Int.reduceToNat, w_aload, x_g805_w0, x_iald, w_ialoads, w_ialoadw, w_iadd, w_ifc, cI, x_g809_w0, w_isub, w_max, x_iast, w_iinc, lgB, Nat.reduceSub, w_goto, w_return, isA_w1, isA_w2, isA_w3, isA_w4, isA_w5, isA_w6, isA_w7, isA_w8, isA_w10, isA_w11, isA_w12, isA_w14, isA_w15, isA_w16, len_w1, len_w2, len_w3, len_w4, len_w5, len_w6, len_w7, len_w8, len_w10, len_w11, len_w12, len_w14, len_w15, len_w16, Int.cast_ofNat_Int, a7_0, a7_44, R32, List.getElem?_cons_zero, List.getElem?_cons_succ, List.set_cons_zero, List.set_cons_succ, List.cons_append, List.nil_append, List.replicate_succ, List.replicate_zero, List.take_succ_cons, List.take_zero, List.drop_succ_cons, List.drop_zero, List.reverse_cons, List.reverse_nil, List.length_cons, List.length_nil, Option.toList, true_and, and_true, eq_self, ↓reduceIte, not_true_eq_false, not_false_eq_true, true_or, or_true, hw] | with_reducible refine And.intro ?_ ?_ | with_reducible intro _)
      all_goals (try (first | omega | contradiction | omega))
  refine Runs.of (al := [vr w, vi p, vi n]) (n := 1) trivial rfl rfl trivial ?_
  repeat' (first | omega | with_reducible refine hL5 _ _ ?_ ?_ | simp only [w_iconst, w_iload, w_imul, w_istore, w_fall, Int.reduceToNat, w_aload, x_g805_w0, x_iald, w_ialoads, w_ialoadw, w_iadd, w_ifc, cI, x_g809_w0, w_isub, w_max, x_iast, w_iinc, lgB, Nat.reduceSub, w_goto, w_return, isA_w1, isA_w2, isA_w3, isA_w4, isA_w5, isA_w6, isA_w7, isA_w8, isA_w10, isA_w11, isA_w12, isA_w14, isA_w15, isA_w16, len_w1, len_w2, len_w3, len_w4, len_w5, len_w6, len_w7, len_w8, len_w10, len_w11, len_w12, len_w14, len_w15, len_w16, Int.cast_ofNat_Int, a7_0, a7_44, R32, List.getElem?_cons_zero, List.getElem?_cons_succ, List.set_cons_zero, List.set_cons_succ, List.cons_append, List.nil_append, List.replicate_succ, List.replicate_zero, List.take_succ_cons, List.take_zero, List.drop_succ_cons, List.drop_zero, List.reverse_cons, List.reverse_nil, List.length_cons, List.length_nil, Option.toList, true_and, and_true, eq_self, ↓reduceIte, not_true_eq_false, not_false_eq_true, true_or, or_true, hw] | with_reducible refine And.intro ?_ ?_ | with_reducible intro _)
  all_goals (try (first | omega | (exfalso; assumption) | exact lsS_0))
end Days2
