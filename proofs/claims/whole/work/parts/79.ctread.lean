/-! ===== THE CLASS: letters of one, trodden deeper ===== -/
theorem kindsM_s {P : Int → Int → Int} {p n : Int} (h : 0 ≤ n) : kindsM P p (n + 1) = orI (kindsM P p n) (shlI 1 (P p (2 + n))) := orZ_s h
def trS (S : Nat → Int → Int) (w : Nat) (p n i : Int) : Nat → Int → Int := fun b => if b = w + 8 then (fun j => if 6 * p ≤ j ∧ j < 6 * p + i then trV n (S (w + 8) j) else S (w + 8) j) else S b
theorem trS_8 {S : Nat → Int → Int} {w : Nat} {p n i j : Int} : trS S w p n i (w + 8) j = if 6 * p ≤ j ∧ j < 6 * p + i then trV n (S (w + 8) j) else S (w + 8) j := by unfold trS; rw [if_pos rfl]
theorem trS_o {S : Nat → Int → Int} {w b : Nat} {p n i : Int} (h : b ≠ w + 8) : trS S w p n i b = S b := if_neg h
theorem trS_0 {S : Nat → Int → Int} {w : Nat} {p n : Int} : S = trS S w p n 0 := by
  funext b j
  by_cases h : b = w + 8
  · subst h; rw [trS_8, if_neg (by omega)]
  · rw [trS_o h]
theorem trS_s {S T : Nat → Int → Int} {w : Nat} {p n i v : Int} (hi : 0 ≤ i) (hT : T = trS S w p n i) (hv : v = trV n (S (w + 8) (6 * p + i))) : upS T (w + 8) (6 * p + i) v = trS S w p n (i + 1) := by
  subst hT
  funext b j
  rw [upS_at]
  by_cases h : b = w + 8
  · subst h
    rw [trS_8, trS_8]
    by_cases z : j = 6 * p + i
    · rw [if_pos ⟨rfl, z⟩, if_pos (by omega), hv, z]
    · rw [if_neg (fun y => z y.2)]
      by_cases y : 6 * p ≤ j ∧ j < 6 * p + i
      · rw [if_pos y, if_pos (by omega)]
      · rw [if_neg y, if_neg (by omega)]
  · rw [if_neg (fun y => h y.1), trS_o h, trS_o h]
theorem trS_n {S T : Nat → Int → Int} {w : Nat} {p n i : Int} (hi : 0 ≤ i) (hT : T = trS S w p n i) (hv : ¬ 0 < S (w + 8) (6 * p + i)) : T = trS S w p n (i + 1) := by
  subst hT
  funext b j
  by_cases h : b = w + 8
  · subst h
    rw [trS_8, trS_8]
    by_cases z : j = 6 * p + i
    · rw [if_neg (by omega), if_pos (by omega), z]; unfold trV; rw [if_neg hv]
    · by_cases y : 6 * p ≤ j ∧ j < 6 * p + i
      · rw [if_pos y, if_pos (by omega)]
      · rw [if_neg y, if_neg (by omega)]
  · rw [trS_o h, trS_o h]
theorem trS_EW {S : Nat → Int → Int} {w : Nat} {p n i : Int} : EW S (trS S w p n i) w := fun a ha => trS_o (by omega)
theorem RW_tr {S : Nat → Int → Int} {w : Nat} {r : Int → Int} {p n : Int} (hA : AB r) (h : RW S w r) (h0 : 0 ≤ p) (h1 : p < r 4) : RW (trS S w p n (pr r p 0)) w (trP r p n (pr r p 0)) := by
  obtain ⟨⟨c0, c1, c2, c3⟩, cf, cp, cd, cl, cs⟩ := h
  have z := AB_pp hA h0 h1
  have e : ∀ j, j < 31 ∨ 151 ≤ j → trP r p n (pr r p 0) j = r j := fun j hj => trP_o h0 z.2.2 z.1.2 hj
  have b3 := hA.2.1.1
  have b4 := hA.2.1.2.1
  have b11 := hA.2.1.2.2.2.2.2.2.1
  have o : ∀ k : Nat, k ≠ 8 → trS S w p n (pr r p 0) (w + k) = S (w + k) := fun k hk => trS_o (by omega)
  have o0 : trS S w p n (pr r p 0) w = S w := trS_o (by omega)
  refine ⟨?_, fun g g0 g1 => ?_, fun q q0 q1 => ?_, ?_, ?_, fun j j0 j1 => ?_⟩
  · rw [o0, e 3 (by omega), e 4 (by omega), e 12 (by omega), e 0 (by omega)]
    exact ⟨c0, c1, c2, c3⟩
  · rw [e 3 (by omega)] at g1
    have w9 : ∀ v9, 0 ≤ v9 → v9 < 3 → fr (trP r p n (pr r p 0)) g v9 = fr r g v9 := fun v9 v0 v1 => e _ (by omega)
    rw [o 1 (by omega), o 2 (by omega), o 3 (by omega), w9 0 (by decide) (by decide), w9 1 (by decide) (by decide), w9 2 (by decide) (by decide)]
    exact cf g g0 g1
  · rw [e 4 (by omega)] at q1
    obtain ⟨d1, d2, d3, d4⟩ := cp q q0 q1
    have zq := AB_pp hA q0 q1
    have s : ∀ k, 0 ≤ k → k < 14 → pr (trP r p n (pr r p 0)) q k = pr r q k := fun k k0 k1 => by rw [trP_p z.1.2 k0 (by omega), if_neg (by omega)]
    rw [s 0 (by omega) (by omega), s 1 (by omega) (by omega), o 4 (by omega), o 5 (by omega), o 6 (by omega), o 7 (by omega)]
    refine ⟨d1, d2, fun k k0 k1 => ?_, fun hq k k0 k1 => ?_⟩
    · rw [s _ (by omega) (by omega)]; exact d3 k k0 k1
    · rw [s _ (by omega) (by omega), trS_8, trP_p z.1.2 (by omega) (by omega)]
      refine ⟨(d4 hq k k0 k1).1, ?_⟩
      by_cases y : q = p
      · subst y
        rw [if_pos (by omega), if_pos ⟨rfl, by omega, by omega⟩, (d4 hq k k0 k1).2]
      · rw [if_neg (by omega), if_neg (fun x => y x.1)]
        exact (d4 hq k k0 k1).2
  · refine ⟨by rw [o 9 (by omega), e 5 (by omega)]; exact cd.1, fun k k0 k1 => ?_⟩
    rw [e 5 (by omega)] at k1
    have w9 : ∀ v9, 0 ≤ v9 → dr (trP r p n (pr r p 0)) k v9 = dr r k v9 := fun v9 v0 => e _ (by omega)
    rw [o 10 (by omega), o 11 (by omega), o 12 (by omega), w9 0 (by decide), w9 1 (by decide), w9 2 (by decide)]
    exact cd.2 k k0 k1
  · refine ⟨by rw [o 13 (by omega), e 11 (by omega)]; exact cl.1, fun k c k0 k1 c0 c1 => ?_⟩
    rw [e 11 (by omega)] at k1 ⊢
    have w9 : gr (trP r p n (pr r p 0)) k c = gr r k c := e _ (by omega)
    rw [o 14 (by omega), w9]
    exact cl.2 k c k0 k1 c0 c1
  · rw [o 15 (by omega), e (6 + j) (by omega)]
    exact cs j j0 j1
section World8
variable {tb : Tab} {d : Nat} {m : AM} {K : Out → AM → Prop} {S : Nat → Int → Int} {w : Nat} {r : Int → Int}
theorem a116_0 {tb : Tab} {d : Nat} {K : Out → AM → Prop} {ls st : List AV} {m : AM} : At tb d 116 K 0 ls st m = wpB tb (pg.2.1 116) (Runs tb pg d) K (At tb d 116 K) [.bipush 0, .istore 2, .bipush 0, .istore 3, .jsr 4] ls st m := At.eq k116_0
theorem a116_4 {tb : Tab} {d : Nat} {K : Out → AM → Prop} {ls st : List AV} {m : AM} : At tb d 116 K 4 ls st m = wpB tb (pg.2.1 116) (Runs tb pg d) K (At tb d 116 K) [.iload 3, .aload 0, .getfield 805, .iload 1, .iaload, .if_icmp .ge 36, .iload 2, .bipush 1, .aload 0, .getfield 806, .bipush 6, .iload 1, .imul, .iload 3, .iadd, .iaload, .ishl, .ior, .istore 2, .iinc 3 1, .goto 4] ls st m := At.eq k116_4
theorem a116_36 {tb : Tab} {d : Nat} {K : Out → AM → Prop} {ls st : List AV} {m : AM} : At tb d 116 K 36 ls st m = wpB tb (pg.2.1 116) (Runs tb pg d) K (At tb d 116 K) [.iload 2, .ireturn] ls st m := At.eq k116_36
theorem w_116 {p : Int} (hw : isW w) (hR : RW S w r) (hA : AB r) (hp : 0 ≤ p ∧ p < r 4) (hK : ∀ v, v = kindsM (pr r) p (pr r p 0) → K (.inl (some (vi v))) (X S m)) : Runs tb pg (d + 1) 116 [vr w, vi p] (X S m) K := by
  have b3 := hA.2.1.1
  have b4 := hA.2.1.2.1
  have b5 := hA.2.1.2.2.1
  have e0 := hR.1.1
  have e4 := hR.1.2.1
  obtain ⟨q1, q2, q3, q4⟩ := hR.2.2.1 p hp.1 hp.2
  have z := AB_pp hA hp.1 hp.2
  have hL4 : (fun i : Int => ∀ (a : Int), a = kindsM (pr r) p i → At tb d 116 K 4 [vr w, vi p, vi a, vi i] [] (X S m)) 0 := by
    refine loopZ (fun i : Int => ∀ (a : Int), a = kindsM (pr r) p i → At tb d 116 K 4 [vr w, vi p, vi a, vi i] [] (X S m)) (pr r p 0) (by omega) ?_ ?_
    · intro i h0 h1 h9 a ha
      have y := q3 i h0 h1
      rw [a116_4]
      repeat' (first | omega | with_reducible refine h9 _ ?_ | simp only [w_iconst, w_istore, w_fall, Int.reduceToNat, w_iload, w_aload, x_g805_w0, x_iald, w_ialoads, w_ialoadw, w_ifc, cI, x_g806_w0, w_imul, w_iadd, w_ishl, w_ior, w_iinc, lgB, Nat.reduceSub, w_goto, w_ireturn, isA_w1, isA_w2, isA_w3, isA_w4, isA_w5, isA_w6, isA_w7, isA_w8, isA_w10, isA_w11, isA_w12, isA_w14, isA_w15, isA_w16, len_w1, len_w2, len_w3, len_w4, len_w5, len_w6, len_w7, len_w8, len_w10, len_w11, len_w12, len_w14, len_w15, len_w16, Int.cast_ofNat_Int, a116_0, a116_36, R32, List.getElem?_cons_zero, List.getElem?_cons_succ, List.set_cons_zero, List.set_cons_succ, List.cons_append, List.nil_append, List.replicate_succ, List.replicate_zero, List.take_succ_cons, List.take_zero, List.drop_succ_cons, List.drop_zero, List.reverse_cons, List.reverse_nil, List.length_cons, List.length_nil, Option.toList, true_and, and_true, eq_self, ↓reduceIte, not_true_eq_false, not_false_eq_true, true_or, or_true, hw] | with_reducible refine And.intro ?_ ?_ | with_reducible intro _)
      all_goals (try (first | omega | contradiction | (rw [kindsM_s h0, ha, y])))
    · intro a ha
      rw [a116_4]
      repeat' (first | omega | with_reducible refine hK _ ?_ | simp only [w_iconst, w_istore, w_fall, Int.reduceToNat, w_iload, w_aload, x_g805_w0, x_iald, w_ialoads, w_ialoadw, w_ifc, cI, x_g806_w0, w_imul, w_iadd, w_ishl, w_ior, w_iinc, lgB, Nat.reduceSub, w_goto, w_ireturn, isA_w1, isA_w2, isA_w3, isA_w4, isA_w5, isA_w6, isA_w7, isA_w8, isA_w10, isA_w11, isA_w12, isA_w14, isA_w15, isA_w16, len_w1, len_w2, len_w3, len_w4, len_w5, len_w6, len_w7, len_w8, len_w10, len_w11, len_w12, len_w14, len_w15, len_w16, Int.cast_ofNat_Int, a116_0, a116_36, R32, List.getElem?_cons_zero, List.getElem?_cons_succ, List.set_cons_zero, List.set_cons_succ, List.cons_append, List.nil_append, List.replicate_succ, List.replicate_zero, List.take_succ_cons, List.take_zero, List.drop_succ_cons, List.drop_zero, List.reverse_cons, List.reverse_nil, List.length_cons, List.length_nil, Option.toList, true_and, and_true, eq_self, ↓reduceIte, not_true_eq_false, not_false_eq_true, true_or, or_true, hw] | with_reducible refine And.intro ?_ ?_ | with_reducible intro _)
      all_goals (try (first | omega | contradiction | omega))
  refine Runs.of (al := [vr w, vi p]) (n := 2) ⟨w, _, _, rfl, xo_w0 hw⟩ rfl rfl trivial ?_
  repeat' (first | omega | with_reducible refine hL4 _ ?_ | simp only [w_iconst, w_istore, w_fall, Int.reduceToNat, w_iload, w_aload, x_g805_w0, x_iald, w_ialoads, w_ialoadw, w_ifc, cI, x_g806_w0, w_imul, w_iadd, w_ishl, w_ior, w_iinc, lgB, Nat.reduceSub, w_goto, w_ireturn, isA_w1, isA_w2, isA_w3, isA_w4, isA_w5, isA_w6, isA_w7, isA_w8, isA_w10, isA_w11, isA_w12, isA_w14, isA_w15, isA_w16, len_w1, len_w2, len_w3, len_w4, len_w5, len_w6, len_w7, len_w8, len_w10, len_w11, len_w12, len_w14, len_w15, len_w16, Int.cast_ofNat_Int, a116_0, a116_36, R32, List.getElem?_cons_zero, List.getElem?_cons_succ, List.set_cons_zero, List.set_cons_succ, List.cons_append, List.nil_append, List.replicate_succ, List.replicate_zero, List.take_succ_cons, List.take_zero, List.drop_succ_cons, List.drop_zero, List.reverse_cons, List.reverse_nil, List.length_cons, List.length_nil, Option.toList, true_and, and_true, eq_self, ↓reduceIte, not_true_eq_false, not_false_eq_true, true_or, or_true, hw] | with_reducible refine And.intro ?_ ?_ | with_reducible intro _)
  all_goals (try (first | omega | (exfalso; assumption) | rfl))
theorem a123_0 {tb : Tab} {d : Nat} {K : Out → AM → Prop} {ls st : List AV} {m : AM} : At tb d 123 K 0 ls st m = wpB tb (pg.2.1 123) (Runs tb pg d) K (At tb d 123 K) [.bipush 0, .istore 3, .bipush 6, .iload 1, .imul, .istore 4, .jsr 8] ls st m := At.eq k123_0
theorem a123_8 {tb : Tab} {d : Nat} {K : Out → AM → Prop} {ls st : List AV} {m : AM} : At tb d 123 K 8 ls st m = wpB tb (pg.2.1 123) (Runs tb pg d) K (At tb d 123 K) [.iload 4, .bipush 6, .iload 1, .imul, .aload 0, .getfield 805, .iload 1, .iaload, .iadd, .if_icmp .ge 73, .aload 0, .getfield 809, .iload 4, .iaload, .ifCond .le 55, .aload 0, .getfield 809, .iload 4, .bipush 9, .aload 0, .getfield 809, .iload 4, .iaload, .iload 2, .iadd, .invokestatic 0, .iastore, .jsr 55] ls st m := At.eq k123_8
theorem a123_55 {tb : Tab} {d : Nat} {K : Out → AM → Prop} {ls st : List AV} {m : AM} : At tb d 123 K 55 ls st m = wpB tb (pg.2.1 123) (Runs tb pg d) K (At tb d 123 K) [.iload 3, .aload 0, .getfield 809, .iload 4, .iaload, .invokestatic 1, .istore 3, .iinc 4 1, .goto 8] ls st m := At.eq k123_55
theorem a123_73 {tb : Tab} {d : Nat} {K : Out → AM → Prop} {ls st : List AV} {m : AM} : At tb d 123 K 73 ls st m = wpB tb (pg.2.1 123) (Runs tb pg d) K (At tb d 123 K) [.iload 3, .ireturn] ls st m := At.eq k123_73
theorem w_123 {p n : Int} (hw : isW w) (hR : RW S w r) (hA : AB r) (hp : 0 ≤ p ∧ p < r 4) (hon : pr r p 1 ≠ -1) (hn : 0 ≤ n ∧ n ≤ 1000) (hK : ∀ v, v = trM (fun k => pr r p (14 + k)) n (pr r p 0).toNat → K (.inl (some (vi v))) (X (trS S w p n (pr r p 0)) m)) : Runs tb pg (d + 1) 123 [vr w, vi p, vi n] (X S m) K := by
  have b3 := hA.2.1.1
  have b4 := hA.2.1.2.1
  have b5 := hA.2.1.2.2.1
  have e0 := hR.1.1
  have e4 := hR.1.2.1
  obtain ⟨q1, q2, q3, q4⟩ := hR.2.2.1 p hp.1 hp.2
  have z := AB_pp hA hp.1 hp.2
  have hL8 : (fun i : Int => ∀ (g : Int) (z4 : Int) (T : Nat → Int → Int), g = trM (fun k => pr r p (14 + k)) n i.toNat → z4 = 6 * p + i → (T = trS S w p n i) → (0 ≤ g ∧ g ≤ 9) → At tb d 123 K 8 [vr w, vi p, vi n, vi g, vi z4] [] (X T m)) 0 := by
    refine loopZ (fun i : Int => ∀ (g : Int) (z4 : Int) (T : Nat → Int → Int), g = trM (fun k => pr r p (14 + k)) n i.toNat → z4 = 6 * p + i → (T = trS S w p n i) → (0 ≤ g ∧ g ≤ 9) → At tb d 123 K 8 [vr w, vi p, vi n, vi g, vi z4] [] (X T m)) (pr r p 0) (by omega) ?_ ?_
    · intro i h0 h1 h9 g z4 T hg hz4 hT hg2
      subst hz4
      have y := AB_pk hA hp.1 hp.2 h0 (by omega : i < 6)
      have q8 := (q4 hon i h0 h1).2
      have t4 : T (w + 4) p = S (w + 4) p := by rw [hT, trS_o (by omega)]
      have t8 : T (w + 8) (6 * p + i) = S (w + 8) (6 * p + i) := by rw [hT, trS_8, if_neg (by omega)]
      have tv := trV_rg (n := n) (x := pr r p (14 + i)) hn.1 y.1
      have ts := trM_s (x := fun k => pr r p (14 + k)) (n := n) h0
      have te : trV n (pr r p (14 + i)) = if 0 < pr r p (14 + i) then (if 9 < pr r p (14 + i) + n then 9 else pr r p (14 + i) + n) else pr r p (14 + i) := rfl
      rw [a123_8]
      repeat' (first | omega | with_reducible refine h9 _ _ _ ?_ ?_ ?_ ?_ | simp only [w_iconst, w_istore, w_iload, w_imul, w_fall, Int.reduceToNat, w_aload, x_g805_w0, x_iald, w_ialoads, w_ialoadw, w_iadd, w_ifc, cI, x_g809_w0, w_if, w_min, x_iast, w_max, w_iinc, lgB, Nat.reduceSub, w_goto, w_ireturn, isA_w1, isA_w2, isA_w3, isA_w4, isA_w5, isA_w6, isA_w7, isA_w8, isA_w10, isA_w11, isA_w12, isA_w14, isA_w15, isA_w16, len_w1, len_w2, len_w3, len_w4, len_w5, len_w6, len_w7, len_w8, len_w10, len_w11, len_w12, len_w14, len_w15, len_w16, Int.cast_ofNat_Int, a123_0, a123_55, a123_73, R32, List.getElem?_cons_zero, List.getElem?_cons_succ, List.set_cons_zero, List.set_cons_succ, List.cons_append, List.nil_append, List.replicate_succ, List.replicate_zero, List.take_succ_cons, List.take_zero, List.drop_succ_cons, List.drop_zero, List.reverse_cons, List.reverse_nil, List.length_cons, List.length_nil, Option.toList, true_and, and_true, eq_self, ↓reduceIte, not_true_eq_false, not_false_eq_true, true_or, or_true, hw, ux_s] | (rw [ux_s]) | with_reducible refine And.intro ?_ ?_ | with_reducible intro _)
      all_goals (try (first | omega | contradiction | (rw [ts]; show _ = if trV n (pr r p (14 + i)) < _ then _ else _; rw [← hg, te]; grind) | (exact trS_n h0 hT (by omega)) | (refine trS_s h0 hT ?_; rw [q8, te]; grind) | grind))
    · intro g z4 T hg hz4 hT hg2
      subst hz4
      have t4 : T (w + 4) p = S (w + 4) p := by rw [hT, trS_o (by omega)]
      rw [a123_8]
      repeat' (first | omega | (subst hT; exact hK _ hg) | simp only [w_iconst, w_istore, w_iload, w_imul, w_fall, Int.reduceToNat, w_aload, x_g805_w0, x_iald, w_ialoads, w_ialoadw, w_iadd, w_ifc, cI, x_g809_w0, w_if, w_min, x_iast, w_max, w_iinc, lgB, Nat.reduceSub, w_goto, w_ireturn, isA_w1, isA_w2, isA_w3, isA_w4, isA_w5, isA_w6, isA_w7, isA_w8, isA_w10, isA_w11, isA_w12, isA_w14, isA_w15, isA_w16, len_w1, len_w2, len_w3, len_w4, len_w5, len_w6, len_w7, len_w8, len_w10, len_w11, len_w12, len_w14, len_w15, len_w16, Int.cast_ofNat_Int, a123_0, a123_55, a123_73, R32, List.getElem?_cons_zero, List.getElem?_cons_succ, List.set_cons_zero, List.set_cons_succ, List.cons_append, List.nil_append, List.replicate_succ, List.replicate_zero, List.take_succ_cons, List.take_zero, List.drop_succ_cons, List.drop_zero, List.reverse_cons, List.reverse_nil, List.length_cons, List.length_nil, Option.toList, true_and, and_true, eq_self, ↓reduceIte, not_true_eq_false, not_false_eq_true, true_or, or_true, hw, ux_s] | (rw [ux_s]) | with_reducible refine And.intro ?_ ?_ | with_reducible intro _)
      all_goals (try (first | omega | contradiction | omega))
  refine Runs.of (al := [vr w, vi p, vi n]) (n := 2) ⟨w, _, _, rfl, xo_w0 hw⟩ rfl rfl trivial ?_
  repeat' (first | omega | with_reducible refine hL8 _ _ _ ?_ ?_ ?_ ?_ | simp only [w_iconst, w_istore, w_iload, w_imul, w_fall, Int.reduceToNat, w_aload, x_g805_w0, x_iald, w_ialoads, w_ialoadw, w_iadd, w_ifc, cI, x_g809_w0, w_if, w_min, x_iast, w_max, w_iinc, lgB, Nat.reduceSub, w_goto, w_ireturn, isA_w1, isA_w2, isA_w3, isA_w4, isA_w5, isA_w6, isA_w7, isA_w8, isA_w10, isA_w11, isA_w12, isA_w14, isA_w15, isA_w16, len_w1, len_w2, len_w3, len_w4, len_w5, len_w6, len_w7, len_w8, len_w10, len_w11, len_w12, len_w14, len_w15, len_w16, Int.cast_ofNat_Int, a123_0, a123_55, a123_73, R32, List.getElem?_cons_zero, List.getElem?_cons_succ, List.set_cons_zero, List.set_cons_succ, List.cons_append, List.nil_append, List.replicate_succ, List.replicate_zero, List.take_succ_cons, List.take_zero, List.drop_succ_cons, List.drop_zero, List.reverse_cons, List.reverse_nil, List.length_cons, List.length_nil, Option.toList, true_and, and_true, eq_self, ↓reduceIte, not_true_eq_false, not_false_eq_true, true_or, or_true, hw] | with_reducible refine And.intro ?_ ?_ | with_reducible intro _)
  all_goals (try (first | omega | (exfalso; assumption) | rfl | exact trS_0))
end World8
