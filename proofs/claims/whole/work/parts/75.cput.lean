/-! ===== THE CLASS: a World is written ===== -/
/-- the same but for the World at w -/
def EW (S T : Nat → Int → Int) (w : Nat) : Prop := ∀ a, a < w ∨ w + 17 ≤ a → T a = S a
theorem EW_r {S : Nat → Int → Int} {w : Nat} : EW S S w := fun _ _ => rfl
theorem EW_t {S T U : Nat → Int → Int} {w : Nat} (h : EW S T w) (g : EW T U w) : EW S U w := fun a ha => (g a ha).trans (h a ha)
/-- written on a field, the first i letters -/
def ptS (S : Nat → Int → Int) (w : Nat) (p f n i : Int) : Nat → Int → Int := fun b => if b = w + 6 then (fun j => if j = p then f else S (w + 6) j) else if b = w + 7 then (fun j => if 6 * p ≤ j ∧ j < 6 * p + i then S (w + 5) j else S (w + 7) j) else if b = w + 8 then (fun j => if 6 * p ≤ j ∧ j < 6 * p + i then n else S (w + 8) j) else S b
theorem ptS_6 {S : Nat → Int → Int} {w : Nat} {p f n i j : Int} : ptS S w p f n i (w + 6) j = if j = p then f else S (w + 6) j := by unfold ptS; rw [if_pos rfl]
theorem ptS_7 {S : Nat → Int → Int} {w : Nat} {p f n i j : Int} : ptS S w p f n i (w + 7) j = if 6 * p ≤ j ∧ j < 6 * p + i then S (w + 5) j else S (w + 7) j := by unfold ptS; rw [if_neg (by omega), if_pos rfl]
theorem ptS_8 {S : Nat → Int → Int} {w : Nat} {p f n i j : Int} : ptS S w p f n i (w + 8) j = if 6 * p ≤ j ∧ j < 6 * p + i then n else S (w + 8) j := by unfold ptS; rw [if_neg (by omega), if_neg (by omega), if_pos rfl]
theorem ptS_o {S : Nat → Int → Int} {w b : Nat} {p f n i : Int} (h6 : b ≠ w + 6) (h7 : b ≠ w + 7) (h8 : b ≠ w + 8) : ptS S w p f n i b = S b := by unfold ptS; rw [if_neg h6, if_neg h7, if_neg h8]
theorem ptS_0 {S : Nat → Int → Int} {w : Nat} {p f n : Int} : upS S (w + 6) p f = ptS S w p f n 0 := by
  funext b j
  by_cases h6 : b = w + 6
  · subst h6; rw [upS_at, ptS_6]; by_cases z : j = p
    · rw [if_pos ⟨rfl, z⟩, if_pos z]
    · rw [if_neg (fun y => z y.2), if_neg z]
  · rw [upS_at, if_neg (fun y => h6 y.1)]
    by_cases h7 : b = w + 7
    · subst h7; rw [ptS_7, if_neg (by omega)]
    · by_cases h8 : b = w + 8
      · subst h8; rw [ptS_8, if_neg (by omega)]
      · rw [ptS_o h6 h7 h8]
theorem ptS_s {S T : Nat → Int → Int} {w : Nat} {p f n i v : Int} (hi : 0 ≤ i) (hT : T = ptS S w p f n i) (hv : v = S (w + 5) (6 * p + i)) : upS (upS T (w + 7) (6 * p + i) v) (w + 8) (6 * p + i) n = ptS S w p f n (i + 1) := by
  subst hT
  funext b j
  rw [upS_at, upS_at]
  by_cases h6 : b = w + 6
  · subst h6; rw [if_neg (by omega), if_neg (by omega), ptS_6, ptS_6]
  · by_cases h7 : b = w + 7
    · subst h7
      rw [if_neg (by omega), ptS_7, ptS_7]
      by_cases z : j = 6 * p + i
      · rw [if_pos ⟨rfl, z⟩, if_pos (by omega), hv, z]
      · rw [if_neg (fun y => z y.2)]
        by_cases y : 6 * p ≤ j ∧ j < 6 * p + i
        · rw [if_pos y, if_pos (by omega)]
        · rw [if_neg y, if_neg (by omega)]
    · by_cases h8 : b = w + 8
      · subst h8
        rw [ptS_8, ptS_8]
        by_cases z : j = 6 * p + i
        · rw [if_pos ⟨rfl, z⟩, if_pos (by omega)]
        · rw [if_neg (fun y => z y.2), if_neg (by omega)]
          by_cases y : 6 * p ≤ j ∧ j < 6 * p + i
          · rw [if_pos y, if_pos (by omega)]
          · rw [if_neg y, if_neg (by omega)]
      · rw [if_neg (fun y => h8 y.1), if_neg (fun y => h7 y.1), ptS_o h6 h7 h8, ptS_o h6 h7 h8]
theorem ptS_EW {S : Nat → Int → Int} {w : Nat} {p f n i : Int} : EW S (ptS S w p f n i) w := fun a ha => ptS_o (by omega) (by omega) (by omega)
theorem wrtP_q {r : Int → Int} {p f n i q k : Int} (i1 : i ≤ 6) (k0 : 0 ≤ k) (k1 : k < 20) : pr (wrtP r p f n i) q k = if q = p ∧ k = 1 then f else if q = p ∧ 8 ≤ k ∧ k < 8 + i then pr r p (k - 6) else if q = p ∧ 14 ≤ k ∧ k < 14 + i then n else pr r q k := by
  unfold pr wrtP
  by_cases a : q = p ∧ k = 1
  · rw [if_pos a, if_pos (by omega)]
  · rw [if_neg a, if_neg (by omega)]
    by_cases b : q = p ∧ 8 ≤ k ∧ k < 8 + i
    · rw [if_pos b, if_pos (by omega), b.1, show 31 + 20 * p + k - 6 = 31 + 20 * p + (k - 6) by omega]
    · rw [if_neg b, if_neg (by omega)]
      by_cases c : q = p ∧ 14 ≤ k ∧ k < 14 + i
      · rw [if_pos c, if_pos (by omega)]
      · rw [if_neg c, if_neg (by omega)]
theorem RW_pt {S : Nat → Int → Int} {w : Nat} {r : Int → Int} {p f n : Int} (hA : AB r) (h : RW S w r) (h0 : 0 ≤ p) (h1 : p < r 4) : RW (ptS S w p f n (pr r p 0)) w (wrtP r p f n (pr r p 0)) := by
  obtain ⟨⟨c0, c1, c2, c3⟩, cf, cp, cd, cl, cs⟩ := h
  have z := AB_pp hA h0 h1
  have e : ∀ j, j < 31 ∨ 151 ≤ j → wrtP r p f n (pr r p 0) j = r j := fun j hj => wrtP_o h0 z.2.2 z.1.2 hj
  have b3 := hA.2.1.1
  have b4 := hA.2.1.2.1
  have b11 := hA.2.1.2.2.2.2.2.2.1
  have o : ∀ k : Nat, k < 6 ∨ 8 < k → ptS S w p f n (pr r p 0) (w + k) = S (w + k) := fun k hk => ptS_o (by omega) (by omega) (by omega)
  have o0 : ptS S w p f n (pr r p 0) w = S w := ptS_o (by omega) (by omega) (by omega)
  refine ⟨?_, fun g g0 g1 => ?_, fun q q0 q1 => ?_, ?_, ?_, fun j j0 j1 => ?_⟩
  · rw [o0, e 3 (by omega), e 4 (by omega), e 12 (by omega), e 0 (by omega)]
    exact ⟨c0, c1, c2, c3⟩
  · rw [e 3 (by omega)] at g1
    have w9 : ∀ v9, 0 ≤ v9 → v9 < 3 → fr (wrtP r p f n (pr r p 0)) g v9 = fr r g v9 := fun v9 v0 v1 => e _ (by omega)
    rw [o 1 (by omega), o 2 (by omega), o 3 (by omega), w9 0 (by decide) (by decide), w9 1 (by decide) (by decide), w9 2 (by decide) (by decide)]
    exact cf g g0 g1
  · rw [e 4 (by omega)] at q1
    obtain ⟨d1, d2, d3, d4⟩ := cp q q0 q1
    have zq := AB_pp hA q0 q1
    have s0 : pr (wrtP r p f n (pr r p 0)) q 0 = pr r q 0 := by rw [wrtP_q z.1.2 (by omega) (by omega), if_neg (by omega), if_neg (by omega), if_neg (by omega)]
    rw [s0]
    refine ⟨by rw [o 4 (by omega)]; exact d1, ?_, fun k k0 k1 => ?_, fun hq k k0 k1 => ?_⟩
    · rw [ptS_6, wrtP_q z.1.2 (by omega) (by omega)]
      by_cases y : q = p
      · rw [if_pos y, if_pos ⟨y, rfl⟩]
      · rw [if_neg y, if_neg (by omega), if_neg (by omega), if_neg (by omega)]; exact d2
    · rw [o 5 (by omega), wrtP_q z.1.2 (by omega) (by omega), if_neg (by omega), if_neg (by omega), if_neg (by omega)]
      exact d3 k k0 k1
    · by_cases y : q = p
      · subst y
        have a7 : ptS S w q f n (pr r q 0) (w + 7) (6 * q + k) = S (w + 5) (6 * q + k) := by rw [ptS_7, if_pos (by omega)]
        have a8 : ptS S w q f n (pr r q 0) (w + 8) (6 * q + k) = n := by rw [ptS_8, if_pos (by omega)]
        have b8 : pr (wrtP r q f n (pr r q 0)) q (8 + k) = pr r q (2 + k) := by rw [wrtP_q z.1.2 (by omega) (by omega), if_neg (by omega), if_pos ⟨rfl, by omega, by omega⟩, show 8 + k - 6 = 2 + k by omega]
        have b14 : pr (wrtP r q f n (pr r q 0)) q (14 + k) = n := by rw [wrtP_q z.1.2 (by omega) (by omega), if_neg (by omega), if_neg (by omega), if_pos ⟨rfl, by omega, by omega⟩]
        rw [a7, a8, b8, b14]
        exact ⟨d3 k k0 k1, rfl⟩
      · have a7 : ptS S w p f n (pr r p 0) (w + 7) (6 * q + k) = S (w + 7) (6 * q + k) := by rw [ptS_7, if_neg (by omega)]
        have a8 : ptS S w p f n (pr r p 0) (w + 8) (6 * q + k) = S (w + 8) (6 * q + k) := by rw [ptS_8, if_neg (by omega)]
        have b8 : ∀ v, 0 ≤ v → v < 20 → pr (wrtP r p f n (pr r p 0)) q v = pr r q v := fun v v0 v1 => by rw [wrtP_q z.1.2 v0 v1, if_neg (fun x => y x.1), if_neg (fun x => y x.1), if_neg (fun x => y x.1)]
        rw [b8 1 (by omega) (by omega)] at hq
        rw [a7, a8, b8 _ (by omega) (by omega), b8 _ (by omega) (by omega)]
        exact d4 hq k k0 k1
  · refine ⟨by rw [o 9 (by omega), e 5 (by omega)]; exact cd.1, fun k k0 k1 => ?_⟩
    rw [e 5 (by omega)] at k1
    have w9 : ∀ v9, 0 ≤ v9 → dr (wrtP r p f n (pr r p 0)) k v9 = dr r k v9 := fun v9 v0 => e _ (by omega)
    rw [o 10 (by omega), o 11 (by omega), o 12 (by omega), w9 0 (by decide), w9 1 (by decide), w9 2 (by decide)]
    exact cd.2 k k0 k1
  · refine ⟨by rw [o 13 (by omega), e 11 (by omega)]; exact cl.1, fun k c k0 k1 c0 c1 => ?_⟩
    rw [e 11 (by omega)] at k1 ⊢
    rw [o 14 (by omega)]
    have w9 : gr (wrtP r p f n (pr r p 0)) k c = gr r k c := e _ (by omega)
    rw [w9]
    exact cl.2 k c k0 k1 c0 c1
  · rw [o 15 (by omega), e (6 + j) (by omega)]
    exact cs j j0 j1
section World4
variable {tb : Tab} {d : Nat} {m : AM} {K : Out → AM → Prop} {S : Nat → Int → Int} {w : Nat} {r : Int → Int}
theorem a122_0 {tb : Tab} {d : Nat} {K : Out → AM → Prop} {ls st : List AV} {m : AM} : At tb d 122 K 0 ls st m = wpB tb (pg.2.1 122) (Runs tb pg d) K (At tb d 122 K) [.aload 0, .getfield 807, .iload 1, .iload 2, .iastore, .bipush 6, .iload 1, .imul, .istore 4, .jsr 13] ls st m := At.eq k122_0
theorem a122_13 {tb : Tab} {d : Nat} {K : Out → AM → Prop} {ls st : List AV} {m : AM} : At tb d 122 K 13 ls st m = wpB tb (pg.2.1 122) (Runs tb pg d) K (At tb d 122 K) [.iload 4, .bipush 6, .iload 1, .imul, .aload 0, .getfield 805, .iload 1, .iaload, .iadd, .if_icmp .ge 57, .aload 0, .getfield 808, .iload 4, .aload 0, .getfield 806, .iload 4, .iaload, .iastore, .aload 0, .getfield 809, .iload 4, .iload 3, .iastore, .iinc 4 1, .goto 13] ls st m := At.eq k122_13
theorem a122_57 {tb : Tab} {d : Nat} {K : Out → AM → Prop} {ls st : List AV} {m : AM} : At tb d 122 K 57 ls st m = wpB tb (pg.2.1 122) (Runs tb pg d) K (At tb d 122 K) [.return_] ls st m := At.eq k122_57
theorem w_122 {p f n : Int} (hw : isW w) (hR : RW S w r) (hA : AB r) (hp : 0 ≤ p ∧ p < r 4) (hK : ∀ T, T = ptS S w p f n (pr r p 0) → K (.inl none) (X T m)) : Runs tb pg (d + 1) 122 [vr w, vi p, vi f, vi n] (X S m) K := by
  have b3 := hA.2.1.1
  have b4 := hA.2.1.2.1
  have b5 := hA.2.1.2.2.1
  have e0 := hR.1.1
  have e4 := hR.1.2.1
  obtain ⟨q1, q2, q3, q4⟩ := hR.2.2.1 p hp.1 hp.2
  have z := AB_pp hA hp.1 hp.2
  have hL13 : (fun i : Int => ∀ (z4 : Int) (T : Nat → Int → Int), z4 = 6 * p + i → (T = ptS S w p f n i) → At tb d 122 K 13 [vr w, vi p, vi f, vi n, vi z4] [] (X T m)) 0 := by
    refine loopZ (fun i : Int => ∀ (z4 : Int) (T : Nat → Int → Int), z4 = 6 * p + i → (T = ptS S w p f n i) → At tb d 122 K 13 [vr w, vi p, vi f, vi n, vi z4] [] (X T m)) (pr r p 0) (by omega) ?_ ?_
    · intro i h0 h1 h9 z4 T hz4 hT
      subst hz4
      have t4 : T (w + 4) p = S (w + 4) p := by rw [hT, ptS_o (by omega) (by omega) (by omega)]
      have t5 : T (w + 5) (6 * p + i) = S (w + 5) (6 * p + i) := by rw [hT, ptS_o (by omega) (by omega) (by omega)]
      rw [a122_13]
      repeat' (first | omega | with_reducible refine h9 _ _ ?_ ?_ | simp only [w_aload, x_g807_w0, w_iload, x_iast, w_iconst, w_imul, w_istore, w_fall, Int.reduceToNat, x_g805_w0, x_iald, w_ialoads, w_ialoadw, w_iadd, w_ifc, cI, x_g808_w0, x_g806_w0, x_g809_w0, w_iinc, lgB, Nat.reduceSub, w_goto, w_return, isA_w1, isA_w2, isA_w3, isA_w4, isA_w5, isA_w6, isA_w7, isA_w8, isA_w10, isA_w11, isA_w12, isA_w14, isA_w15, isA_w16, len_w1, len_w2, len_w3, len_w4, len_w5, len_w6, len_w7, len_w8, len_w10, len_w11, len_w12, len_w14, len_w15, len_w16, Int.cast_ofNat_Int, a122_0, a122_57, R32, List.getElem?_cons_zero, List.getElem?_cons_succ, List.set_cons_zero, List.set_cons_succ, List.cons_append, List.nil_append, List.replicate_succ, List.replicate_zero, List.take_succ_cons, List.take_zero, List.drop_succ_cons, List.drop_zero, List.reverse_cons, List.reverse_nil, List.length_cons, List.length_nil, Option.toList, true_and, and_true, eq_self, ↓reduceIte, not_true_eq_false, not_false_eq_true, true_or, or_true, hw] | with_reducible refine And.intro ?_ ?_ | with_reducible intro _)
      all_goals (try (first | omega | contradiction | (exact ptS_s h0 hT t5)))
    · intro z4 T hz4 hT
      subst hz4
      have t4 : T (w + 4) p = S (w + 4) p := by rw [hT, ptS_o (by omega) (by omega) (by omega)]
      have t5 : T (w + 5) (6 * p + pr r p 0) = S (w + 5) (6 * p + pr r p 0) := by rw [hT, ptS_o (by omega) (by omega) (by omega)]
      rw [a122_13]
      repeat' (first | omega | with_reducible refine hK _ ?_ | simp only [w_aload, x_g807_w0, w_iload, x_iast, w_iconst, w_imul, w_istore, w_fall, Int.reduceToNat, x_g805_w0, x_iald, w_ialoads, w_ialoadw, w_iadd, w_ifc, cI, x_g808_w0, x_g806_w0, x_g809_w0, w_iinc, lgB, Nat.reduceSub, w_goto, w_return, isA_w1, isA_w2, isA_w3, isA_w4, isA_w5, isA_w6, isA_w7, isA_w8, isA_w10, isA_w11, isA_w12, isA_w14, isA_w15, isA_w16, len_w1, len_w2, len_w3, len_w4, len_w5, len_w6, len_w7, len_w8, len_w10, len_w11, len_w12, len_w14, len_w15, len_w16, Int.cast_ofNat_Int, a122_0, a122_57, R32, List.getElem?_cons_zero, List.getElem?_cons_succ, List.set_cons_zero, List.set_cons_succ, List.cons_append, List.nil_append, List.replicate_succ, List.replicate_zero, List.take_succ_cons, List.take_zero, List.drop_succ_cons, List.drop_zero, List.reverse_cons, List.reverse_nil, List.length_cons, List.length_nil, Option.toList, true_and, and_true, eq_self, ↓reduceIte, not_true_eq_false, not_false_eq_true, true_or, or_true, hw] | with_reducible refine And.intro ?_ ?_ | with_reducible intro _)
      all_goals (try (first | omega | contradiction | exact hT))
  refine Runs.of (al := [vr w, vi p, vi f, vi n]) (n := 1) ⟨w, _, _, rfl, xo_w0 hw⟩ rfl rfl trivial ?_
  repeat' (first | omega | with_reducible refine hL13 _ _ ?_ ?_ | simp only [w_aload, x_g807_w0, w_iload, x_iast, w_iconst, w_imul, w_istore, w_fall, Int.reduceToNat, x_g805_w0, x_iald, w_ialoads, w_ialoadw, w_iadd, w_ifc, cI, x_g808_w0, x_g806_w0, x_g809_w0, w_iinc, lgB, Nat.reduceSub, w_goto, w_return, isA_w1, isA_w2, isA_w3, isA_w4, isA_w5, isA_w6, isA_w7, isA_w8, isA_w10, isA_w11, isA_w12, isA_w14, isA_w15, isA_w16, len_w1, len_w2, len_w3, len_w4, len_w5, len_w6, len_w7, len_w8, len_w10, len_w11, len_w12, len_w14, len_w15, len_w16, Int.cast_ofNat_Int, a122_0, a122_57, R32, List.getElem?_cons_zero, List.getElem?_cons_succ, List.set_cons_zero, List.set_cons_succ, List.cons_append, List.nil_append, List.replicate_succ, List.replicate_zero, List.take_succ_cons, List.take_zero, List.drop_succ_cons, List.drop_zero, List.reverse_cons, List.reverse_nil, List.length_cons, List.length_nil, Option.toList, true_and, and_true, eq_self, ↓reduceIte, not_true_eq_false, not_false_eq_true, true_or, or_true, hw] | with_reducible refine And.intro ?_ ?_ | with_reducible intro _)
  all_goals (try (first | omega | (exfalso; assumption) | exact ptS_0))
end World4
