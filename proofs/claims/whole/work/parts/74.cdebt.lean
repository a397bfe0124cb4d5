/-! ===== THE CLASS: debts and the log ===== -/
theorem AB_dd {r : Int → Int} (hA : AB r) {k : Int} (h0 : 0 ≤ k) (h1 : k < r 5) : (0 ≤ dr r k 0 ∧ dr r k 0 < 6) ∧ (0 ≤ dr r k 1 ∧ dr r k 1 < 6) ∧ (-1 ≤ dr r k 2 ∧ dr r k 2 ≤ 10000) ∧ k < 8 := by
  have a := hA.2.1.2.2.1
  have b := hA.2.2.2.2.1 k h0 h1
  have c := hA.1 (151 + 3 * k + 2) (by omega)
  exact ⟨b.1, b.2, c, by omega⟩
theorem sumN_sub {f g : Int → Int} : ∀ m : Nat, sumN f m - sumN g m = sumN (fun k => f k - g k) m
  | 0 => rfl
  | m + 1 => by
    have ih := sumN_sub (f := f) (g := g) m
    show (sumN f m + f m) - (sumN g m + g m) = sumN (fun k => f k - g k) m + (f m - g m)
    rw [← ih]
    omega
theorem owesM_eq {D : Int → Int → Int} {n p : Int} (h : 0 ≤ n) : owesM D n p = sumZ n (fun k => (if D k 0 = p then D k 2 else 0) - (if D k 1 = p then D k 2 else 0)) := sumN_sub (f := fun k => if D k 0 = p then D k 2 else 0) (g := fun k => if D k 1 = p then D k 2 else 0) n.toNat
section World3
variable {tb : Tab} {d : Nat} {m : AM} {K : Out → AM → Prop} {S : Nat → Int → Int} {w : Nat} {r : Int → Int}
theorem a16_0 {tb : Tab} {d : Nat} {K : Out → AM → Prop} {ls st : List AV} {m : AM} : At tb d 16 K 0 ls st m = wpB tb (pg.2.1 16) (Runs tb pg d) K (At tb d 16 K) [.bipush 0, .istore 1, .bipush 0, .istore 2, .jsr 4] ls st m := At.eq k16_0
theorem a16_4 {tb : Tab} {d : Nat} {K : Out → AM → Prop} {ls st : List AV} {m : AM} : At tb d 16 K 4 ls st m = wpB tb (pg.2.1 16) (Runs tb pg d) K (At tb d 16 K) [.iload 2, .aload 0, .getfield 0, .if_icmp .ge 27, .iload 1, .aload 0, .getfield 3, .iload 2, .iaload, .iadd, .istore 1, .iinc 2 1, .goto 4] ls st m := At.eq k16_4
theorem a16_27 {tb : Tab} {d : Nat} {K : Out → AM → Prop} {ls st : List AV} {m : AM} : At tb d 16 K 27 ls st m = wpB tb (pg.2.1 16) (Runs tb pg d) K (At tb d 16 K) [.iload 1, .ireturn] ls st m := At.eq k16_27
theorem w_16 (hw : isW w) (hR : RW S w r) (hA : AB r)  (hK : ∀ v, v = sumZ (r 5) (fun k => dr r k 2) → K (.inl (some (vi v))) (X S m)) : Runs tb pg (d + 1) 16 [vr (w + 9)] (X S m) K := by
  have b3 := hA.2.1.1
  have b4 := hA.2.1.2.1
  have b5 := hA.2.1.2.2.1
  have e0 := hR.1.1
  have e4 := hR.1.2.1
  have d0 := hR.2.2.2.1.1
  have l0 := hR.2.2.2.2.1.1
  have b11 := hA.2.1.2.2.2.2.2.2.1
  have hL4 : (fun i : Int => ∀ (a : Int), a = sumZ i (fun k => dr r k 2) → At tb d 16 K 4 [vr (w + 9), vi a, vi i] [] (X S m)) 0 := by
    refine loopZ (fun i : Int => ∀ (a : Int), a = sumZ i (fun k => dr r k 2) → At tb d 16 K 4 [vr (w + 9), vi a, vi i] [] (X S m)) (r 5) (by omega) ?_ ?_
    · intro i h0 h1 h9 a ha
      obtain ⟨q1, q2, q3⟩ := hR.2.2.2.1.2 i h0 h1
      have z := AB_dd hA h0 h1
      rw [a16_4]
      repeat' (first | omega | with_reducible refine h9 _ ?_ | simp only [w_iconst, w_istore, w_fall, Int.reduceToNat, w_iload, w_aload, x_g0_w9, w_ifc, cI, x_g3_w9, x_iald, w_ialoads, w_ialoadw, w_iadd, w_iinc, lgB, Nat.reduceSub, w_goto, w_ireturn, isA_w1, isA_w2, isA_w3, isA_w4, isA_w5, isA_w6, isA_w7, isA_w8, isA_w10, isA_w11, isA_w12, isA_w14, isA_w15, isA_w16, len_w1, len_w2, len_w3, len_w4, len_w5, len_w6, len_w7, len_w8, len_w10, len_w11, len_w12, len_w14, len_w15, len_w16, Int.cast_ofNat_Int, a16_0, a16_27, R32, List.getElem?_cons_zero, List.getElem?_cons_succ, List.set_cons_zero, List.set_cons_succ, List.cons_append, List.nil_append, List.replicate_succ, List.replicate_zero, List.take_succ_cons, List.take_zero, List.drop_succ_cons, List.drop_zero, List.reverse_cons, List.reverse_nil, List.length_cons, List.length_nil, Option.toList, true_and, and_true, eq_self, ↓reduceIte, not_true_eq_false, not_false_eq_true, true_or, or_true, hw] | with_reducible refine And.intro ?_ ?_ | with_reducible intro _)
      all_goals (try (first | omega | contradiction | (rw [sumZ_s h0]; omega)))
    · intro a ha
      rw [a16_4]
      repeat' (first | omega | with_reducible refine hK _ ?_ | simp only [w_iconst, w_istore, w_fall, Int.reduceToNat, w_iload, w_aload, x_g0_w9, w_ifc, cI, x_g3_w9, x_iald, w_ialoads, w_ialoadw, w_iadd, w_iinc, lgB, Nat.reduceSub, w_goto, w_ireturn, isA_w1, isA_w2, isA_w3, isA_w4, isA_w5, isA_w6, isA_w7, isA_w8, isA_w10, isA_w11, isA_w12, isA_w14, isA_w15, isA_w16, len_w1, len_w2, len_w3, len_w4, len_w5, len_w6, len_w7, len_w8, len_w10, len_w11, len_w12, len_w14, len_w15, len_w16, Int.cast_ofNat_Int, a16_0, a16_27, R32, List.getElem?_cons_zero, List.getElem?_cons_succ, List.set_cons_zero, List.set_cons_succ, List.cons_append, List.nil_append, List.replicate_succ, List.replicate_zero, List.take_succ_cons, List.take_zero, List.drop_succ_cons, List.drop_zero, List.reverse_cons, List.reverse_nil, List.length_cons, List.length_nil, Option.toList, true_and, and_true, eq_self, ↓reduceIte, not_true_eq_false, not_false_eq_true, true_or, or_true, hw] | with_reducible refine And.intro ?_ ?_ | with_reducible intro _)
      all_goals (try (first | omega | contradiction | omega))
  refine Runs.of (al := [vr (w + 9)]) (n := 2) ⟨w + 9, _, _, rfl, xo_w9 hw⟩ rfl rfl trivial ?_
  repeat' (first | omega | with_reducible refine hL4 _ ?_ | simp only [w_iconst, w_istore, w_fall, Int.reduceToNat, w_iload, w_aload, x_g0_w9, w_ifc, cI, x_g3_w9, x_iald, w_ialoads, w_ialoadw, w_iadd, w_iinc, lgB, Nat.reduceSub, w_goto, w_ireturn, isA_w1, isA_w2, isA_w3, isA_w4, isA_w5, isA_w6, isA_w7, isA_w8, isA_w10, isA_w11, isA_w12, isA_w14, isA_w15, isA_w16, len_w1, len_w2, len_w3, len_w4, len_w5, len_w6, len_w7, len_w8, len_w10, len_w11, len_w12, len_w14, len_w15, len_w16, Int.cast_ofNat_Int, a16_0, a16_27, R32, List.getElem?_cons_zero, List.getElem?_cons_succ, List.set_cons_zero, List.set_cons_succ, List.cons_append, List.nil_append, List.replicate_succ, List.replicate_zero, List.take_succ_cons, List.take_zero, List.drop_succ_cons, List.drop_zero, List.reverse_cons, List.reverse_nil, List.length_cons, List.length_nil, Option.toList, true_and, and_true, eq_self, ↓reduceIte, not_true_eq_false, not_false_eq_true, true_or, or_true, hw] | with_reducible refine And.intro ?_ ?_ | with_reducible intro _)
  all_goals (try (first | omega | (exfalso; assumption) | rfl))
theorem a17_0 {tb : Tab} {d : Nat} {K : Out → AM → Prop} {ls st : List AV} {m : AM} : At tb d 17 K 0 ls st m = wpB tb (pg.2.1 17) (Runs tb pg d) K (At tb d 17 K) [.bipush 0, .istore 2, .bipush 0, .istore 3, .jsr 4] ls st m := At.eq k17_0
theorem a17_4 {tb : Tab} {d : Nat} {K : Out → AM → Prop} {ls st : List AV} {m : AM} : At tb d 17 K 4 ls st m = wpB tb (pg.2.1 17) (Runs tb pg d) K (At tb d 17 K) [.iload 3, .aload 0, .getfield 0, .if_icmp .ge 37, .aload 0, .getfield 1, .iload 3, .iaload, .iload 1, .if_icmp .ne 31, .iload 2, .aload 0, .getfield 3, .iload 3, .iaload, .iadd, .istore 2, .jsr 31] ls st m := At.eq k17_4
theorem a17_31 {tb : Tab} {d : Nat} {K : Out → AM → Prop} {ls st : List AV} {m : AM} : At tb d 17 K 31 ls st m = wpB tb (pg.2.1 17) (Runs tb pg d) K (At tb d 17 K) [.iinc 3 1, .goto 4] ls st m := At.eq k17_31
theorem a17_37 {tb : Tab} {d : Nat} {K : Out → AM → Prop} {ls st : List AV} {m : AM} : At tb d 17 K 37 ls st m = wpB tb (pg.2.1 17) (Runs tb pg d) K (At tb d 17 K) [.iload 2, .ireturn] ls st m := At.eq k17_37
theorem w_17 {p : Int} (hw : isW w) (hR : RW S w r) (hA : AB r) (hp : R32 p) (hK : ∀ v, v = owedByM (dr r) (r 5) p → K (.inl (some (vi v))) (X S m)) : Runs tb pg (d + 1) 17 [vr (w + 9), vi p] (X S m) K := by
  have b3 := hA.2.1.1
  have b4 := hA.2.1.2.1
  have b5 := hA.2.1.2.2.1
  have e0 := hR.1.1
  have e4 := hR.1.2.1
  have d0 := hR.2.2.2.1.1
  have l0 := hR.2.2.2.2.1.1
  have b11 := hA.2.1.2.2.2.2.2.2.1
  unfold R32 at hp
  have hL4 : (fun i : Int => ∀ (a : Int), a = owedByM (dr r) i p → At tb d 17 K 4 [vr (w + 9), vi p, vi a, vi i] [] (X S m)) 0 := by
    refine loopZ (fun i : Int => ∀ (a : Int), a = owedByM (dr r) i p → At tb d 17 K 4 [vr (w + 9), vi p, vi a, vi i] [] (X S m)) (r 5) (by omega) ?_ ?_
    · intro i h0 h1 h9 a ha
      obtain ⟨q1, q2, q3⟩ := hR.2.2.2.1.2 i h0 h1
      have z := AB_dd hA h0 h1
      rw [a17_4]
      repeat' (first | omega | with_reducible refine h9 _ ?_ | simp only [w_iconst, w_istore, w_fall, Int.reduceToNat, w_iload, w_aload, x_g0_w9, w_ifc, cI, x_g1_w9, x_iald, w_ialoads, w_ialoadw, x_g3_w9, w_iadd, w_iinc, lgB, Nat.reduceSub, w_goto, w_ireturn, isA_w1, isA_w2, isA_w3, isA_w4, isA_w5, isA_w6, isA_w7, isA_w8, isA_w10, isA_w11, isA_w12, isA_w14, isA_w15, isA_w16, len_w1, len_w2, len_w3, len_w4, len_w5, len_w6, len_w7, len_w8, len_w10, len_w11, len_w12, len_w14, len_w15, len_w16, Int.cast_ofNat_Int, a17_0, a17_31, a17_37, R32, List.getElem?_cons_zero, List.getElem?_cons_succ, List.set_cons_zero, List.set_cons_succ, List.cons_append, List.nil_append, List.replicate_succ, List.replicate_zero, List.take_succ_cons, List.take_zero, List.drop_succ_cons, List.drop_zero, List.reverse_cons, List.reverse_nil, List.length_cons, List.length_nil, Option.toList, true_and, and_true, eq_self, ↓reduceIte, not_true_eq_false, not_false_eq_true, true_or, or_true, hw] | with_reducible refine And.intro ?_ ?_ | with_reducible intro _)
      all_goals (try (first | omega | contradiction | (unfold owedByM at ha ⊢; rw [sumZ_s h0]; split <;> omega)))
    · intro a ha
      rw [a17_4]
      repeat' (first | omega | with_reducible refine hK _ ?_ | simp only [w_iconst, w_istore, w_fall, Int.reduceToNat, w_iload, w_aload, x_g0_w9, w_ifc, cI, x_g1_w9, x_iald, w_ialoads, w_ialoadw, x_g3_w9, w_iadd, w_iinc, lgB, Nat.reduceSub, w_goto, w_ireturn, isA_w1, isA_w2, isA_w3, isA_w4, isA_w5, isA_w6, isA_w7, isA_w8, isA_w10, isA_w11, isA_w12, isA_w14, isA_w15, isA_w16, len_w1, len_w2, len_w3, len_w4, len_w5, len_w6, len_w7, len_w8, len_w10, len_w11, len_w12, len_w14, len_w15, len_w16, Int.cast_ofNat_Int, a17_0, a17_31, a17_37, R32, List.getElem?_cons_zero, List.getElem?_cons_succ, List.set_cons_zero, List.set_cons_succ, List.cons_append, List.nil_append, List.replicate_succ, List.replicate_zero, List.take_succ_cons, List.take_zero, List.drop_succ_cons, List.drop_zero, List.reverse_cons, List.reverse_nil, List.length_cons, List.length_nil, Option.toList, true_and, and_true, eq_self, ↓reduceIte, not_true_eq_false, not_false_eq_true, true_or, or_true, hw] | with_reducible refine And.intro ?_ ?_ | with_reducible intro _)
      all_goals (try (first | omega | contradiction | omega))
  refine Runs.of (al := [vr (w + 9), vi p]) (n := 2) ⟨w + 9, _, _, rfl, xo_w9 hw⟩ rfl rfl trivial ?_
  repeat' (first | omega | with_reducible refine hL4 _ ?_ | simp only [w_iconst, w_istore, w_fall, Int.reduceToNat, w_iload, w_aload, x_g0_w9, w_ifc, cI, x_g1_w9, x_iald, w_ialoads, w_ialoadw, x_g3_w9, w_iadd, w_iinc, lgB, Nat.reduceSub, w_goto, w_ireturn, isA_w1, isA_w2, isA_w3, isA_w4, isA_w5, isA_w6, isA_w7, isA_w8, isA_w10, isA_w11, isA_w12, isA_w14, isA_w15, isA_w16, len_w1, len_w2, len_w3, len_w4, len_w5, len_w6, len_w7, len_w8, len_w10, len_w11, len_w12, len_w14, len_w15, len_w16, Int.cast_ofNat_Int, a17_0, a17_31, a17_37, R32, List.getElem?_cons_zero, List.getElem?_cons_succ, List.set_cons_zero, List.set_cons_succ, List.cons_append, List.nil_append, List.replicate_succ, List.replicate_zero, List.take_succ_cons, List.take_zero, List.drop_succ_cons, List.drop_zero, List.reverse_cons, List.reverse_nil, List.length_cons, List.length_nil, Option.toList, true_and, and_true, eq_self, ↓reduceIte, not_true_eq_false, not_false_eq_true, true_or, or_true, hw] | with_reducible refine And.intro ?_ ?_ | with_reducible intro _)
  all_goals (try (first | omega | (exfalso; assumption) | rfl))
theorem a18_0 {tb : Tab} {d : Nat} {K : Out → AM → Prop} {ls st : List AV} {m : AM} : At tb d 18 K 0 ls st m = wpB tb (pg.2.1 18) (Runs tb pg d) K (At tb d 18 K) [.bipush 0, .istore 2, .bipush 0, .istore 3, .jsr 4] ls st m := At.eq k18_0
theorem a18_4 {tb : Tab} {d : Nat} {K : Out → AM → Prop} {ls st : List AV} {m : AM} : At tb d 18 K 4 ls st m = wpB tb (pg.2.1 18) (Runs tb pg d) K (At tb d 18 K) [.iload 3, .aload 0, .getfield 0, .if_icmp .ge 56, .aload 0, .getfield 1, .iload 3, .iaload, .iload 1, .if_icmp .ne 31, .iload 2, .aload 0, .getfield 3, .iload 3, .iaload, .iadd, .istore 2, .jsr 31] ls st m := At.eq k18_4
theorem a18_31 {tb : Tab} {d : Nat} {K : Out → AM → Prop} {ls st : List AV} {m : AM} : At tb d 18 K 31 ls st m = wpB tb (pg.2.1 18) (Runs tb pg d) K (At tb d 18 K) [.aload 0, .getfield 2, .iload 3, .iaload, .iload 1, .if_icmp .ne 50, .iload 2, .aload 0, .getfield 3, .iload 3, .iaload, .isub, .istore 2, .jsr 50] ls st m := At.eq k18_31
theorem a18_50 {tb : Tab} {d : Nat} {K : Out → AM → Prop} {ls st : List AV} {m : AM} : At tb d 18 K 50 ls st m = wpB tb (pg.2.1 18) (Runs tb pg d) K (At tb d 18 K) [.iinc 3 1, .goto 4] ls st m := At.eq k18_50
theorem a18_56 {tb : Tab} {d : Nat} {K : Out → AM → Prop} {ls st : List AV} {m : AM} : At tb d 18 K 56 ls st m = wpB tb (pg.2.1 18) (Runs tb pg d) K (At tb d 18 K) [.iload 2, .ireturn] ls st m := At.eq k18_56
theorem w_18 {p : Int} (hw : isW w) (hR : RW S w r) (hA : AB r) (hp : R32 p) (hK : ∀ v, v = owesM (dr r) (r 5) p → K (.inl (some (vi v))) (X S m)) : Runs tb pg (d + 1) 18 [vr (w + 9), vi p] (X S m) K := by
  have b3 := hA.2.1.1
  have b4 := hA.2.1.2.1
  have b5 := hA.2.1.2.2.1
  have e0 := hR.1.1
  have e4 := hR.1.2.1
  have d0 := hR.2.2.2.1.1
  have l0 := hR.2.2.2.2.1.1
  have b11 := hA.2.1.2.2.2.2.2.2.1
  unfold R32 at hp
  have hL4 : (fun i : Int => ∀ (a : Int), a = sumZ i (fun k => (if dr r k 0 = p then dr r k 2 else 0) - (if dr r k 1 = p then dr r k 2 else 0)) → At tb d 18 K 4 [vr (w + 9), vi p, vi a, vi i] [] (X S m)) 0 := by
    refine loopZ (fun i : Int => ∀ (a : Int), a = sumZ i (fun k => (if dr r k 0 = p then dr r k 2 else 0) - (if dr r k 1 = p then dr r k 2 else 0)) → At tb d 18 K 4 [vr (w + 9), vi p, vi a, vi i] [] (X S m)) (r 5) (by omega) ?_ ?_
    · intro i h0 h1 h9 a ha
      obtain ⟨q1, q2, q3⟩ := hR.2.2.2.1.2 i h0 h1
      have z := AB_dd hA h0 h1
      rw [a18_4]
      repeat' (first | omega | with_reducible refine h9 _ ?_ | simp only [w_iconst, w_istore, w_fall, Int.reduceToNat, w_iload, w_aload, x_g0_w9, w_ifc, cI, x_g1_w9, x_iald, w_ialoads, w_ialoadw, x_g3_w9, w_iadd, x_g2_w9, w_isub, w_iinc, lgB, Nat.reduceSub, w_goto, w_ireturn, isA_w1, isA_w2, isA_w3, isA_w4, isA_w5, isA_w6, isA_w7, isA_w8, isA_w10, isA_w11, isA_w12, isA_w14, isA_w15, isA_w16, len_w1, len_w2, len_w3, len_w4, len_w5, len_w6, len_w7, len_w8, len_w10, len_w11, len_w12, len_w14, len_w15, len_w16, Int.cast_ofNat_Int, a18_0, a18_31, a18_50, a18_56, R32, List.getElem?_cons_zero, List.getElem?_cons_succ, List.set_cons_zero, List.set_cons_succ, List.cons_append, List.nil_append, List.replicate_succ, List.replicate_zero, List.take_succ_cons, List.take_zero, List.drop_succ_cons, List.drop_zero, List.reverse_cons, List.reverse_nil, List.length_cons, List.length_nil, Option.toList, true_and, and_true, eq_self, ↓reduceIte, not_true_eq_false, not_false_eq_true, true_or, or_true, hw] | with_reducible refine And.intro ?_ ?_ | with_reducible intro _)
      all_goals (try (first | omega | contradiction | (rw [sumZ_s h0, ha]; split <;> split <;> omega)))
    · intro a ha
      rw [a18_4]
      repeat' (first | omega | with_reducible refine hK _ ?_ | simp only [w_iconst, w_istore, w_fall, Int.reduceToNat, w_iload, w_aload, x_g0_w9, w_ifc, cI, x_g1_w9, x_iald, w_ialoads, w_ialoadw, x_g3_w9, w_iadd, x_g2_w9, w_isub, w_iinc, lgB, Nat.reduceSub, w_goto, w_ireturn, isA_w1, isA_w2, isA_w3, isA_w4, isA_w5, isA_w6, isA_w7, isA_w8, isA_w10, isA_w11, isA_w12, isA_w14, isA_w15, isA_w16, len_w1, len_w2, len_w3, len_w4, len_w5, len_w6, len_w7, len_w8, len_w10, len_w11, len_w12, len_w14, len_w15, len_w16, Int.cast_ofNat_Int, a18_0, a18_31, a18_50, a18_56, R32, List.getElem?_cons_zero, List.getElem?_cons_succ, List.set_cons_zero, List.set_cons_succ, List.cons_append, List.nil_append, List.replicate_succ, List.replicate_zero, List.take_succ_cons, List.take_zero, List.drop_succ_cons, List.drop_zero, List.reverse_cons, List.reverse_nil, List.length_cons, List.length_nil, Option.toList, true_and, and_true, eq_self, ↓reduceIte, not_true_eq_false, not_false_eq_true, true_or, or_true, hw] | with_reducible refine And.intro ?_ ?_ | with_reducible intro _)
      all_goals (try (first | omega | contradiction | (rw [owesM_eq b5.1]; exact ha)))
  refine Runs.of (al := [vr (w + 9), vi p]) (n := 2) ⟨w + 9, _, _, rfl, xo_w9 hw⟩ rfl rfl trivial ?_
  repeat' (first | omega | with_reducible refine hL4 _ ?_ | simp only [w_iconst, w_istore, w_fall, Int.reduceToNat, w_iload, w_aload, x_g0_w9, w_ifc, cI, x_g1_w9, x_iald, w_ialoads, w_ialoadw, x_g3_w9, w_iadd, x_g2_w9, w_isub, w_iinc, lgB, Nat.reduceSub, w_goto, w_ireturn, isA_w1, isA_w2, isA_w3, isA_w4, isA_w5, isA_w6, isA_w7, isA_w8, isA_w10, isA_w11, isA_w12, isA_w14, isA_w15, isA_w16, len_w1, len_w2, len_w3, len_w4, len_w5, len_w6, len_w7, len_w8, len_w10, len_w11, len_w12, len_w14, len_w15, len_w16, Int.cast_ofNat_Int, a18_0, a18_31, a18_50, a18_56, R32, List.getElem?_cons_zero, List.getElem?_cons_succ, List.set_cons_zero, List.set_cons_succ, List.cons_append, List.nil_append, List.replicate_succ, List.replicate_zero, List.take_succ_cons, List.take_zero, List.drop_succ_cons, List.drop_zero, List.reverse_cons, List.reverse_nil, List.length_cons, List.length_nil, Option.toList, true_and, and_true, eq_self, ↓reduceIte, not_true_eq_false, not_false_eq_true, true_or, or_true, hw] | with_reducible refine And.intro ?_ ?_ | with_reducible intro _)
  all_goals (try (first | omega | (exfalso; assumption) | rfl))
theorem a19_0 {tb : Tab} {d : Nat} {K : Out → AM → Prop} {ls st : List AV} {m : AM} : At tb d 19 K 0 ls st m = wpB tb (pg.2.1 19) (Runs tb pg d) K (At tb d 19 K) [.bipush 0, .istore 2, .bipush 0, .istore 3, .jsr 4] ls st m := At.eq k19_0
theorem a19_4 {tb : Tab} {d : Nat} {K : Out → AM → Prop} {ls st : List AV} {m : AM} : At tb d 19 K 4 ls st m = wpB tb (pg.2.1 19) (Runs tb pg d) K (At tb d 19 K) [.iload 3, .bipush 6, .if_icmp .ge 33, .iload 1, .iload 3, .ishr, .bipush 1, .iand, .bipush 1, .if_icmp .ne 27, .iload 2, .aload 0, .iload 3, .invokeinterface 18 2, .iadd, .istore 2, .jsr 27] ls st m := At.eq k19_4
theorem a19_27 {tb : Tab} {d : Nat} {K : Out → AM → Prop} {ls st : List AV} {m : AM} : At tb d 19 K 27 ls st m = wpB tb (pg.2.1 19) (Runs tb pg d) K (At tb d 19 K) [.iinc 3 1, .goto 4] ls st m := At.eq k19_27
theorem a19_33 {tb : Tab} {d : Nat} {K : Out → AM → Prop} {ls st : List AV} {m : AM} : At tb d 19 K 33 ls st m = wpB tb (pg.2.1 19) (Runs tb pg d) K (At tb d 19 K) [.iload 2, .ireturn] ls st m := At.eq k19_33
theorem w_19 {s : Int} (hw : isW w) (hR : RW S w r) (hA : AB r) (hs : R32 s) (hK : ∀ v, v = balM (dr r) (r 5) 6 s → K (.inl (some (vi v))) (X S m)) : Runs tb pg (d + 2) 19 [vr (w + 9), vi s] (X S m) K := by
  have b3 := hA.2.1.1
  have b4 := hA.2.1.2.1
  have b5 := hA.2.1.2.2.1
  have e0 := hR.1.1
  have e4 := hR.1.2.1
  have d0 := hR.2.2.2.1.1
  have l0 := hR.2.2.2.2.1.1
  have b11 := hA.2.1.2.2.2.2.2.2.1
  unfold R32 at hs
  have hL4 : (fun i : Int => ∀ (a : Int), a = balM (dr r) (r 5) i s → At tb (d + 1) 19 K 4 [vr (w + 9), vi s, vi a, vi i] [] (X S m)) 0 := by
    refine loopZ (fun i : Int => ∀ (a : Int), a = balM (dr r) (r 5) i s → At tb (d + 1) 19 K 4 [vr (w + 9), vi s, vi a, vi i] [] (X S m)) (6) (by omega) ?_ ?_
    · intro i h0 h1 h9 a ha
      have ad := and_rg (shrI s i) 1
      rw [a19_4]
      repeat' (first | omega | with_reducible refine h9 _ ?_ | simp only [w_iconst, w_istore, w_fall, Int.reduceToNat, w_iload, w_ifc, cI, w_ishr, w_iand, w_aload, w_call, w_iadd, w_iinc, lgB, Nat.reduceSub, w_goto, w_ireturn, a19_0, a19_27, a19_33, R32, List.getElem?_cons_zero, List.getElem?_cons_succ, List.set_cons_zero, List.set_cons_succ, List.cons_append, List.nil_append, List.replicate_succ, List.replicate_zero, List.take_succ_cons, List.take_zero, List.drop_succ_cons, List.drop_zero, List.reverse_cons, List.reverse_nil, List.length_cons, List.length_nil, Option.toList, true_and, and_true, eq_self, ↓reduceIte, not_true_eq_false, not_false_eq_true, true_or, or_true, hw] | with_reducible refine w_18 hw hR hA ?_ (fun v1 x1 => ?_) | with_reducible refine And.intro ?_ ?_ | with_reducible intro _)
      all_goals (try (first | omega | contradiction | (unfold R32; omega) | (unfold balM at ha ⊢; rw [sumZ_s h0]; first | (rw [if_pos (show andI (shrI s i) 1 = 1 by omega)]; omega) | (rw [if_neg (show ¬ andI (shrI s i) 1 = 1 by omega)]; omega))))
    · intro a ha
      rw [a19_4]
      repeat' (first | omega | with_reducible refine hK _ ?_ | simp only [w_iconst, w_istore, w_fall, Int.reduceToNat, w_iload, w_ifc, cI, w_ishr, w_iand, w_aload, w_call, w_iadd, w_iinc, lgB, Nat.reduceSub, w_goto, w_ireturn, a19_0, a19_27, a19_33, R32, List.getElem?_cons_zero, List.getElem?_cons_succ, List.set_cons_zero, List.set_cons_succ, List.cons_append, List.nil_append, List.replicate_succ, List.replicate_zero, List.take_succ_cons, List.take_zero, List.drop_succ_cons, List.drop_zero, List.reverse_cons, List.reverse_nil, List.length_cons, List.length_nil, Option.toList, true_and, and_true, eq_self, ↓reduceIte, not_true_eq_false, not_false_eq_true, true_or, or_true, hw] | with_reducible refine w_18 hw hR hA ?_ (fun v1 x1 => ?_) | with_reducible refine And.intro ?_ ?_ | with_reducible intro _)
      all_goals (try (first | omega | contradiction | omega))
  refine Runs.of (al := [vr (w + 9), vi s]) (n := 2) ⟨w + 9, _, _, rfl, xo_w9 hw⟩ rfl rfl trivial ?_
  repeat' (first | omega | with_reducible refine hL4 _ ?_ | simp only [w_iconst, w_istore, w_fall, Int.reduceToNat, w_iload, w_ifc, cI, w_ishr, w_iand, w_aload, w_call, w_iadd, w_iinc, lgB, Nat.reduceSub, w_goto, w_ireturn, a19_0, a19_27, a19_33, R32, List.getElem?_cons_zero, List.getElem?_cons_succ, List.set_cons_zero, List.set_cons_succ, List.cons_append, List.nil_append, List.replicate_succ, List.replicate_zero, List.take_succ_cons, List.take_zero, List.drop_succ_cons, List.drop_zero, List.reverse_cons, List.reverse_nil, List.length_cons, List.length_nil, Option.toList, true_and, and_true, eq_self, ↓reduceIte, not_true_eq_false, not_false_eq_true, true_or, or_true, hw] | with_reducible refine And.intro ?_ ?_ | with_reducible intro _)
  all_goals (try (first | omega | (exfalso; assumption) | rfl))
theorem a22_0 {tb : Tab} {d : Nat} {K : Out → AM → Prop} {ls st : List AV} {m : AM} : At tb d 22 K 0 ls st m = wpB tb (pg.2.1 22) (Runs tb pg d) K (At tb d 22 K) [.bipush 0, .istore 2, .bipush 0, .istore 3, .jsr 4] ls st m := At.eq k22_0
theorem a22_4 {tb : Tab} {d : Nat} {K : Out → AM → Prop} {ls st : List AV} {m : AM} : At tb d 22 K 4 ls st m = wpB tb (pg.2.1 22) (Runs tb pg d) K (At tb d 22 K) [.iload 3, .aload 0, .getfield 0, .if_icmp .ge 43, .iload 1, .aload 0, .getfield 1, .iload 3, .iaload, .ishr, .bipush 1, .iand, .bipush 1, .if_icmp .ne 37, .iload 2, .bipush 1, .aload 0, .getfield 2, .iload 3, .iaload, .ishl, .ior, .istore 2, .jsr 37] ls st m := At.eq k22_4
theorem a22_37 {tb : Tab} {d : Nat} {K : Out → AM → Prop} {ls st : List AV} {m : AM} : At tb d 22 K 37 ls st m = wpB tb (pg.2.1 22) (Runs tb pg d) K (At tb d 22 K) [.iinc 3 1, .goto 4] ls st m := At.eq k22_37
theorem a22_43 {tb : Tab} {d : Nat} {K : Out → AM → Prop} {ls st : List AV} {m : AM} : At tb d 22 K 43 ls st m = wpB tb (pg.2.1 22) (Runs tb pg d) K (At tb d 22 K) [.iload 2, .ireturn] ls st m := At.eq k22_43
theorem w_22 {s : Int} (hw : isW w) (hR : RW S w r) (hA : AB r)  (hK : ∀ v, isDb (dr r) s (r 5) v → K (.inl (some (vi v))) (X S m)) : Runs tb pg (d + 1) 22 [vr (w + 9), vi s] (X S m) K := by
  have b3 := hA.2.1.1
  have b4 := hA.2.1.2.1
  have b5 := hA.2.1.2.2.1
  have e0 := hR.1.1
  have e4 := hR.1.2.1
  have d0 := hR.2.2.2.1.1
  have l0 := hR.2.2.2.2.1.1
  have b11 := hA.2.1.2.2.2.2.2.2.1
  have hL4 : (fun i : Int => ∀ (a : Int), (isDb (dr r) s i a) → At tb d 22 K 4 [vr (w + 9), vi s, vi a, vi i] [] (X S m)) 0 := by
    refine loopZ (fun i : Int => ∀ (a : Int), (isDb (dr r) s i a) → At tb d 22 K 4 [vr (w + 9), vi s, vi a, vi i] [] (X S m)) (r 5) (by omega) ?_ ?_
    · intro i h0 h1 h9 a ha
      obtain ⟨q1, q2, q3⟩ := hR.2.2.2.1.2 i h0 h1
      have z := AB_dd hA h0 h1
      have ad := and_rg (shrI s (S (w + 10) i)) 1
      rw [a22_4]
      repeat' (first | omega | with_reducible refine h9 _ ?_ | simp only [w_iconst, w_istore, w_fall, Int.reduceToNat, w_iload, w_aload, x_g0_w9, w_ifc, cI, x_g1_w9, x_iald, w_ialoads, w_ialoadw, w_ishr, w_iand, x_g2_w9, w_ishl, w_ior, w_iinc, lgB, Nat.reduceSub, w_goto, w_ireturn, isA_w1, isA_w2, isA_w3, isA_w4, isA_w5, isA_w6, isA_w7, isA_w8, isA_w10, isA_w11, isA_w12, isA_w14, isA_w15, isA_w16, len_w1, len_w2, len_w3, len_w4, len_w5, len_w6, len_w7, len_w8, len_w10, len_w11, len_w12, len_w14, len_w15, len_w16, Int.cast_ofNat_Int, a22_0, a22_37, a22_43, R32, List.getElem?_cons_zero, List.getElem?_cons_succ, List.set_cons_zero, List.set_cons_succ, List.cons_append, List.nil_append, List.replicate_succ, List.replicate_zero, List.take_succ_cons, List.take_zero, List.drop_succ_cons, List.drop_zero, List.reverse_cons, List.reverse_nil, List.length_cons, List.length_nil, Option.toList, true_and, and_true, eq_self, ↓reduceIte, not_true_eq_false, not_false_eq_true, true_or, or_true, hw] | with_reducible refine And.intro ?_ ?_ | with_reducible intro _)
      all_goals (try (first | omega | contradiction | (rw [q2]; refine isDb_y h0 z.2.1 ha ?_; rw [← q1]; exact (show andI (shrI s (S (w + 10) i)) 1 = 1 by omega)) | (refine isDb_n ha ?_; rw [← q1]; exact (show ¬ andI (shrI s (S (w + 10) i)) 1 = 1 by omega))))
    · intro a ha
      rw [a22_4]
      repeat' (first | omega | with_reducible refine hK _ ?_ | simp only [w_iconst, w_istore, w_fall, Int.reduceToNat, w_iload, w_aload, x_g0_w9, w_ifc, cI, x_g1_w9, x_iald, w_ialoads, w_ialoadw, w_ishr, w_iand, x_g2_w9, w_ishl, w_ior, w_iinc, lgB, Nat.reduceSub, w_goto, w_ireturn, isA_w1, isA_w2, isA_w3, isA_w4, isA_w5, isA_w6, isA_w7, isA_w8, isA_w10, isA_w11, isA_w12, isA_w14, isA_w15, isA_w16, len_w1, len_w2, len_w3, len_w4, len_w5, len_w6, len_w7, len_w8, len_w10, len_w11, len_w12, len_w14, len_w15, len_w16, Int.cast_ofNat_Int, a22_0, a22_37, a22_43, R32, List.getElem?_cons_zero, List.getElem?_cons_succ, List.set_cons_zero, List.set_cons_succ, List.cons_append, List.nil_append, List.replicate_succ, List.replicate_zero, List.take_succ_cons, List.take_zero, List.drop_succ_cons, List.drop_zero, List.reverse_cons, List.reverse_nil, List.length_cons, List.length_nil, Option.toList, true_and, and_true, eq_self, ↓reduceIte, not_true_eq_false, not_false_eq_true, true_or, or_true, hw] | with_reducible refine And.intro ?_ ?_ | with_reducible intro _)
      all_goals (try (first | omega | contradiction | exact ha))
  refine Runs.of (al := [vr (w + 9), vi s]) (n := 2) ⟨w + 9, _, _, rfl, xo_w9 hw⟩ rfl rfl trivial ?_
  repeat' (first | omega | with_reducible refine hL4 _ ?_ | simp only [w_iconst, w_istore, w_fall, Int.reduceToNat, w_iload, w_aload, x_g0_w9, w_ifc, cI, x_g1_w9, x_iald, w_ialoads, w_ialoadw, w_ishr, w_iand, x_g2_w9, w_ishl, w_ior, w_iinc, lgB, Nat.reduceSub, w_goto, w_ireturn, isA_w1, isA_w2, isA_w3, isA_w4, isA_w5, isA_w6, isA_w7, isA_w8, isA_w10, isA_w11, isA_w12, isA_w14, isA_w15, isA_w16, len_w1, len_w2, len_w3, len_w4, len_w5, len_w6, len_w7, len_w8, len_w10, len_w11, len_w12, len_w14, len_w15, len_w16, Int.cast_ofNat_Int, a22_0, a22_37, a22_43, R32, List.getElem?_cons_zero, List.getElem?_cons_succ, List.set_cons_zero, List.set_cons_succ, List.cons_append, List.nil_append, List.replicate_succ, List.replicate_zero, List.take_succ_cons, List.take_zero, List.drop_succ_cons, List.drop_zero, List.reverse_cons, List.reverse_nil, List.length_cons, List.length_nil, Option.toList, true_and, and_true, eq_self, ↓reduceIte, not_true_eq_false, not_false_eq_true, true_or, or_true, hw] | with_reducible refine And.intro ?_ ?_ | with_reducible intro _)
  all_goals (try (first | omega | (exfalso; assumption) | exact isDb_0))
theorem a51_0 {tb : Tab} {d : Nat} {K : Out → AM → Prop} {ls st : List AV} {m : AM} : At tb d 51 K 0 ls st m = wpB tb (pg.2.1 51) (Runs tb pg d) K (At tb d 51 K) [.iload 1, .ifCond .lt 12, .iload 1, .aload 0, .getfield 400, .if_icmp .lt 14, .jsr 12] ls st m := At.eq k51_0
theorem a51_12 {tb : Tab} {d : Nat} {K : Out → AM → Prop} {ls st : List AV} {m : AM} : At tb d 51 K 12 ls st m = wpB tb (pg.2.1 51) (Runs tb pg d) K (At tb d 51 K) [.bipush (-1), .ireturn] ls st m := At.eq k51_12
theorem a51_14 {tb : Tab} {d : Nat} {K : Out → AM → Prop} {ls st : List AV} {m : AM} : At tb d 51 K 14 ls st m = wpB tb (pg.2.1 51) (Runs tb pg d) K (At tb d 51 K) [.aload 0, .getfield 401, .bipush 4, .aload 0, .getfield 400, .bipush 1, .isub, .iload 1, .isub, .imul, .iload 2, .iadd, .iaload, .ireturn] ls st m := At.eq k51_14
theorem w_51 {k c : Int} (hw : isW w) (hR : RW S w r) (hA : AB r) (hk : R32 k) (hc : 0 ≤ c ∧ c < 4) (hK : ∀ v, v = (if 0 ≤ k ∧ k < r 11 then gr r k c else -1) → K (.inl (some (vi v))) (X S m)) : Runs tb pg (d + 1) 51 [vr (w + 13), vi k, vi c] (X S m) K := by
  refine Runs.of (al := [vr (w + 13), vi k, vi c]) (n := 0) ⟨w + 13, _, _, rfl, xo_w13 hw⟩ rfl rfl trivial ?_
  have b3 := hA.2.1.1
  have b4 := hA.2.1.2.1
  have b5 := hA.2.1.2.2.1
  have e0 := hR.1.1
  have e4 := hR.1.2.1
  have d0 := hR.2.2.2.1.1
  have l0 := hR.2.2.2.2.1.1
  have b11 := hA.2.1.2.2.2.2.2.2.1
  unfold R32 at hk
  have q : 0 ≤ k → k < r 11 → S (w + 14) (4 * (r 11 - 1 - k) + c) = gr r k c := fun k0 k1 => hR.2.2.2.2.1.2 k c k0 k1 hc.1 hc.2
  repeat' (first | omega | with_reducible refine hK _ ?_ | simp only [w_iload, w_if, cI, Int.reduceToNat, w_aload, x_g400_w13, w_ifc, w_fall, w_iconst, w_ireturn, x_g401_w13, w_isub, w_imul, w_iadd, x_iald, w_ialoads, w_ialoadw, isA_w1, isA_w2, isA_w3, isA_w4, isA_w5, isA_w6, isA_w7, isA_w8, isA_w10, isA_w11, isA_w12, isA_w14, isA_w15, isA_w16, len_w1, len_w2, len_w3, len_w4, len_w5, len_w6, len_w7, len_w8, len_w10, len_w11, len_w12, len_w14, len_w15, len_w16, Int.cast_ofNat_Int, a51_0, a51_12, a51_14, R32, List.getElem?_cons_zero, List.getElem?_cons_succ, List.set_cons_zero, List.set_cons_succ, List.cons_append, List.nil_append, List.replicate_succ, List.replicate_zero, List.take_succ_cons, List.take_zero, List.drop_succ_cons, List.drop_zero, List.reverse_cons, List.reverse_nil, List.length_cons, List.length_nil, Option.toList, true_and, and_true, eq_self, ↓reduceIte, not_true_eq_false, not_false_eq_true, true_or, or_true, hw] | with_reducible refine And.intro ?_ ?_ | with_reducible intro _)
  all_goals (try (first | omega | (exfalso; assumption) | (rw [if_neg (by omega)]) | (rw [if_pos (by omega), ← q (by omega) (by omega), l0])))
theorem a52_0 {tb : Tab} {d : Nat} {K : Out → AM → Prop} {ls st : List AV} {m : AM} : At tb d 52 K 0 ls st m = wpB tb (pg.2.1 52) (Runs tb pg d) K (At tb d 52 K) [.bipush 0, .istore 2, .bipush 0, .istore 3, .jsr 4] ls st m := At.eq k52_0
theorem a52_4 {tb : Tab} {d : Nat} {K : Out → AM → Prop} {ls st : List AV} {m : AM} : At tb d 52 K 4 ls st m = wpB tb (pg.2.1 52) (Runs tb pg d) K (At tb d 52 K) [.iload 3, .aload 0, .getfield 400, .if_icmp .ge 31, .aload 0, .iload 3, .bipush 1, .invokeinterface 51 3, .iload 1, .if_icmp .ne 25, .iinc 2 1, .jsr 25] ls st m := At.eq k52_4
theorem a52_25 {tb : Tab} {d : Nat} {K : Out → AM → Prop} {ls st : List AV} {m : AM} : At tb d 52 K 25 ls st m = wpB tb (pg.2.1 52) (Runs tb pg d) K (At tb d 52 K) [.iinc 3 1, .goto 4] ls st m := At.eq k52_25
theorem a52_31 {tb : Tab} {d : Nat} {K : Out → AM → Prop} {ls st : List AV} {m : AM} : At tb d 52 K 31 ls st m = wpB tb (pg.2.1 52) (Runs tb pg d) K (At tb d 52 K) [.iload 2, .ireturn] ls st m := At.eq k52_31
theorem w_52 {p : Int} (hw : isW w) (hR : RW S w r) (hA : AB r) (hp : R32 p) (hK : ∀ v, v = sumZ (r 11) (fun k => if gr r k 1 = p then 1 else 0) → K (.inl (some (vi v))) (X S m)) : Runs tb pg (d + 2) 52 [vr (w + 13), vi p] (X S m) K := by
  have b3 := hA.2.1.1
  have b4 := hA.2.1.2.1
  have b5 := hA.2.1.2.2.1
  have e0 := hR.1.1
  have e4 := hR.1.2.1
  have d0 := hR.2.2.2.1.1
  have l0 := hR.2.2.2.2.1.1
  have b11 := hA.2.1.2.2.2.2.2.2.1
  unfold R32 at hp
  have hL4 : (fun i : Int => ∀ (a : Int), a = sumZ i (fun k => if gr r k 1 = p then 1 else 0) → At tb (d + 1) 52 K 4 [vr (w + 13), vi p, vi a, vi i] [] (X S m)) 0 := by
    refine loopZ (fun i : Int => ∀ (a : Int), a = sumZ i (fun k => if gr r k 1 = p then 1 else 0) → At tb (d + 1) 52 K 4 [vr (w + 13), vi p, vi a, vi i] [] (X S m)) (r 11) (by omega) ?_ ?_
    · intro i h0 h1 h9 a ha
      have z := hA.1 (175 + 4 * i + 1) (by omega)
      have z2 : gr r i 1 = r (175 + 4 * i + 1) := rfl
      rw [a52_4]
      repeat' (first | omega | with_reducible refine h9 _ ?_ | simp only [w_iconst, w_istore, w_fall, Int.reduceToNat, w_iload, w_aload, x_g400_w13, w_ifc, cI, w_call, w_iinc, lgB, Nat.reduceSub, w_goto, w_ireturn, a52_0, a52_25, a52_31, R32, List.getElem?_cons_zero, List.getElem?_cons_succ, List.set_cons_zero, List.set_cons_succ, List.cons_append, List.nil_append, List.replicate_succ, List.replicate_zero, List.take_succ_cons, List.take_zero, List.drop_succ_cons, List.drop_zero, List.reverse_cons, List.reverse_nil, List.length_cons, List.length_nil, Option.toList, true_and, and_true, eq_self, ↓reduceIte, not_true_eq_false, not_false_eq_true, true_or, or_true, hw] | with_reducible refine w_51 hw hR hA ?_ ?_ (fun v1 x1 => ?_) | (rw [if_pos (by omega)] at x1; have x2 := x1; clear x1) | with_reducible refine And.intro ?_ ?_ | with_reducible intro _)
      all_goals (try (first | omega | contradiction | (unfold R32; omega) | (rw [sumZ_s h0]; split <;> omega)))
    · intro a ha
      rw [a52_4]
      repeat' (first | omega | with_reducible refine hK _ ?_ | simp only [w_iconst, w_istore, w_fall, Int.reduceToNat, w_iload, w_aload, x_g400_w13, w_ifc, cI, w_call, w_iinc, lgB, Nat.reduceSub, w_goto, w_ireturn, a52_0, a52_25, a52_31, R32, List.getElem?_cons_zero, List.getElem?_cons_succ, List.set_cons_zero, List.set_cons_succ, List.cons_append, List.nil_append, List.replicate_succ, List.replicate_zero, List.take_succ_cons, List.take_zero, List.drop_succ_cons, List.drop_zero, List.reverse_cons, List.reverse_nil, List.length_cons, List.length_nil, Option.toList, true_and, and_true, eq_self, ↓reduceIte, not_true_eq_false, not_false_eq_true, true_or, or_true, hw] | with_reducible refine w_51 hw hR hA ?_ ?_ (fun v1 x1 => ?_) | (rw [if_pos (by omega)] at x1; have x2 := x1; clear x1) | with_reducible refine And.intro ?_ ?_ | with_reducible intro _)
      all_goals (try (first | omega | contradiction | omega))
  refine Runs.of (al := [vr (w + 13), vi p]) (n := 2) ⟨w + 13, _, _, rfl, xo_w13 hw⟩ rfl rfl trivial ?_
  repeat' (first | omega | with_reducible refine hL4 _ ?_ | simp only [w_iconst, w_istore, w_fall, Int.reduceToNat, w_iload, w_aload, x_g400_w13, w_ifc, cI, w_call, w_iinc, lgB, Nat.reduceSub, w_goto, w_ireturn, a52_0, a52_25, a52_31, R32, List.getElem?_cons_zero, List.getElem?_cons_succ, List.set_cons_zero, List.set_cons_succ, List.cons_append, List.nil_append, List.replicate_succ, List.replicate_zero, List.take_succ_cons, List.take_zero, List.drop_succ_cons, List.drop_zero, List.reverse_cons, List.reverse_nil, List.length_cons, List.length_nil, Option.toList, true_and, and_true, eq_self, ↓reduceIte, not_true_eq_false, not_false_eq_true, true_or, or_true, hw] | with_reducible refine And.intro ?_ ?_ | with_reducible intro _)
  all_goals (try (first | omega | (exfalso; assumption) | rfl))
theorem a53_0 {tb : Tab} {d : Nat} {K : Out → AM → Prop} {ls st : List AV} {m : AM} : At tb d 53 K 0 ls st m = wpB tb (pg.2.1 53) (Runs tb pg d) K (At tb d 53 K) [.bipush 0, .istore 2, .jsr 2] ls st m := At.eq k53_0
theorem a53_2 {tb : Tab} {d : Nat} {K : Out → AM → Prop} {ls st : List AV} {m : AM} : At tb d 53 K 2 ls st m = wpB tb (pg.2.1 53) (Runs tb pg d) K (At tb d 53 K) [.iload 2, .aload 0, .getfield 400, .if_icmp .ge 33, .aload 0, .iload 2, .bipush 1, .invokeinterface 51 3, .iload 1, .if_icmp .ne 27, .aload 0, .iload 2, .bipush 0, .invokeinterface 51 3, .ireturn] ls st m := At.eq k53_2
theorem a53_27 {tb : Tab} {d : Nat} {K : Out → AM → Prop} {ls st : List AV} {m : AM} : At tb d 53 K 27 ls st m = wpB tb (pg.2.1 53) (Runs tb pg d) K (At tb d 53 K) [.iinc 2 1, .goto 2] ls st m := At.eq k53_27
theorem a53_33 {tb : Tab} {d : Nat} {K : Out → AM → Prop} {ls st : List AV} {m : AM} : At tb d 53 K 33 ls st m = wpB tb (pg.2.1 53) (Runs tb pg d) K (At tb d 53 K) [.bipush (-1), .ireturn] ls st m := At.eq k53_33
theorem w_53 {p : Int} (hw : isW w) (hR : RW S w r) (hA : AB r) (hp : R32 p) (hK : ∀ v, ((v = -1 ∧ ∀ k, 0 ≤ k → k < r 11 → gr r k 1 ≠ p) ∨ (∃ q, 0 ≤ q ∧ q < r 11 ∧ gr r q 1 = p ∧ v = gr r q 0 ∧ ∀ k, 0 ≤ k → k < q → gr r k 1 ≠ p)) → K (.inl (some (vi v))) (X S m)) : Runs tb pg (d + 2) 53 [vr (w + 13), vi p] (X S m) K := by
  have b3 := hA.2.1.1
  have b4 := hA.2.1.2.1
  have b5 := hA.2.1.2.2.1
  have e0 := hR.1.1
  have e4 := hR.1.2.1
  have d0 := hR.2.2.2.1.1
  have l0 := hR.2.2.2.2.1.1
  have b11 := hA.2.1.2.2.2.2.2.2.1
  unfold R32 at hp
  have hL2 : (fun i : Int => (noB (fun k => gr r k 1 = p) i) → At tb (d + 1) 53 K 2 [vr (w + 13), vi p, vi i] [] (X S m)) 0 := by
    refine loopZ (fun i : Int => (noB (fun k => gr r k 1 = p) i) → At tb (d + 1) 53 K 2 [vr (w + 13), vi p, vi i] [] (X S m)) (r 11) (by omega) ?_ ?_
    · intro i h0 h1 h9  hf
      have z := hA.1 (175 + 4 * i + 1) (by omega)
      have z2 : gr r i 1 = r (175 + 4 * i + 1) := rfl
      rw [a53_2]
      repeat' (first | omega | with_reducible refine h9  ?_ | with_reducible refine hK _ ?_ | simp only [w_iconst, w_istore, w_fall, Int.reduceToNat, w_iload, w_aload, x_g400_w13, w_ifc, cI, w_call, w_ireturn, w_iinc, lgB, Nat.reduceSub, w_goto, a53_0, a53_27, a53_33, R32, List.getElem?_cons_zero, List.getElem?_cons_succ, List.set_cons_zero, List.set_cons_succ, List.cons_append, List.nil_append, List.replicate_succ, List.replicate_zero, List.take_succ_cons, List.take_zero, List.drop_succ_cons, List.drop_zero, List.reverse_cons, List.reverse_nil, List.length_cons, List.length_nil, Option.toList, true_and, and_true, eq_self, ↓reduceIte, not_true_eq_false, not_false_eq_true, true_or, or_true, hw] | with_reducible refine w_51 hw hR hA ?_ ?_ (fun v1 x1 => ?_) | (rw [if_pos (by omega)] at x1; have x2 := x1; clear x1) | with_reducible refine And.intro ?_ ?_ | with_reducible intro _)
      all_goals (try (first | omega | contradiction | (unfold R32; omega) | (exact Or.inr ⟨i, h0, h1, by omega, by assumption, fun k k0 k1 => hf k k0 k1⟩) | (intro o o0 o1; by_cases z : o = i; (subst z; omega); exact hf o o0 (by omega))))
    · intro  hf
      rw [a53_2]
      repeat' (first | omega | with_reducible refine hK _ ?_ | simp only [w_iconst, w_istore, w_fall, Int.reduceToNat, w_iload, w_aload, x_g400_w13, w_ifc, cI, w_call, w_ireturn, w_iinc, lgB, Nat.reduceSub, w_goto, a53_0, a53_27, a53_33, R32, List.getElem?_cons_zero, List.getElem?_cons_succ, List.set_cons_zero, List.set_cons_succ, List.cons_append, List.nil_append, List.replicate_succ, List.replicate_zero, List.take_succ_cons, List.take_zero, List.drop_succ_cons, List.drop_zero, List.reverse_cons, List.reverse_nil, List.length_cons, List.length_nil, Option.toList, true_and, and_true, eq_self, ↓reduceIte, not_true_eq_false, not_false_eq_true, true_or, or_true, hw] | with_reducible refine w_51 hw hR hA ?_ ?_ (fun v1 x1 => ?_) | (rw [if_pos (by omega)] at x1; have x2 := x1; clear x1) | with_reducible refine And.intro ?_ ?_ | with_reducible intro _)
      all_goals (try (first | omega | contradiction | (exact Or.inl hf) | (exact Or.inl ⟨rfl, hf⟩)))
  refine Runs.of (al := [vr (w + 13), vi p]) (n := 1) ⟨w + 13, _, _, rfl, xo_w13 hw⟩ rfl rfl trivial ?_
  repeat' (first | omega | with_reducible refine hL2 ?_ | simp only [w_iconst, w_istore, w_fall, Int.reduceToNat, w_iload, w_aload, x_g400_w13, w_ifc, cI, w_call, w_ireturn, w_iinc, lgB, Nat.reduceSub, w_goto, a53_0, a53_27, a53_33, R32, List.getElem?_cons_zero, List.getElem?_cons_succ, List.set_cons_zero, List.set_cons_succ, List.cons_append, List.nil_append, List.replicate_succ, List.replicate_zero, List.take_succ_cons, List.take_zero, List.drop_succ_cons, List.drop_zero, List.reverse_cons, List.reverse_nil, List.length_cons, List.length_nil, Option.toList, true_and, and_true, eq_self, ↓reduceIte, not_true_eq_false, not_false_eq_true, true_or, or_true, hw] | with_reducible refine And.intro ?_ ?_ | with_reducible intro _)
  all_goals (try (first | omega | (exfalso; assumption) | (intro o o0 o1; omega)))
end World3
