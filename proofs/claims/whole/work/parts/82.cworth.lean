/-! ===== THE CLASS: worths, wrong rows ===== -/
theorem nimM_s {P : Int → Int → Int} {n : Int} (h : 0 ≤ n) : nimM P (n + 1) = xorI (nimM P n) (worthZ (leftM P n (P n 0))) := by
  unfold nimM xorZ
  rw [show (n + 1).toNat = n.toNat + 1 by omega]
  show xorI (xorN _ n.toNat) _ = _
  rw [Int.toNat_of_nonneg h]
theorem wrM_s2 {P : Int → Int → Int} {t : Int → Int} {p i : Int} (h : 0 ≤ i) : wrM P t p (i + 1) = wrM P t p i + if P p (2 + t (2 * i)) = t (2 * i + 1) then 0 else 1 := sumZ_s h
section Names3
variable {tb : Tab} {d : Nat} {m : AM} {K : Out → AM → Prop} {S : Nat → Int → Int} {w : Nat} {r : Int → Int}
theorem k67_0 : pg.1 67 0 = [.iload 0, .bipush 1, .iadd, .bipush 8, .irem, .ireturn] := rfl
theorem a67_0 {tb : Tab} {d : Nat} {K : Out → AM → Prop} {ls st : List AV} {m : AM} : At tb d 67 K 0 ls st m = wpB tb (pg.2.1 67) (Runs tb pg d) K (At tb d 67 K) [.iload 0, .bipush 1, .iadd, .bipush 8, .irem, .ireturn] ls st m := At.eq k67_0
theorem w_67 {x : Int} (hx : 0 ≤ x ∧ x ≤ 10000) (hK : ∀ v, v = (x + 1) % 8 → K (.inl (some (vi v))) m) : Runs tb pg (d + 1) 67 [vi x] m K := by
  refine Runs.of (al := [vi x]) (n := 0) trivial rfl rfl trivial ?_
  repeat' (first | omega | with_reducible refine hK _ ?_ | simp only [w_iload, w_iconst, w_iadd, w_irem, w_ireturn, a67_0, R32, List.getElem?_cons_zero, List.getElem?_cons_succ, List.set_cons_zero, List.set_cons_succ, List.cons_append, List.nil_append, List.replicate_succ, List.replicate_zero, List.take_succ_cons, List.take_zero, List.drop_succ_cons, List.drop_zero, List.reverse_cons, List.reverse_nil, List.length_cons, List.length_nil, Option.toList, true_and, and_true, eq_self, ↓reduceIte, not_true_eq_false, not_false_eq_true, true_or, or_true] | with_reducible refine And.intro ?_ ?_ | with_reducible intro _)
  all_goals (try (first | omega | (exfalso; assumption) | rfl))
theorem k90_0 : pg.1 90 0 = [.iload 0, .ifCond .lt 12, .iload 0, .getstatic 0, .arraylength, .if_icmp .lt 16, .jsr 12] := rfl
theorem a90_0 {tb : Tab} {d : Nat} {K : Out → AM → Prop} {ls st : List AV} {m : AM} : At tb d 90 K 0 ls st m = wpB tb (pg.2.1 90) (Runs tb pg d) K (At tb d 90 K) [.iload 0, .ifCond .lt 12, .iload 0, .getstatic 0, .arraylength, .if_icmp .lt 16, .jsr 12] ls st m := At.eq k90_0
theorem k90_12 : pg.1 90 12 = [.bipush 0, .goto 21] := rfl
theorem a90_12 {tb : Tab} {d : Nat} {K : Out → AM → Prop} {ls st : List AV} {m : AM} : At tb d 90 K 12 ls st m = wpB tb (pg.2.1 90) (Runs tb pg d) K (At tb d 90 K) [.bipush 0, .goto 21] ls st m := At.eq k90_12
theorem k90_16 : pg.1 90 16 = [.getstatic 0, .iload 0, .iaload, .jsr 21] := rfl
theorem a90_16 {tb : Tab} {d : Nat} {K : Out → AM → Prop} {ls st : List AV} {m : AM} : At tb d 90 K 16 ls st m = wpB tb (pg.2.1 90) (Runs tb pg d) K (At tb d 90 K) [.getstatic 0, .iload 0, .iaload, .jsr 21] ls st m := At.eq k90_16
theorem k90_21 : pg.1 90 21 = [.ireturn] := rfl
theorem a90_21 {tb : Tab} {d : Nat} {K : Out → AM → Prop} {ls st : List AV} {m : AM} : At tb d 90 K 21 ls st m = wpB tb (pg.2.1 90) (Runs tb pg d) K (At tb d 90 K) [.ireturn] ls st m := At.eq k90_21
theorem w_90 {i : Int} (hi : 0 ≤ i ∧ i ≤ 6) (hK : ∀ v, v = worthZ i → K (.inl (some (vi v))) m) : Runs tb pg (d + 1) 90 [vi i] m K := by
  refine Runs.of (al := [vi i]) (n := 0) trivial rfl rfl trivial ?_
  repeat' (first | omega | with_reducible refine hK _ ?_ | simp only [w_iload, w_if, cI, Int.reduceToNat, w_worth, w_compact, w_sioobe, x_alen, w_alens, w_alenw, w_alenx, w_ifc, w_fall, w_iconst, w_goto, x_iald, w_ialoads, w_ialoadw, w_ireturn, isA_w1, isA_w2, isA_w3, isA_w4, isA_w5, isA_w6, isA_w7, isA_w8, isA_w10, isA_w11, isA_w12, isA_w14, isA_w15, isA_w16, len_w1, len_w2, len_w3, len_w4, len_w5, len_w6, len_w7, len_w8, len_w10, len_w11, len_w12, len_w14, len_w15, len_w16, Int.cast_ofNat_Int, a90_0, a90_12, a90_16, a90_21, R32, List.getElem?_cons_zero, List.getElem?_cons_succ, List.set_cons_zero, List.set_cons_succ, List.cons_append, List.nil_append, List.replicate_succ, List.replicate_zero, List.take_succ_cons, List.take_zero, List.drop_succ_cons, List.drop_zero, List.reverse_cons, List.reverse_nil, List.length_cons, List.length_nil, Option.toList, true_and, and_true, eq_self, ↓reduceIte, not_true_eq_false, not_false_eq_true, true_or, or_true] | with_reducible refine And.intro ?_ ?_ | with_reducible intro _)
  all_goals (try (first | omega | (exfalso; assumption) | rfl))
theorem k91_0 : pg.1 91 0 = [.bipush 0, .istore 1, .bipush 0, .istore 2, .jsr 4] := rfl
theorem a91_0 {tb : Tab} {d : Nat} {K : Out → AM → Prop} {ls st : List AV} {m : AM} : At tb d 91 K 0 ls st m = wpB tb (pg.2.1 91) (Runs tb pg d) K (At tb d 91 K) [.bipush 0, .istore 1, .bipush 0, .istore 2, .jsr 4] ls st m := At.eq k91_0
theorem k91_4 : pg.1 91 4 = [.iload 2, .aload 0, .getfield 804, .if_icmp .ge 29, .iload 1, .aload 0, .iload 2, .invokeinterface 117 2, .invokeinterface 90 1, .ixor, .istore 1, .iinc 2 1, .goto 4] := rfl
theorem a91_4 {tb : Tab} {d : Nat} {K : Out → AM → Prop} {ls st : List AV} {m : AM} : At tb d 91 K 4 ls st m = wpB tb (pg.2.1 91) (Runs tb pg d) K (At tb d 91 K) [.iload 2, .aload 0, .getfield 804, .if_icmp .ge 29, .iload 1, .aload 0, .iload 2, .invokeinterface 117 2, .invokeinterface 90 1, .ixor, .istore 1, .iinc 2 1, .goto 4] ls st m := At.eq k91_4
theorem k91_29 : pg.1 91 29 = [.iload 1, .ireturn] := rfl
theorem a91_29 {tb : Tab} {d : Nat} {K : Out → AM → Prop} {ls st : List AV} {m : AM} : At tb d 91 K 29 ls st m = wpB tb (pg.2.1 91) (Runs tb pg d) K (At tb d 91 K) [.iload 1, .ireturn] ls st m := At.eq k91_29
theorem w_91 (hw : isW w) (hR : RW S w r) (hA : AB r) (hK : ∀ v, v = nimM (pr r) (r 4) → K (.inl (some (vi v))) (X S m)) : Runs tb pg (d + 2) 91 [vr w] (X S m) K := by
  have b3 := hA.2.1.1
  have b4 := hA.2.1.2.1
  have b5 := hA.2.1.2.2.1
  have e0 := hR.1.1
  have e4 := hR.1.2.1
  have hL4 : (fun i : Int => ∀ (a : Int), a = nimM (pr r) i → At tb (d + 1) 91 K 4 [vr w, vi a, vi i] [] (X S m)) 0 := by
    refine loopZ (fun i : Int => ∀ (a : Int), a = nimM (pr r) i → At tb (d + 1) 91 K 4 [vr w, vi a, vi i] [] (X S m)) (r 4) (by omega) ?_ ?_
    · intro i h0 h1 h9 a ha
      have z := AB_pp hA h0 h1
      have l := leftM_le (P := pr r) (p := i) (n := pr r i 0) (by omega)
      rw [a91_4]
      repeat' (first | omega | with_reducible refine h9 _ ?_ | simp only [w_iconst, w_istore, w_fall, Int.reduceToNat, w_iload, w_aload, x_g804_w0, w_ifc, cI, w_call, w_ixor, w_iinc, lgB, Nat.reduceSub, w_goto, w_ireturn, a91_0, a91_29, R32, List.getElem?_cons_zero, List.getElem?_cons_succ, List.set_cons_zero, List.set_cons_succ, List.cons_append, List.nil_append, List.replicate_succ, List.replicate_zero, List.take_succ_cons, List.take_zero, List.drop_succ_cons, List.drop_zero, List.reverse_cons, List.reverse_nil, List.length_cons, List.length_nil, Option.toList, true_and, and_true, eq_self, ↓reduceIte, not_true_eq_false, not_false_eq_true, true_or, or_true, hw] | with_reducible refine w_117 hw hR hA ⟨h0, h1⟩ (fun v1 x1 => ?_) | with_reducible refine w_90 ?_ (fun v2 x2 => ?_) | with_reducible refine And.intro ?_ ?_ | with_reducible intro _)
      all_goals (try (first | omega | contradiction | (rw [nimM_s h0, ha, x2, x1])))
    · intro a ha
      rw [a91_4]
      repeat' (first | omega | with_reducible refine hK _ ?_ | simp only [w_iconst, w_istore, w_fall, Int.reduceToNat, w_iload, w_aload, x_g804_w0, w_ifc, cI, w_call, w_ixor, w_iinc, lgB, Nat.reduceSub, w_goto, w_ireturn, a91_0, a91_29, R32, List.getElem?_cons_zero, List.getElem?_cons_succ, List.set_cons_zero, List.set_cons_succ, List.cons_append, List.nil_append, List.replicate_succ, List.replicate_zero, List.take_succ_cons, List.take_zero, List.drop_succ_cons, List.drop_zero, List.reverse_cons, List.reverse_nil, List.length_cons, List.length_nil, Option.toList, true_and, and_true, eq_self, ↓reduceIte, not_true_eq_false, not_false_eq_true, true_or, or_true, hw] | with_reducible refine w_117 hw hR hA ⟨h0, h1⟩ (fun v1 x1 => ?_) | with_reducible refine w_90 ?_ (fun v2 x2 => ?_) | with_reducible refine And.intro ?_ ?_ | with_reducible intro _)
      all_goals (try (first | omega | contradiction | omega))
  refine Runs.of (al := [vr w]) (n := 2) trivial rfl rfl trivial ?_
  repeat' (first | omega | with_reducible refine hL4 _ ?_ | simp only [w_iconst, w_istore, w_fall, Int.reduceToNat, w_iload, w_aload, x_g804_w0, w_ifc, cI, w_call, w_ixor, w_iinc, lgB, Nat.reduceSub, w_goto, w_ireturn, a91_0, a91_29, R32, List.getElem?_cons_zero, List.getElem?_cons_succ, List.set_cons_zero, List.set_cons_succ, List.cons_append, List.nil_append, List.replicate_succ, List.replicate_zero, List.take_succ_cons, List.take_zero, List.drop_succ_cons, List.drop_zero, List.reverse_cons, List.reverse_nil, List.length_cons, List.length_nil, Option.toList, true_and, and_true, eq_self, ↓reduceIte, not_true_eq_false, not_false_eq_true, true_or, or_true, hw] | with_reducible refine And.intro ?_ ?_ | with_reducible intro _)
  all_goals (try (first | omega | (exfalso; assumption) | rfl))
theorem k57_0 : pg.1 57 0 = [.bipush 0, .istore 4, .bipush 0, .istore 5, .jsr 6] := rfl
theorem a57_0 {tb : Tab} {d : Nat} {K : Out → AM → Prop} {ls st : List AV} {m : AM} : At tb d 57 K 0 ls st m = wpB tb (pg.2.1 57) (Runs tb pg d) K (At tb d 57 K) [.bipush 0, .istore 4, .bipush 0, .istore 5, .jsr 6] ls st m := At.eq k57_0
theorem k57_6 : pg.1 57 6 = [.iload 5, .bipush 1, .iadd, .iload 3, .if_icmp .ge 41, .aload 0, .iload 1, .aload 2, .iload 5, .iaload, .invokeinterface 56 3, .aload 2, .iload 5, .bipush 1, .iadd, .iaload, .if_icmp .eq 35, .iinc 4 1, .jsr 35] := rfl
theorem a57_6 {tb : Tab} {d : Nat} {K : Out → AM → Prop} {ls st : List AV} {m : AM} : At tb d 57 K 6 ls st m = wpB tb (pg.2.1 57) (Runs tb pg d) K (At tb d 57 K) [.iload 5, .bipush 1, .iadd, .iload 3, .if_icmp .ge 41, .aload 0, .iload 1, .aload 2, .iload 5, .iaload, .invokeinterface 56 3, .aload 2, .iload 5, .bipush 1, .iadd, .iaload, .if_icmp .eq 35, .iinc 4 1, .jsr 35] ls st m := At.eq k57_6
theorem k57_35 : pg.1 57 35 = [.iinc 5 2, .goto 6] := rfl
theorem a57_35 {tb : Tab} {d : Nat} {K : Out → AM → Prop} {ls st : List AV} {m : AM} : At tb d 57 K 35 ls st m = wpB tb (pg.2.1 57) (Runs tb pg d) K (At tb d 57 K) [.iinc 5 2, .goto 6] ls st m := At.eq k57_35
theorem k57_41 : pg.1 57 41 = [.iload 4, .ireturn] := rfl
theorem a57_41 {tb : Tab} {d : Nat} {K : Out → AM → Prop} {ls st : List AV} {m : AM} : At tb d 57 K 41 ls st m = wpB tb (pg.2.1 57) (Runs tb pg d) K (At tb d 57 K) [.iload 4, .ireturn] ls st m := At.eq k57_41
theorem w_57 {p n : Int} (hw : isW w) (hR : RW S w r) (hA : AB r) (hV : GV r) (hp : 0 ≤ p ∧ p < r 4) (hn : (0 ≤ n ∧ n ≤ 40) ∧ n % 2 = 0) (hr : ∀ j, 0 ≤ j → j < n / 2 → (0 ≤ S 1 (2 * j) ∧ S 1 (2 * j) < 6) ∧ (0 ≤ S 1 (2 * j + 1) ∧ S 1 (2 * j + 1) < 256)) (hK : ∀ v, v = wrM (pr r) (S 1) p (n / 2) → K (.inl (some (vi v))) (X S m)) : Runs tb pg (d + 2) 57 [vr w, vi p, vr 1, vi n] (X S m) K := by
  have b3 := hA.2.1.1
  have b4 := hA.2.1.2.1
  have b5 := hA.2.1.2.2.1
  have e0 := hR.1.1
  have e4 := hR.1.2.1
  have hL6 : (fun j : Int => ∀ (a : Int) (i : Int), a = wrM (pr r) (S 1) p j → i = 2 * j → At tb (d + 1) 57 K 6 [vr w, vi p, vr 1, vi n, vi a, vi i] [] (X S m)) 0 := by
    refine loopZ (fun j : Int => ∀ (a : Int) (i : Int), a = wrM (pr r) (S 1) p j → i = 2 * j → At tb (d + 1) 57 K 6 [vr w, vi p, vr 1, vi n, vi a, vi i] [] (X S m)) (n / 2) (by omega) ?_ ?_
    · intro j h0 h1 h9 a i ha hi
      subst hi
      have u := hr j h0 h1
      have w1 := wrM_rg (P := pr r) (t := S 1) (p := p) h0
      rw [a57_6]
      repeat' (first | omega | with_reducible refine h9 _ _ ?_ ?_ | simp only [w_iconst, w_istore, w_fall, Int.reduceToNat, w_iload, w_iadd, w_ifc, cI, w_aload, x_iald, w_ialoads, w_ialoadw, w_call, w_iinc, lgB, Nat.reduceSub, w_goto, w_ireturn, isA_w1, isA_w2, isA_w3, isA_w4, isA_w5, isA_w6, isA_w7, isA_w8, isA_w10, isA_w11, isA_w12, isA_w14, isA_w15, isA_w16, len_w1, len_w2, len_w3, len_w4, len_w5, len_w6, len_w7, len_w8, len_w10, len_w11, len_w12, len_w14, len_w15, len_w16, Int.cast_ofNat_Int, a57_0, a57_35, a57_41, R32, List.getElem?_cons_zero, List.getElem?_cons_succ, List.set_cons_zero, List.set_cons_succ, List.cons_append, List.nil_append, List.replicate_succ, List.replicate_zero, List.take_succ_cons, List.take_zero, List.drop_succ_cons, List.drop_zero, List.reverse_cons, List.reverse_nil, List.length_cons, List.length_nil, Option.toList, true_and, and_true, eq_self, ↓reduceIte, not_true_eq_false, not_false_eq_true, true_or, or_true, hw, isA_1, len_1, Int.cast_ofNat_Int] | with_reducible refine w_56 hw hR hA hV hp ?_ (fun v1 x1 x2 x3 => ?_) | with_reducible refine And.intro ?_ ?_ | with_reducible intro _)
      all_goals (try (first | omega | contradiction | (rw [wrM_s2 h0]; split <;> omega)))
    · intro a i ha hi
      subst hi
      rw [a57_6]
      repeat' (first | omega | with_reducible refine hK _ ?_ | simp only [w_iconst, w_istore, w_fall, Int.reduceToNat, w_iload, w_iadd, w_ifc, cI, w_aload, x_iald, w_ialoads, w_ialoadw, w_call, w_iinc, lgB, Nat.reduceSub, w_goto, w_ireturn, isA_w1, isA_w2, isA_w3, isA_w4, isA_w5, isA_w6, isA_w7, isA_w8, isA_w10, isA_w11, isA_w12, isA_w14, isA_w15, isA_w16, len_w1, len_w2, len_w3, len_w4, len_w5, len_w6, len_w7, len_w8, len_w10, len_w11, len_w12, len_w14, len_w15, len_w16, Int.cast_ofNat_Int, a57_0, a57_35, a57_41, R32, List.getElem?_cons_zero, List.getElem?_cons_succ, List.set_cons_zero, List.set_cons_succ, List.cons_append, List.nil_append, List.replicate_succ, List.replicate_zero, List.take_succ_cons, List.take_zero, List.drop_succ_cons, List.drop_zero, List.reverse_cons, List.reverse_nil, List.length_cons, List.length_nil, Option.toList, true_and, and_true, eq_self, ↓reduceIte, not_true_eq_false, not_false_eq_true, true_or, or_true, hw, isA_1, len_1, Int.cast_ofNat_Int] | with_reducible refine w_56 hw hR hA hV hp ?_ (fun v1 x1 x2 x3 => ?_) | with_reducible refine And.intro ?_ ?_ | with_reducible intro _)
      all_goals (try (first | omega | contradiction | exact ha))
  refine Runs.of (al := [vr w, vi p, vr 1, vi n]) (n := 2) trivial rfl rfl trivial ?_
  repeat' (first | omega | with_reducible refine hL6 _ _ ?_ ?_ | simp only [w_iconst, w_istore, w_fall, Int.reduceToNat, w_iload, w_iadd, w_ifc, cI, w_aload, x_iald, w_ialoads, w_ialoadw, w_call, w_iinc, lgB, Nat.reduceSub, w_goto, w_ireturn, isA_w1, isA_w2, isA_w3, isA_w4, isA_w5, isA_w6, isA_w7, isA_w8, isA_w10, isA_w11, isA_w12, isA_w14, isA_w15, isA_w16, len_w1, len_w2, len_w3, len_w4, len_w5, len_w6, len_w7, len_w8, len_w10, len_w11, len_w12, len_w14, len_w15, len_w16, Int.cast_ofNat_Int, a57_0, a57_35, a57_41, R32, List.getElem?_cons_zero, List.getElem?_cons_succ, List.set_cons_zero, List.set_cons_succ, List.cons_append, List.nil_append, List.replicate_succ, List.replicate_zero, List.take_succ_cons, List.take_zero, List.drop_succ_cons, List.drop_zero, List.reverse_cons, List.reverse_nil, List.length_cons, List.length_nil, Option.toList, true_and, and_true, eq_self, ↓reduceIte, not_true_eq_false, not_false_eq_true, true_or, or_true, hw] | with_reducible refine And.intro ?_ ?_ | with_reducible intro _)
  all_goals (try (first | omega | (exfalso; assumption) | rfl))
end Names3
