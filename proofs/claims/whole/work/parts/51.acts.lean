/-! ===== THE REFERENCE: acts ===== -/
theorem rm_1 {S : Nat → Int → Int} : rmS S 301 = S 301 := rfl
theorem rm_12 {S : Nat → Int → Int} : rmS S 312 = S 312 := rfl
theorem ABr {S : Nat → Int → Int} (h : AB (S 301)) : AB (rmS S 301) := h
theorem up_0 {S : Nat → Int → Int} {v : Int} : upS S 300 0 v 300 0 = v := by rw [upS_at]; rfl
theorem up_6 {S : Nat → Int → Int} {v : Int} : upS S 300 0 v 300 6 = S 300 6 := by rw [upS_at]; rfl
theorem put_f {S : Nat → Int → Int} {r : Int → Int} {f v : Int} : fR (sR S (putR r (13 + 3 * f + 1) v)) f 1 = v := if_pos rfl
theorem rm_0 {S : Nat → Int → Int} : rmS S 300 0 = S 300 0 := rfl
section Ref24
variable {tb : Tab} {d : Nat} {m : AM} {K : Out → AM → Prop} {S : Nat → Int → Int} {ev : LawD → Int → (Int → Int) → Int} {good : LawD → Prop}
theorem k283_0 : pg.1 283 0 = [.aload 0, .invokeinterface 282 1, .aload 0, .getfield 1001, .iload 1, .iaload, .istore 3, .aload 0, .getfield 1001, .iload 1, .iload 2, .iastore, .iload 3, .ireturn] := rfl
theorem a283_0 {tb : Tab} {d : Nat} {K : Out → AM → Prop} {ls st : List AV} {m : AM} : At tb d 283 K 0 ls st m = wpB tb (pg.2.1 283) (Runs tb pg d) K (At tb d 283 K) [.aload 0, .invokeinterface 282 1, .aload 0, .getfield 1001, .iload 1, .iaload, .istore 3, .aload 0, .getfield 1001, .iload 1, .iload 2, .iastore, .iload 3, .ireturn] ls st m := At.eq k283_0
theorem q_283 {w v : Int} (h6 : 0 ≤ S 300 6 ∧ S 300 6 ≤ 12) (hw : 0 ≤ w ∧ w < 415) (hK : K (.inl (some (vi (S 301 w)))) (X (sR (rmS S) (putR (S 301) w v)) m)) : Runs tb pg (d + 2) 283 [vr 300, vi w, vi v] (X S m) K := by
  refine Runs.of (al := [vr 300, vi w, vi v]) (n := 1) ⟨300, _, _, rfl, xo_300⟩ rfl rfl trivial ?_
  repeat' (first | exact hK | simp only [w_aload, w_call, x_g1001_300, w_iload, x_iald, w_ialoads, w_ialoadw, w_istore, x_iast, w_ireturn, isA_301, isA_302, isA_303, isA_304, isA_305, isA_306, isA_307, isA_308, isA_309, isA_310, isA_311, isA_312, isA_313, isA_314, isA_315, len_301, len_302, len_303, len_304, len_305, len_306, len_307, len_308, len_309, len_310, len_311, len_312, len_313, len_314, len_315, Int.cast_ofNat_Int, a283_0, R32, List.getElem?_cons_zero, List.getElem?_cons_succ, List.set_cons_zero, List.set_cons_succ, List.cons_append, List.nil_append, List.replicate_succ, List.replicate_zero, List.take_succ_cons, List.take_zero, List.drop_succ_cons, List.drop_zero, List.reverse_cons, List.reverse_nil, List.length_cons, List.length_nil, Option.toList, true_and, and_true, eq_self, ↓reduceIte, not_true_eq_false, not_false_eq_true, true_or, or_true, upS_upS, upS_at, up300, up300b, oR3, fR3, dR3, lgR3, valM3, Int.reduceEq, Nat.reduceEqDiff, and_self, and_true, and_false, false_and, if_true, if_false, upS_301, sR_sR, sR_r, sR_0, rm_1, rm_0, up_6] | refine q_282 (by simpa only [up_6] using h6) ?_ | with_reducible refine And.intro ?_ ?_ | with_reducible intro _)
  all_goals (try (first | omega | contradiction | ((try clear hK); (try clear hK0); (try clear hB); (try clear h9); (try clear h8); (try clear h7); (try simp only [oR3, fR3, dR3, lgR3, valM3, up300, up300b] at *); first | done | omega | grind)))
theorem k290_0 : pg.1 290 0 = [.aload 0, .aload 0, .iload 1, .invokeinterface 209 2, .ifCond .ne 13, .bipush 1, .goto 28] := rfl
theorem a290_0 {tb : Tab} {d : Nat} {K : Out → AM → Prop} {ls st : List AV} {m : AM} : At tb d 290 K 0 ls st m = wpB tb (pg.2.1 290) (Runs tb pg d) K (At tb d 290 K) [.aload 0, .aload 0, .iload 1, .invokeinterface 209 2, .ifCond .ne 13, .bipush 1, .goto 28] ls st m := At.eq k290_0
theorem k290_13 : pg.1 290 13 = [.iload 2, .bipush 0, .bipush 9, .invokeinterface 200 3, .ifCond .ne 27, .bipush 2, .goto 28] := rfl
theorem a290_13 {tb : Tab} {d : Nat} {K : Out → AM → Prop} {ls st : List AV} {m : AM} : At tb d 290 K 13 ls st m = wpB tb (pg.2.1 290) (Runs tb pg d) K (At tb d 290 K) [.iload 2, .bipush 0, .bipush 9, .invokeinterface 200 3, .ifCond .ne 27, .bipush 2, .goto 28] ls st m := At.eq k290_13
theorem k290_27 : pg.1 290 27 = [.bipush 0, .jsr 28] := rfl
theorem a290_27 {tb : Tab} {d : Nat} {K : Out → AM → Prop} {ls st : List AV} {m : AM} : At tb d 290 K 27 ls st m = wpB tb (pg.2.1 290) (Runs tb pg d) K (At tb d 290 K) [.bipush 0, .jsr 28] ls st m := At.eq k290_27
theorem k290_28 : pg.1 290 28 = [.putfield 1000, .aload 0, .getfield 1000, .ifCond .le 42, .bipush 0, .goto 55] := rfl
theorem a290_28 {tb : Tab} {d : Nat} {K : Out → AM → Prop} {ls st : List AV} {m : AM} : At tb d 290 K 28 ls st m = wpB tb (pg.2.1 290) (Runs tb pg d) K (At tb d 290 K) [.putfield 1000, .aload 0, .getfield 1000, .ifCond .le 42, .bipush 0, .goto 55] ls st m := At.eq k290_28
theorem k290_42 : pg.1 290 42 = [.aload 0, .bipush 13, .bipush 3, .iload 1, .imul, .iadd, .bipush 0, .iadd, .iload 2, .invokeinterface 283 3, .jsr 55] := rfl
theorem a290_42 {tb : Tab} {d : Nat} {K : Out → AM → Prop} {ls st : List AV} {m : AM} : At tb d 290 K 42 ls st m = wpB tb (pg.2.1 290) (Runs tb pg d) K (At tb d 290 K) [.aload 0, .bipush 13, .bipush 3, .iload 1, .imul, .iadd, .bipush 0, .iadd, .iload 2, .invokeinterface 283 3, .jsr 55] ls st m := At.eq k290_42
theorem k290_55 : pg.1 290 55 = [.ireturn] := rfl
theorem a290_55 {tb : Tab} {d : Nat} {K : Out → AM → Prop} {ls st : List AV} {m : AM} : At tb d 290 K 55 ls st m = wpB tb (pg.2.1 290) (Runs tb pg d) K (At tb d 290 K) [.ireturn] ls st m := At.eq k290_55
theorem q_290 {f n : Int} (hA : AB (S 301)) (h6 : 0 ≤ S 300 6 ∧ S 300 6 ≤ 12) (hf : R32 f) (hn : R32 n) (hK1 : ¬ (0 ≤ f ∧ f < S 301 3) → K (.inl (some (vi 0))) (X (upS S 300 0 1) m)) (hK2 : (0 ≤ f ∧ f < S 301 3) → ¬ (0 ≤ n ∧ n ≤ 9) → K (.inl (some (vi 0))) (X (upS S 300 0 2) m)) (hK : (0 ≤ f ∧ f < S 301 3) → (0 ≤ n ∧ n ≤ 9) → K (.inl (some (vi (S 301 (13 + 3 * f + 0))))) (X (sR (rmS (upS S 300 0 0)) (putR (S 301) (13 + 3 * f + 0) n)) m)) : Runs tb pg (d + 3) 290 [vr 300, vi f, vi n] (X S m) K := by
  refine Runs.of (al := [vr 300, vi f, vi n]) (n := 0) ⟨300, _, _, rfl, xo_300⟩ rfl rfl trivial ?_
  have hB := AB_B hA
  have b3 := hB.2.1
  unfold R32 at hf hn
  repeat' (first | refine hK ?_ ?_ | refine hK1 ?_ | refine hK2 ?_ ?_ | simp only [w_aload, w_iload, w_call, w_if, cI, Int.reduceToNat, w_iconst, w_goto, w_fall, x_p1000_300, x_g1000_300, w_imul, w_iadd, w_ireturn, a290_0, a290_13, a290_27, a290_28, a290_42, a290_55, R32, List.getElem?_cons_zero, List.getElem?_cons_succ, List.set_cons_zero, List.set_cons_succ, List.cons_append, List.nil_append, List.replicate_succ, List.replicate_zero, List.take_succ_cons, List.take_zero, List.drop_succ_cons, List.drop_zero, List.reverse_cons, List.reverse_nil, List.length_cons, List.length_nil, Option.toList, true_and, and_true, eq_self, ↓reduceIte, not_true_eq_false, not_false_eq_true, true_or, or_true, upS_upS, upS_at, up300, up300b, oR3, fR3, dR3, lgR3, valM3, Int.reduceEq, Nat.reduceEqDiff, and_self, and_true, and_false, false_and, if_true, if_false, upS_301, sR_sR, sR_r, sR_0, rm_1, rm_0, up_6] | refine q_200 ?_ ?_ ?_ ?_ | refine q_209 hB ?_ ?_ | refine q_209 (BR3 hB) ?_ ?_ | refine q_283 (S := upS S 300 0 0) (by simpa only [up_6] using h6) ?_ ?_ | with_reducible refine And.intro ?_ ?_ | with_reducible intro _)
  all_goals (try (first | omega | contradiction | ((try clear hK); (try clear hK0); (try clear hB); (try clear h9); (try clear h8); (try clear h7); (try simp only [oR3, fR3, dR3, lgR3, valM3, up300, up300b] at *); first | done | omega | grind)))
theorem k291_0 : pg.1 291 0 = [.aload 0, .aload 0, .iload 1, .invokeinterface 209 2, .ifCond .ne 13, .bipush 1, .goto 28] := rfl
theorem a291_0 {tb : Tab} {d : Nat} {K : Out → AM → Prop} {ls st : List AV} {m : AM} : At tb d 291 K 0 ls st m = wpB tb (pg.2.1 291) (Runs tb pg d) K (At tb d 291 K) [.aload 0, .aload 0, .iload 1, .invokeinterface 209 2, .ifCond .ne 13, .bipush 1, .goto 28] ls st m := At.eq k291_0
theorem k291_13 : pg.1 291 13 = [.iload 2, .bipush 1, .bipush 99, .invokeinterface 200 3, .ifCond .ne 27, .bipush 2, .goto 28] := rfl
theorem a291_13 {tb : Tab} {d : Nat} {K : Out → AM → Prop} {ls st : List AV} {m : AM} : At tb d 291 K 13 ls st m = wpB tb (pg.2.1 291) (Runs tb pg d) K (At tb d 291 K) [.iload 2, .bipush 1, .bipush 99, .invokeinterface 200 3, .ifCond .ne 27, .bipush 2, .goto 28] ls st m := At.eq k291_13
theorem k291_27 : pg.1 291 27 = [.bipush 0, .jsr 28] := rfl
theorem a291_27 {tb : Tab} {d : Nat} {K : Out → AM → Prop} {ls st : List AV} {m : AM} : At tb d 291 K 27 ls st m = wpB tb (pg.2.1 291) (Runs tb pg d) K (At tb d 291 K) [.bipush 0, .jsr 28] ls st m := At.eq k291_27
theorem k291_28 : pg.1 291 28 = [.putfield 1000, .aload 0, .getfield 1000, .ifCond .le 40, .bipush 0, .ireturn] := rfl
theorem a291_28 {tb : Tab} {d : Nat} {K : Out → AM → Prop} {ls st : List AV} {m : AM} : At tb d 291 K 28 ls st m = wpB tb (pg.2.1 291) (Runs tb pg d) K (At tb d 291 K) [.putfield 1000, .aload 0, .getfield 1000, .ifCond .le 40, .bipush 0, .ireturn] ls st m := At.eq k291_28
theorem k291_40 : pg.1 291 40 = [.aload 0, .bipush 13, .bipush 3, .iload 1, .imul, .iadd, .bipush 1, .iadd, .bipush 99, .aload 0, .iload 1, .bipush 1, .invokeinterface 205 3, .iload 2, .iadd, .invokeinterface 201 2, .invokeinterface 283 3, .istore 3, .aload 0, .iload 1, .bipush 1, .invokeinterface 205 3, .ireturn] := rfl
theorem a291_40 {tb : Tab} {d : Nat} {K : Out → AM → Prop} {ls st : List AV} {m : AM} : At tb d 291 K 40 ls st m = wpB tb (pg.2.1 291) (Runs tb pg d) K (At tb d 291 K) [.aload 0, .bipush 13, .bipush 3, .iload 1, .imul, .iadd, .bipush 1, .iadd, .bipush 99, .aload 0, .iload 1, .bipush 1, .invokeinterface 205 3, .iload 2, .iadd, .invokeinterface 201 2, .invokeinterface 283 3, .istore 3, .aload 0, .iload 1, .bipush 1, .invokeinterface 205 3, .ireturn] ls st m := At.eq k291_40
theorem q_291 {f n : Int} (hA : AB (S 301)) (h6 : 0 ≤ S 300 6 ∧ S 300 6 ≤ 12) (hf : R32 f) (hn : R32 n) (hK1 : ¬ (0 ≤ f ∧ f < S 301 3) → K (.inl (some (vi 0))) (X (upS S 300 0 1) m)) (hK2 : (0 ≤ f ∧ f < S 301 3) → ¬ (1 ≤ n ∧ n ≤ 99) → K (.inl (some (vi 0))) (X (upS S 300 0 2) m)) (hK : ∀ r v, (0 ≤ f ∧ f < S 301 3) → (1 ≤ n ∧ n ≤ 99) → v = (if 99 < fR S f 1 + n then 99 else fR S f 1 + n) → r = v → AB (putR (S 301) (13 + 3 * f + 1) v) → K (.inl (some (vi r))) (X (sR (rmS (upS S 300 0 0)) (putR (S 301) (13 + 3 * f + 1) v)) m)) : Runs tb pg (d + 3) 291 [vr 300, vi f, vi n] (X S m) K := by
  refine Runs.of (al := [vr 300, vi f, vi n]) (n := 1) ⟨300, _, _, rfl, xo_300⟩ rfl rfl trivial ?_
  have hB := AB_B hA
  have b3 := hB.2.1
  unfold R32 at hf hn
  have hX : (0 ≤ f ∧ f < S 301 3) → (1 ≤ n ∧ n ≤ 99) → ∀ v, v = (if 99 < fR S f 1 + n then 99 else fR S f 1 + n) → AB (putR (S 301) (13 + 3 * f + 1) v) := by
    intro h1 h2 v hv
    have a := (hA.2.2.2.1 f h1.1 (by omega)).2.1
    have e : fR S f 1 = fr (S 301) f 1 := rfl
    have e2 : putR (S 301) (13 + 3 * f + 1) v = snwP (fun r j => if j = 13 + 3 * f + 1 then v else r j) (S 301) 6 := by
      funext j
      unfold putR snwP
      by_cases z : j = 13 + 3 * f + 1
      · rw [if_pos z, if_pos (by omega)]
        exact (if_pos z).symm
      · rw [if_neg z]
        split
        · exact (if_neg z).symm
        · rfl
    rw [e2]
    refine snwP_AB (by decide) (fun g g0 g1 => ?_) hA
    by_cases z : 14 + 3 * g = 13 + 3 * f + 1
    · rw [if_pos z]; split at hv <;> omega
    · rw [if_neg z]
      have a2 := (hA.2.2.2.1 g g0 g1).2.1
      rw [show fr (S 301) g 1 = S 301 (14 + 3 * g) from by unfold fr; exact congrArg _ (by omega)] at a2
      exact a2
  repeat' (first | refine hK _ _ ?_ ?_ ?_ ?_ ?_ | refine hK1 ?_ | refine hK2 ?_ ?_ | simp only [w_aload, w_iload, w_call, w_if, cI, Int.reduceToNat, w_iconst, w_goto, w_fall, x_p1000_300, x_g1000_300, w_ireturn, w_imul, w_iadd, w_istore, a291_0, a291_13, a291_27, a291_28, a291_40, R32, List.getElem?_cons_zero, List.getElem?_cons_succ, List.set_cons_zero, List.set_cons_succ, List.cons_append, List.nil_append, List.replicate_succ, List.replicate_zero, List.take_succ_cons, List.take_zero, List.drop_succ_cons, List.drop_zero, List.reverse_cons, List.reverse_nil, List.length_cons, List.length_nil, Option.toList, true_and, and_true, eq_self, ↓reduceIte, not_true_eq_false, not_false_eq_true, true_or, or_true, upS_upS, upS_at, up300, up300b, oR3, fR3, dR3, lgR3, valM3, Int.reduceEq, Nat.reduceEqDiff, and_self, and_true, and_false, false_and, if_true, if_false, upS_301, sR_sR, sR_r, sR_0, rm_1, rm_0, up_6] | refine q_200 ?_ ?_ ?_ ?_ | refine q_201 ?_ ?_ ?_ | refine q_205 hB ?_ ?_ ?_ | refine q_205 (BR3 hB) ?_ ?_ ?_ | refine q_209 hB ?_ ?_ | refine q_209 (BR3 hB) ?_ ?_ | refine q_283 (S := upS S 300 0 0) (by simpa only [up_6] using h6) ?_ ?_ | refine q_205 (ABs (S := rmS (upS S 300 0 0)) (hX ?_ ?_ _ (by assumption))) ?_ ?_ (fun _ _ => ?_) | with_reducible refine And.intro ?_ ?_ | with_reducible intro _)
  all_goals (try (first | omega | contradiction | ((try clear hK); (try clear hK0); (try clear hB); (try clear h9); (try clear h8); (try clear h7); (try simp only [oR3, fR3, dR3, lgR3, valM3, up300, up300b] at *); first | done | omega | exact put_f | rfl | assumption | grind)))
theorem k288_0 : pg.1 288 0 = [.aload 0, .aload 0, .iload 1, .invokeinterface 210 2, .ifCond .eq 17, .aload 0, .iload 2, .invokeinterface 210 2, .ifCond .ne 21, .jsr 17] := rfl
theorem a288_0 {tb : Tab} {d : Nat} {K : Out → AM → Prop} {ls st : List AV} {m : AM} : At tb d 288 K 0 ls st m = wpB tb (pg.2.1 288) (Runs tb pg d) K (At tb d 288 K) [.aload 0, .aload 0, .iload 1, .invokeinterface 210 2, .ifCond .eq 17, .aload 0, .iload 2, .invokeinterface 210 2, .ifCond .ne 21, .jsr 17] ls st m := At.eq k288_0
theorem k288_17 : pg.1 288 17 = [.bipush 1, .goto 56] := rfl
theorem a288_17 {tb : Tab} {d : Nat} {K : Out → AM → Prop} {ls st : List AV} {m : AM} : At tb d 288 K 17 ls st m = wpB tb (pg.2.1 288) (Runs tb pg d) K (At tb d 288 K) [.bipush 1, .goto 56] ls st m := At.eq k288_17
theorem k288_21 : pg.1 288 21 = [.iload 1, .iload 2, .if_icmp .eq 36, .iload 3, .bipush 1, .bipush 99, .invokeinterface 200 3, .ifCond .ne 40, .jsr 36] := rfl
theorem a288_21 {tb : Tab} {d : Nat} {K : Out → AM → Prop} {ls st : List AV} {m : AM} : At tb d 288 K 21 ls st m = wpB tb (pg.2.1 288) (Runs tb pg d) K (At tb d 288 K) [.iload 1, .iload 2, .if_icmp .eq 36, .iload 3, .bipush 1, .bipush 99, .invokeinterface 200 3, .ifCond .ne 40, .jsr 36] ls st m := At.eq k288_21
theorem k288_36 : pg.1 288 36 = [.bipush 2, .goto 56] := rfl
theorem a288_36 {tb : Tab} {d : Nat} {K : Out → AM → Prop} {ls st : List AV} {m : AM} : At tb d 288 K 36 ls st m = wpB tb (pg.2.1 288) (Runs tb pg d) K (At tb d 288 K) [.bipush 2, .goto 56] ls st m := At.eq k288_36
theorem k288_40 : pg.1 288 40 = [.aload 0, .getfield 1001, .bipush 5, .iaload, .bipush 8, .if_icmp .ne 55, .bipush 3, .goto 56] := rfl
theorem a288_40 {tb : Tab} {d : Nat} {K : Out → AM → Prop} {ls st : List AV} {m : AM} : At tb d 288 K 40 ls st m = wpB tb (pg.2.1 288) (Runs tb pg d) K (At tb d 288 K) [.aload 0, .getfield 1001, .bipush 5, .iaload, .bipush 8, .if_icmp .ne 55, .bipush 3, .goto 56] ls st m := At.eq k288_40
theorem k288_55 : pg.1 288 55 = [.bipush 0, .jsr 56] := rfl
theorem a288_55 {tb : Tab} {d : Nat} {K : Out → AM → Prop} {ls st : List AV} {m : AM} : At tb d 288 K 55 ls st m = wpB tb (pg.2.1 288) (Runs tb pg d) K (At tb d 288 K) [.bipush 0, .jsr 56] ls st m := At.eq k288_55
theorem k288_56 : pg.1 288 56 = [.putfield 1000, .aload 0, .getfield 1000, .ifCond .le 68, .bipush 0, .ireturn] := rfl
theorem a288_56 {tb : Tab} {d : Nat} {K : Out → AM → Prop} {ls st : List AV} {m : AM} : At tb d 288 K 56 ls st m = wpB tb (pg.2.1 288) (Runs tb pg d) K (At tb d 288 K) [.putfield 1000, .aload 0, .getfield 1000, .ifCond .le 68, .bipush 0, .ireturn] ls st m := At.eq k288_56
theorem k288_68 : pg.1 288 68 = [.aload 0, .invokeinterface 282 1, .aload 0, .iload 1, .iload 2, .iload 3, .invokeinterface 232 4, .aload 0, .getfield 1001, .bipush 5, .iaload, .bipush 1, .isub, .ireturn] := rfl
theorem a288_68 {tb : Tab} {d : Nat} {K : Out → AM → Prop} {ls st : List AV} {m : AM} : At tb d 288 K 68 ls st m = wpB tb (pg.2.1 288) (Runs tb pg d) K (At tb d 288 K) [.aload 0, .invokeinterface 282 1, .aload 0, .iload 1, .iload 2, .iload 3, .invokeinterface 232 4, .aload 0, .getfield 1001, .bipush 5, .iaload, .bipush 1, .isub, .ireturn] ls st m := At.eq k288_68
theorem q_288 {p o n : Int} (hA : AB (S 301)) (h6 : 0 ≤ S 300 6 ∧ S 300 6 ≤ 12) (hp : R32 p) (ho : R32 o) (hn : R32 n) (hK1 : ¬ ((0 ≤ p ∧ p < S 301 4) ∧ (0 ≤ o ∧ o < S 301 4)) → K (.inl (some (vi 0))) (X (upS S 300 0 1) m)) (hK2 : (0 ≤ p ∧ p < S 301 4) → (0 ≤ o ∧ o < S 301 4) → (p = o ∨ ¬ (1 ≤ n ∧ n ≤ 99)) → K (.inl (some (vi 0))) (X (upS S 300 0 2) m)) (hK3 : (0 ≤ p ∧ p < S 301 4) → (0 ≤ o ∧ o < S 301 4) → p ≠ o → (1 ≤ n ∧ n ≤ 99) → S 301 5 = 8 → K (.inl (some (vi 0))) (X (upS S 300 0 3) m)) (hK : ∀ r, (0 ≤ p ∧ p < S 301 4) → (0 ≤ o ∧ o < S 301 4) → p ≠ o → (1 ≤ n ∧ n ≤ 99) → S 301 5 < 8 → r = S 301 5 → K (.inl (some (vi r))) (X (sR (rmS (upS S 300 0 0)) (lendR (S 301) p o n)) m)) : Runs tb pg (d + 3) 288 [vr 300, vi p, vi o, vi n] (X S m) K := by
  refine Runs.of (al := [vr 300, vi p, vi o, vi n]) (n := 0) ⟨300, _, _, rfl, xo_300⟩ rfl rfl trivial ?_
  have hB := AB_B hA
  have b4 := hB.2.2.1
  have b5 := hB.2.2.2.1
  unfold R32 at hp ho hn
  have e5 : lendR (S 301) p o n 5 = S 301 5 + 1 := by unfold lendR; rw [if_pos rfl]
  repeat' (first | refine hK _ ?_ ?_ ?_ ?_ ?_ ?_ | refine hK1 ?_ | refine hK2 ?_ ?_ ?_ | refine hK3 ?_ ?_ ?_ ?_ ?_ | simp only [w_aload, w_iload, w_call, w_if, cI, Int.reduceToNat, w_fall, w_iconst, w_goto, w_ifc, x_g1001_300, x_iald, w_ialoads, w_ialoadw, x_p1000_300, x_g1000_300, w_ireturn, w_isub, isA_301, isA_302, isA_303, isA_304, isA_305, isA_306, isA_307, isA_308, isA_309, isA_310, isA_311, isA_312, isA_313, isA_314, isA_315, len_301, len_302, len_303, len_304, len_305, len_306, len_307, len_308, len_309, len_310, len_311, len_312, len_313, len_314, len_315, Int.cast_ofNat_Int, a288_0, a288_17, a288_21, a288_36, a288_40, a288_55, a288_56, a288_68, R32, List.getElem?_cons_zero, List.getElem?_cons_succ, List.set_cons_zero, List.set_cons_succ, List.cons_append, List.nil_append, List.replicate_succ, List.replicate_zero, List.take_succ_cons, List.take_zero, List.drop_succ_cons, List.drop_zero, List.reverse_cons, List.reverse_nil, List.length_cons, List.length_nil, Option.toList, true_and, and_true, eq_self, ↓reduceIte, not_true_eq_false, not_false_eq_true, true_or, or_true, upS_upS, upS_at, up300, up300b, oR3, fR3, dR3, lgR3, valM3, Int.reduceEq, Nat.reduceEqDiff, and_self, and_true, and_false, false_and, if_true, if_false, upS_301, sR_sR, sR_r, sR_0, rm_1, rm_0, up_6] | refine q_200 ?_ ?_ ?_ ?_ | refine q_210 hB ?_ ?_ | refine q_210 (BR3 hB) ?_ ?_ | refine q_232 (S := rmS (upS S 300 0 0)) hA ?_ ?_ | refine q_282 (by simpa only [up_6] using h6) ?_ | with_reducible refine And.intro ?_ ?_ | with_reducible intro _)
  all_goals (try (first | omega | contradiction | ((try clear hK); (try clear hK0); (try clear hB); (try clear h9); (try clear h8); (try clear h7); (try simp only [oR3, fR3, dR3, lgR3, valM3, up300, up300b] at *); first | done | omega | grind)))
theorem k286_0 : pg.1 286 0 = [.aload 0, .aload 0, .iload 1, .invokeinterface 210 2, .ifCond .ne 13, .bipush 1, .goto 14] := rfl
theorem a286_0 {tb : Tab} {d : Nat} {K : Out → AM → Prop} {ls st : List AV} {m : AM} : At tb d 286 K 0 ls st m = wpB tb (pg.2.1 286) (Runs tb pg d) K (At tb d 286 K) [.aload 0, .aload 0, .iload 1, .invokeinterface 210 2, .ifCond .ne 13, .bipush 1, .goto 14] ls st m := At.eq k286_0
theorem k286_13 : pg.1 286 13 = [.bipush 0, .jsr 14] := rfl
theorem a286_13 {tb : Tab} {d : Nat} {K : Out → AM → Prop} {ls st : List AV} {m : AM} : At tb d 286 K 13 ls st m = wpB tb (pg.2.1 286) (Runs tb pg d) K (At tb d 286 K) [.bipush 0, .jsr 14] ls st m := At.eq k286_13
theorem k286_14 : pg.1 286 14 = [.putfield 1000, .aload 0, .getfield 1000, .ifCond .le 26, .bipush 0, .ireturn] := rfl
theorem a286_14 {tb : Tab} {d : Nat} {K : Out → AM → Prop} {ls st : List AV} {m : AM} : At tb d 286 K 14 ls st m = wpB tb (pg.2.1 286) (Runs tb pg d) K (At tb d 286 K) [.putfield 1000, .aload 0, .getfield 1000, .ifCond .le 26, .bipush 0, .ireturn] ls st m := At.eq k286_14
theorem k286_26 : pg.1 286 26 = [.aload 0, .aload 0, .iload 1, .invokeinterface 211 2, .ifCond .ne 39, .bipush 2, .goto 40] := rfl
theorem a286_26 {tb : Tab} {d : Nat} {K : Out → AM → Prop} {ls st : List AV} {m : AM} : At tb d 286 K 26 ls st m = wpB tb (pg.2.1 286) (Runs tb pg d) K (At tb d 286 K) [.aload 0, .aload 0, .iload 1, .invokeinterface 211 2, .ifCond .ne 39, .bipush 2, .goto 40] ls st m := At.eq k286_26
theorem k286_39 : pg.1 286 39 = [.bipush 0, .jsr 40] := rfl
theorem a286_39 {tb : Tab} {d : Nat} {K : Out → AM → Prop} {ls st : List AV} {m : AM} : At tb d 286 K 39 ls st m = wpB tb (pg.2.1 286) (Runs tb pg d) K (At tb d 286 K) [.bipush 0, .jsr 40] ls st m := At.eq k286_39
theorem k286_40 : pg.1 286 40 = [.putfield 1000, .aload 0, .getfield 1000, .ifCond .le 52, .bipush 0, .ireturn] := rfl
theorem a286_40 {tb : Tab} {d : Nat} {K : Out → AM → Prop} {ls st : List AV} {m : AM} : At tb d 286 K 40 ls st m = wpB tb (pg.2.1 286) (Runs tb pg d) K (At tb d 286 K) [.putfield 1000, .aload 0, .getfield 1000, .ifCond .le 52, .bipush 0, .ireturn] ls st m := At.eq k286_40
theorem k286_52 : pg.1 286 52 = [.aload 0, .invokeinterface 282 1, .aload 0, .iload 1, .bipush 1, .invokeinterface 206 3, .istore 2, .aload 0, .iload 1, .bipush 1, .iload 2, .invokeinterface 253 4, .aload 0, .iload 1, .invokeinterface 255 2, .iload 2, .ireturn] := rfl
theorem a286_52 {tb : Tab} {d : Nat} {K : Out → AM → Prop} {ls st : List AV} {m : AM} : At tb d 286 K 52 ls st m = wpB tb (pg.2.1 286) (Runs tb pg d) K (At tb d 286 K) [.aload 0, .invokeinterface 282 1, .aload 0, .iload 1, .bipush 1, .invokeinterface 206 3, .istore 2, .aload 0, .iload 1, .bipush 1, .iload 2, .invokeinterface 253 4, .aload 0, .iload 1, .invokeinterface 255 2, .iload 2, .ireturn] ls st m := At.eq k286_52
theorem q_286 {p : Int} (hA : AB (S 301)) (h6 : 0 ≤ S 300 6 ∧ S 300 6 ≤ 12) (hp : R32 p) (hK1 : ¬ (0 ≤ p ∧ p < S 301 4) → K (.inl (some (vi 0))) (X (upS S 300 0 1) m)) (hK2 : (0 ≤ p ∧ p < S 301 4) → oR S p 1 = -1 → K (.inl (some (vi 0))) (X (upS S 300 0 2) m)) (hK : (0 ≤ p ∧ p < S 301 4) → oR S p 1 ≠ -1 → K (.inl (some (vi (oR S p 1)))) (X (sR (rmS (upS S 300 0 0)) (leavesR (logsR (S 301) p 1 (oR S p 1)) p)) m)) : Runs tb pg (d + 3) 286 [vr 300, vi p] (X S m) K := by
  refine Runs.of (al := [vr 300, vi p]) (n := 1) ⟨300, _, _, rfl, xo_300⟩ rfl rfl trivial ?_
  have hB := AB_B hA
  have b4 := hB.2.2.1
  unfold R32 at hp
  repeat' (first | refine hK ?_ ?_ | refine hK1 ?_ | refine hK2 ?_ ?_ | simp only [w_aload, w_iload, w_call, w_if, cI, Int.reduceToNat, w_iconst, w_goto, w_fall, x_p1000_300, x_g1000_300, w_ireturn, w_istore, a286_0, a286_13, a286_14, a286_26, a286_39, a286_40, a286_52, R32, List.getElem?_cons_zero, List.getElem?_cons_succ, List.set_cons_zero, List.set_cons_succ, List.cons_append, List.nil_append, List.replicate_succ, List.replicate_zero, List.take_succ_cons, List.take_zero, List.drop_succ_cons, List.drop_zero, List.reverse_cons, List.reverse_nil, List.length_cons, List.length_nil, Option.toList, true_and, and_true, eq_self, ↓reduceIte, not_true_eq_false, not_false_eq_true, true_or, or_true, upS_upS, upS_at, up300, up300b, oR3, fR3, dR3, lgR3, valM3, Int.reduceEq, Nat.reduceEqDiff, and_self, and_true, and_false, false_and, if_true, if_false, upS_301, sR_sR, sR_r, sR_0, rm_1, rm_0, up_6] | refine q_206 hB ?_ ?_ ?_ | refine q_206 (BR3 hB) ?_ ?_ ?_ | refine q_210 hB ?_ ?_ | refine q_210 (BR3 hB) ?_ ?_ | refine q_211 hB ?_ ?_ | refine q_211 (BR3 hB) ?_ ?_ | refine q_253 (S := rmS (upS S 300 0 0)) hA ?_ ?_ ?_ ?_ | refine q_255 ?_ ?_ | refine q_282 (by simpa only [up_6] using h6) ?_ | refine q_206 (S := rmS (upS S 300 0 0)) hB ?_ ?_ (fun _ _ => ?_) | with_reducible refine And.intro ?_ ?_ | with_reducible intro _)
  all_goals (try (first | omega | contradiction | ((try clear hK); (try clear hK0); (try clear hB); (try clear h9); (try clear h8); (try clear h7); (try simp only [oR3, fR3, dR3, lgR3, valM3, up300, up300b] at *); first | done | omega | grind)))
end Ref24
