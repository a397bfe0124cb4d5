/-! ===== THE LAW: its cases ===== -/
def lkL : Nat → List Instr := fun L => fndB L bkL_law_
def hsL : Nat → Option (Nat × Nat) := fun _ => none
def AtL (tb : Tab) (d : Nat) (K : Out → AM → Prop) (L : Nat) (ls st : List AV) (m : AM) : Prop := Ex tb hsL (Runs tb pg d) lkL K L ls st m
theorem AtL.eq {tb : Tab} {d : Nat} {K : Out → AM → Prop} {L : Nat} {ls st : List AV} {m : AM} {is : List Instr} (hc : lkL L = is) : AtL tb d K L ls st m = wpB tb hsL (Runs tb pg d) K (AtL tb d K) is ls st m := by
  subst hc
  exact propext ⟨fun h => Ex_open (CMono.refl_of d) h, fun h => Ex_fold (CMono.refl_of d) h⟩
theorem k199_0 : pg.1 199 0 = [.aload 0, .getfield 1000, .ireturn] := rfl
theorem a199_0 {tb : Tab} {d : Nat} {K : Out → AM → Prop} {ls st : List AV} {m : AM} : At tb d 199 K 0 ls st m = wpB tb (pg.2.1 199) (Runs tb pg d) K (At tb d 199 K) [.aload 0, .getfield 1000, .ireturn] ls st m := At.eq k199_0
theorem q_199 {tb : Tab} {d : Nat} {m : AM} {K : Out → AM → Prop} {S : Nat → Int → Int} (hK : K (.inl (some (vi (S 300 0)))) (X S m)) : Runs tb pg (d + 1) 199 [vr 300] (X S m) K := by
  refine Runs.of (al := [vr 300]) (n := 0) ⟨300, _, _, rfl, xo_300⟩ rfl rfl trivial ?_
  rw [At.eq k199_0]
  simp only [w_aload, x_g1000_300, w_ireturn, List.getElem?_cons_zero, List.getElem?_cons_succ, List.set_cons_zero, List.set_cons_succ, List.cons_append, List.nil_append, List.replicate_succ, List.replicate_zero, List.take_succ_cons, List.take_zero, List.drop_succ_cons, List.drop_zero, List.reverse_cons, List.reverse_nil, List.length_cons, List.length_nil, Option.toList, true_and, and_true, eq_self, ↓reduceIte, not_true_eq_false, not_false_eq_true, true_or, or_true, List.append_eq]
  exact hK
theorem cmp_self {x : Int} : cmpI x x = 0 := by unfold cmpI; rw [if_neg (Int.lt_irrefl x), if_pos rfl]
theorem R32_00 : R32 0 := by unfold R32; decide
theorem R64_32 {x : Int} (h : R32 x) : R64 x := by unfold R32 at h; unfold R64; omega
theorem GRW_S2 {m m1 : AM} (h : GRW m m1) : GRW m m1 := h
set_option maxRecDepth 4000 in
theorem kl_0 : lkL 0 = [.new 9, .dup, .invokeinterface 127 1, .astore 1, .new 10, .dup, .invokeinterface 198 1, .astore 2, .bipush 1, .newarray .long, .astore 3, .bipush 0, .istore 4, .jsr 23] := rfl
set_option maxRecDepth 4000 in
theorem kl_23 : lkL 23 = [.iload 4, .aload 0, .arraylength, .bipush 6, .isub, .if_icmp .gt 2865, .aload 0, .iload 4, .iaload, .bipush 63, .iand, .lookupswitch 2859 #[(0, 264), (1, 337), (2, 362), (3, 406), (4, 450), (5, 463), (6, 531), (7, 599), (8, 679), (9, 747), (10, 815), (11, 883), (12, 939), (13, 1007), (14, 1063), (15, 1131), (16, 1211), (17, 1267), (18, 1335), (19, 1403), (20, 1471), (21, 1515), (22, 1559), (23, 1603), (24, 1616), (25, 1684), (26, 1759), (27, 1772), (28, 1852), (29, 1865), (30, 1878), (31, 1891), (32, 1904), (33, 1917), (34, 1930), (35, 1986), (36, 2054), (37, 2122), (38, 2190), (39, 2246), (40, 2287), (41, 2300), (42, 2356), (43, 2452), (44, 2536), (45, 2620), (46, 2704), (47, 2772), (48, 2797), (49, 2810), (50, 2821), (51, 2834)]] := rfl
set_option maxRecDepth 4000 in
theorem kl_264 : lkL 264 = [.aload 1, .aload 0, .iload 4, .bipush 1, .iadd, .iaload, .aload 0, .iload 4, .bipush 2, .iadd, .iaload, .aload 0, .iload 4, .bipush 3, .iadd, .iaload, .aload 0, .iload 4, .bipush 4, .iadd, .iaload, .aload 0, .iload 4, .bipush 5, .iadd, .iaload, .invokeinterface 128 6, .aload 2, .aload 0, .iload 4, .bipush 1, .iadd, .iaload, .aload 0, .iload 4, .bipush 2, .iadd, .iaload, .aload 0, .iload 4, .bipush 3, .iadd, .iaload, .aload 0, .iload 4, .bipush 4, .iadd, .iaload, .aload 0, .iload 4, .bipush 5, .iadd, .iaload, .invokeinterface 218 6, .if_icmp .eq 2859, .bipush 0, .freturn] := rfl
set_option maxRecDepth 4000 in
theorem kl_337 : lkL 337 = [.aload 1, .aload 0, .iload 4, .bipush 1, .iadd, .iaload, .invokeinterface 130 2, .aload 2, .aload 0, .iload 4, .bipush 1, .iadd, .iaload, .invokeinterface 219 2, .if_icmp .eq 2859, .bipush 0, .freturn] := rfl
set_option maxRecDepth 4000 in
theorem kl_362 : lkL 362 = [.aload 1, .aload 3, .invokeinterface 348 2, .istore 5, .aload 2, .invokeinterface 239 1, .istore 6, .aload 2, .invokeinterface 199 1, .iload 5, .if_icmp .eq 386, .bipush 0, .freturn] := rfl
set_option maxRecDepth 4000 in
theorem kl_386 : lkL 386 = [.iload 5, .ifCond .ne 403, .aload 3, .bipush 0, .laload, .iload 6, .i2l, .lcmp, .ifCond .eq 403, .bipush 0, .freturn] := rfl
set_option maxRecDepth 4000 in
theorem kl_403 : lkL 403 = [.goto 2859] := rfl
set_option maxRecDepth 4000 in
theorem kl_406 : lkL 406 = [.aload 1, .aload 3, .invokeinterface 349 2, .istore 5, .aload 2, .invokeinterface 247 1, .istore 6, .aload 2, .invokeinterface 199 1, .iload 5, .if_icmp .eq 430, .bipush 0, .freturn] := rfl
set_option maxRecDepth 4000 in
theorem kl_430 : lkL 430 = [.iload 5, .ifCond .ne 447, .aload 3, .bipush 0, .laload, .iload 6, .i2l, .lcmp, .ifCond .eq 447, .bipush 0, .freturn] := rfl
set_option maxRecDepth 4000 in
theorem kl_447 : lkL 447 = [.goto 2859] := rfl
set_option maxRecDepth 4000 in
theorem kl_450 : lkL 450 = [.aload 1, .invokeinterface 133 1, .aload 2, .invokeinterface 248 1, .if_icmp .eq 2859, .bipush 0, .freturn] := rfl
set_option maxRecDepth 4000 in
theorem kl_463 : lkL 463 = [.aload 1, .aload 0, .iload 4, .bipush 1, .iadd, .iaload, .aload 0, .iload 4, .bipush 2, .iadd, .iaload, .aload 3, .invokeinterface 350 4, .istore 5, .aload 2, .aload 0, .iload 4, .bipush 1, .iadd, .iaload, .aload 0, .iload 4, .bipush 2, .iadd, .iaload, .invokeinterface 268 3, .istore 6, .aload 2, .invokeinterface 199 1, .iload 5, .if_icmp .eq 511, .bipush 0, .freturn] := rfl
set_option maxRecDepth 4000 in
theorem kl_511 : lkL 511 = [.iload 5, .ifCond .ne 528, .aload 3, .bipush 0, .laload, .iload 6, .i2l, .lcmp, .ifCond .eq 528, .bipush 0, .freturn] := rfl
set_option maxRecDepth 4000 in
theorem kl_528 : lkL 528 = [.goto 2859] := rfl
set_option maxRecDepth 4000 in
theorem kl_531 : lkL 531 = [.aload 1, .aload 0, .iload 4, .bipush 1, .iadd, .iaload, .aload 0, .iload 4, .bipush 2, .iadd, .iaload, .aload 3, .invokeinterface 351 4, .istore 5, .aload 2, .aload 0, .iload 4, .bipush 1, .iadd, .iaload, .aload 0, .iload 4, .bipush 2, .iadd, .iaload, .invokeinterface 277 3, .istore 6, .aload 2, .invokeinterface 199 1, .iload 5, .if_icmp .eq 579, .bipush 0, .freturn] := rfl
set_option maxRecDepth 4000 in
theorem kl_579 : lkL 579 = [.iload 5, .ifCond .ne 596, .aload 3, .bipush 0, .laload, .iload 6, .i2l, .lcmp, .ifCond .eq 596, .bipush 0, .freturn] := rfl
set_option maxRecDepth 4000 in
theorem kl_596 : lkL 596 = [.goto 2859] := rfl
set_option maxRecDepth 4000 in
theorem kl_599 : lkL 599 = [.aload 1, .aload 0, .iload 4, .bipush 1, .iadd, .iaload, .aload 0, .iload 4, .bipush 2, .iadd, .iaload, .aload 0, .iload 4, .bipush 3, .iadd, .iaload, .aload 3, .invokeinterface 352 5, .istore 5, .aload 2, .aload 0, .iload 4, .bipush 1, .iadd, .iaload, .aload 0, .iload 4, .bipush 2, .iadd, .iaload, .aload 0, .iload 4, .bipush 3, .iadd, .iaload, .invokeinterface 278 4, .istore 6, .aload 2, .invokeinterface 199 1, .iload 5, .if_icmp .eq 659, .bipush 0, .freturn] := rfl
set_option maxRecDepth 4000 in
theorem kl_659 : lkL 659 = [.iload 5, .ifCond .ne 676, .aload 3, .bipush 0, .laload, .iload 6, .i2l, .lcmp, .ifCond .eq 676, .bipush 0, .freturn] := rfl
set_option maxRecDepth 4000 in
theorem kl_676 : lkL 676 = [.goto 2859] := rfl
set_option maxRecDepth 4000 in
theorem kl_679 : lkL 679 = [.aload 1, .aload 0, .iload 4, .bipush 1, .iadd, .iaload, .aload 0, .iload 4, .bipush 2, .iadd, .iaload, .aload 3, .invokeinterface 353 4, .istore 5, .aload 2, .aload 0, .iload 4, .bipush 1, .iadd, .iaload, .aload 0, .iload 4, .bipush 2, .iadd, .iaload, .invokeinterface 279 3, .istore 6, .aload 2, .invokeinterface 199 1, .iload 5, .if_icmp .eq 727, .bipush 0, .freturn] := rfl
set_option maxRecDepth 4000 in
theorem kl_727 : lkL 727 = [.iload 5, .ifCond .ne 744, .aload 3, .bipush 0, .laload, .iload 6, .i2l, .lcmp, .ifCond .eq 744, .bipush 0, .freturn] := rfl
set_option maxRecDepth 4000 in
theorem kl_744 : lkL 744 = [.goto 2859] := rfl
set_option maxRecDepth 4000 in
theorem kl_747 : lkL 747 = [.aload 1, .aload 0, .iload 4, .bipush 1, .iadd, .iaload, .aload 0, .iload 4, .bipush 2, .iadd, .iaload, .aload 3, .invokeinterface 354 4, .istore 5, .aload 2, .aload 0, .iload 4, .bipush 1, .iadd, .iaload, .aload 0, .iload 4, .bipush 2, .iadd, .iaload, .invokeinterface 280 3, .istore 6, .aload 2, .invokeinterface 199 1, .iload 5, .if_icmp .eq 795, .bipush 0, .freturn] := rfl
set_option maxRecDepth 4000 in
theorem kl_795 : lkL 795 = [.iload 5, .ifCond .ne 812, .aload 3, .bipush 0, .laload, .iload 6, .i2l, .lcmp, .ifCond .eq 812, .bipush 0, .freturn] := rfl
set_option maxRecDepth 4000 in
theorem kl_812 : lkL 812 = [.goto 2859] := rfl
set_option maxRecDepth 4000 in
theorem kl_815 : lkL 815 = [.aload 1, .aload 0, .iload 4, .bipush 1, .iadd, .iaload, .aload 0, .iload 4, .bipush 2, .iadd, .iaload, .aload 3, .invokeinterface 355 4, .istore 5, .aload 2, .aload 0, .iload 4, .bipush 1, .iadd, .iaload, .aload 0, .iload 4, .bipush 2, .iadd, .iaload, .invokeinterface 281 3, .istore 6, .aload 2, .invokeinterface 199 1, .iload 5, .if_icmp .eq 863, .bipush 0, .freturn] := rfl
set_option maxRecDepth 4000 in
theorem kl_863 : lkL 863 = [.iload 5, .ifCond .ne 880, .aload 3, .bipush 0, .laload, .iload 6, .i2l, .lcmp, .ifCond .eq 880, .bipush 0, .freturn] := rfl
set_option maxRecDepth 4000 in
theorem kl_880 : lkL 880 = [.goto 2859] := rfl
set_option maxRecDepth 4000 in
theorem kl_883 : lkL 883 = [.aload 1, .aload 0, .iload 4, .bipush 1, .iadd, .iaload, .aload 3, .invokeinterface 356 3, .istore 5, .aload 2, .aload 0, .iload 4, .bipush 1, .iadd, .iaload, .invokeinterface 284 2, .istore 6, .aload 2, .invokeinterface 199 1, .iload 5, .if_icmp .eq 919, .bipush 0, .freturn] := rfl
set_option maxRecDepth 4000 in
theorem kl_919 : lkL 919 = [.iload 5, .ifCond .ne 936, .aload 3, .bipush 0, .laload, .iload 6, .i2l, .lcmp, .ifCond .eq 936, .bipush 0, .freturn] := rfl
set_option maxRecDepth 4000 in
theorem kl_936 : lkL 936 = [.goto 2859] := rfl
set_option maxRecDepth 4000 in
theorem kl_939 : lkL 939 = [.aload 1, .aload 0, .iload 4, .bipush 1, .iadd, .iaload, .aload 0, .iload 4, .bipush 2, .iadd, .iaload, .aload 3, .invokeinterface 357 4, .istore 5, .aload 2, .aload 0, .iload 4, .bipush 1, .iadd, .iaload, .aload 0, .iload 4, .bipush 2, .iadd, .iaload, .invokeinterface 285 3, .istore 6, .aload 2, .invokeinterface 199 1, .iload 5, .if_icmp .eq 987, .bipush 0, .freturn] := rfl
set_option maxRecDepth 4000 in
theorem kl_987 : lkL 987 = [.iload 5, .ifCond .ne 1004, .aload 3, .bipush 0, .laload, .iload 6, .i2l, .lcmp, .ifCond .eq 1004, .bipush 0, .freturn] := rfl
set_option maxRecDepth 4000 in
theorem kl_1004 : lkL 1004 = [.goto 2859] := rfl
set_option maxRecDepth 4000 in
theorem kl_1007 : lkL 1007 = [.aload 1, .aload 0, .iload 4, .bipush 1, .iadd, .iaload, .aload 3, .invokeinterface 358 3, .istore 5, .aload 2, .aload 0, .iload 4, .bipush 1, .iadd, .iaload, .invokeinterface 286 2, .istore 6, .aload 2, .invokeinterface 199 1, .iload 5, .if_icmp .eq 1043, .bipush 0, .freturn] := rfl
set_option maxRecDepth 4000 in
theorem kl_1043 : lkL 1043 = [.iload 5, .ifCond .ne 1060, .aload 3, .bipush 0, .laload, .iload 6, .i2l, .lcmp, .ifCond .eq 1060, .bipush 0, .freturn] := rfl
set_option maxRecDepth 4000 in
theorem kl_1060 : lkL 1060 = [.goto 2859] := rfl
set_option maxRecDepth 4000 in
theorem kl_1063 : lkL 1063 = [.aload 1, .aload 0, .iload 4, .bipush 1, .iadd, .iaload, .aload 0, .iload 4, .bipush 2, .iadd, .iaload, .aload 3, .invokeinterface 359 4, .istore 5, .aload 2, .aload 0, .iload 4, .bipush 1, .iadd, .iaload, .aload 0, .iload 4, .bipush 2, .iadd, .iaload, .invokeinterface 287 3, .istore 6, .aload 2, .invokeinterface 199 1, .iload 5, .if_icmp .eq 1111, .bipush 0, .freturn] := rfl
set_option maxRecDepth 4000 in
theorem kl_1111 : lkL 1111 = [.iload 5, .ifCond .ne 1128, .aload 3, .bipush 0, .laload, .iload 6, .i2l, .lcmp, .ifCond .eq 1128, .bipush 0, .freturn] := rfl
set_option maxRecDepth 4000 in
theorem kl_1128 : lkL 1128 = [.goto 2859] := rfl
set_option maxRecDepth 4000 in
theorem kl_1131 : lkL 1131 = [.aload 1, .aload 0, .iload 4, .bipush 1, .iadd, .iaload, .aload 0, .iload 4, .bipush 2, .iadd, .iaload, .aload 0, .iload 4, .bipush 3, .iadd, .iaload, .aload 3, .invokeinterface 360 5, .istore 5, .aload 2, .aload 0, .iload 4, .bipush 1, .iadd, .iaload, .aload 0, .iload 4, .bipush 2, .iadd, .iaload, .aload 0, .iload 4, .bipush 3, .iadd, .iaload, .invokeinterface 288 4, .istore 6, .aload 2, .invokeinterface 199 1, .iload 5, .if_icmp .eq 1191, .bipush 0, .freturn] := rfl
set_option maxRecDepth 4000 in
theorem kl_1191 : lkL 1191 = [.iload 5, .ifCond .ne 1208, .aload 3, .bipush 0, .laload, .iload 6, .i2l, .lcmp, .ifCond .eq 1208, .bipush 0, .freturn] := rfl
set_option maxRecDepth 4000 in
theorem kl_1208 : lkL 1208 = [.goto 2859] := rfl
set_option maxRecDepth 4000 in
theorem kl_1211 : lkL 1211 = [.aload 1, .aload 0, .iload 4, .bipush 1, .iadd, .iaload, .aload 3, .invokeinterface 361 3, .istore 5, .aload 2, .aload 0, .iload 4, .bipush 1, .iadd, .iaload, .invokeinterface 289 2, .istore 6, .aload 2, .invokeinterface 199 1, .iload 5, .if_icmp .eq 1247, .bipush 0, .freturn] := rfl
set_option maxRecDepth 4000 in
theorem kl_1247 : lkL 1247 = [.iload 5, .ifCond .ne 1264, .aload 3, .bipush 0, .laload, .iload 6, .i2l, .lcmp, .ifCond .eq 1264, .bipush 0, .freturn] := rfl
set_option maxRecDepth 4000 in
theorem kl_1264 : lkL 1264 = [.goto 2859] := rfl
set_option maxRecDepth 4000 in
theorem kl_1267 : lkL 1267 = [.aload 1, .aload 0, .iload 4, .bipush 1, .iadd, .iaload, .aload 0, .iload 4, .bipush 2, .iadd, .iaload, .aload 3, .invokeinterface 362 4, .istore 5, .aload 2, .aload 0, .iload 4, .bipush 1, .iadd, .iaload, .aload 0, .iload 4, .bipush 2, .iadd, .iaload, .invokeinterface 290 3, .istore 6, .aload 2, .invokeinterface 199 1, .iload 5, .if_icmp .eq 1315, .bipush 0, .freturn] := rfl
set_option maxRecDepth 4000 in
theorem kl_1315 : lkL 1315 = [.iload 5, .ifCond .ne 1332, .aload 3, .bipush 0, .laload, .iload 6, .i2l, .lcmp, .ifCond .eq 1332, .bipush 0, .freturn] := rfl
set_option maxRecDepth 4000 in
theorem kl_1332 : lkL 1332 = [.goto 2859] := rfl
set_option maxRecDepth 4000 in
theorem kl_1335 : lkL 1335 = [.aload 1, .aload 0, .iload 4, .bipush 1, .iadd, .iaload, .aload 0, .iload 4, .bipush 2, .iadd, .iaload, .aload 3, .invokeinterface 363 4, .istore 5, .aload 2, .aload 0, .iload 4, .bipush 1, .iadd, .iaload, .aload 0, .iload 4, .bipush 2, .iadd, .iaload, .invokeinterface 291 3, .istore 6, .aload 2, .invokeinterface 199 1, .iload 5, .if_icmp .eq 1383, .bipush 0, .freturn] := rfl
set_option maxRecDepth 4000 in
theorem kl_1383 : lkL 1383 = [.iload 5, .ifCond .ne 1400, .aload 3, .bipush 0, .laload, .iload 6, .i2l, .lcmp, .ifCond .eq 1400, .bipush 0, .freturn] := rfl
set_option maxRecDepth 4000 in
theorem kl_1400 : lkL 1400 = [.goto 2859] := rfl
set_option maxRecDepth 4000 in
theorem kl_1403 : lkL 1403 = [.aload 1, .aload 0, .iload 4, .bipush 1, .iadd, .iaload, .aload 0, .iload 4, .bipush 2, .iadd, .iaload, .aload 3, .invokeinterface 364 4, .istore 5, .aload 2, .aload 0, .iload 4, .bipush 1, .iadd, .iaload, .aload 0, .iload 4, .bipush 2, .iadd, .iaload, .invokeinterface 296 3, .istore 6, .aload 2, .invokeinterface 199 1, .iload 5, .if_icmp .eq 1451, .bipush 0, .freturn] := rfl
set_option maxRecDepth 4000 in
theorem kl_1451 : lkL 1451 = [.iload 5, .ifCond .ne 1468, .aload 3, .bipush 0, .laload, .iload 6, .i2l, .lcmp, .ifCond .eq 1468, .bipush 0, .freturn] := rfl
set_option maxRecDepth 4000 in
theorem kl_1468 : lkL 1468 = [.goto 2859] := rfl
set_option maxRecDepth 4000 in
theorem kl_1471 : lkL 1471 = [.aload 1, .aload 3, .invokeinterface 365 2, .istore 5, .aload 2, .invokeinterface 298 1, .istore 6, .aload 2, .invokeinterface 199 1, .iload 5, .if_icmp .eq 1495, .bipush 0, .freturn] := rfl
set_option maxRecDepth 4000 in
theorem kl_1495 : lkL 1495 = [.iload 5, .ifCond .ne 1512, .aload 3, .bipush 0, .laload, .iload 6, .i2l, .lcmp, .ifCond .eq 1512, .bipush 0, .freturn] := rfl
set_option maxRecDepth 4000 in
theorem kl_1512 : lkL 1512 = [.goto 2859] := rfl
set_option maxRecDepth 4000 in
theorem kl_1515 : lkL 1515 = [.aload 1, .aload 3, .invokeinterface 366 2, .istore 5, .aload 2, .invokeinterface 299 1, .istore 6, .aload 2, .invokeinterface 199 1, .iload 5, .if_icmp .eq 1539, .bipush 0, .freturn] := rfl
set_option maxRecDepth 4000 in
theorem kl_1539 : lkL 1539 = [.iload 5, .ifCond .ne 1556, .aload 3, .bipush 0, .laload, .iload 6, .i2l, .lcmp, .ifCond .eq 1556, .bipush 0, .freturn] := rfl
set_option maxRecDepth 4000 in
theorem kl_1556 : lkL 1556 = [.goto 2859] := rfl
set_option maxRecDepth 4000 in
theorem kl_1559 : lkL 1559 = [.aload 1, .aload 3, .invokeinterface 367 2, .istore 5, .aload 2, .invokeinterface 301 1, .istore 6, .aload 2, .invokeinterface 199 1, .iload 5, .if_icmp .eq 1583, .bipush 0, .freturn] := rfl
set_option maxRecDepth 4000 in
theorem kl_1583 : lkL 1583 = [.iload 5, .ifCond .ne 1600, .aload 3, .bipush 0, .laload, .iload 6, .i2l, .lcmp, .ifCond .eq 1600, .bipush 0, .freturn] := rfl
set_option maxRecDepth 4000 in
theorem kl_1600 : lkL 1600 = [.goto 2859] := rfl
set_option maxRecDepth 4000 in
theorem kl_1603 : lkL 1603 = [.aload 1, .invokeinterface 161 1, .aload 2, .invokeinterface 303 1, .if_icmp .eq 2859, .bipush 0, .freturn] := rfl
set_option maxRecDepth 4000 in
theorem kl_1616 : lkL 1616 = [.aload 1, .aload 0, .iload 4, .bipush 1, .iadd, .iaload, .aload 0, .iload 4, .bipush 2, .iadd, .iaload, .aload 3, .invokeinterface 368 4, .istore 5, .aload 2, .aload 0, .iload 4, .bipush 1, .iadd, .iaload, .aload 0, .iload 4, .bipush 2, .iadd, .iaload, .invokeinterface 305 3, .istore 6, .aload 2, .invokeinterface 199 1, .iload 5, .if_icmp .eq 1664, .bipush 0, .freturn] := rfl
set_option maxRecDepth 4000 in
theorem kl_1664 : lkL 1664 = [.iload 5, .ifCond .ne 1681, .aload 3, .bipush 0, .laload, .iload 6, .i2l, .lcmp, .ifCond .eq 1681, .bipush 0, .freturn] := rfl
set_option maxRecDepth 4000 in
theorem kl_1681 : lkL 1681 = [.goto 2859] := rfl
set_option maxRecDepth 4000 in
theorem kl_1684 : lkL 1684 = [.aload 1, .aload 0, .iload 4, .bipush 1, .iadd, .iaload, .aload 0, .iload 4, .bipush 2, .iadd, .iaload, .aload 3, .invokeinterface 369 4, .istore 5, .aload 2, .aload 0, .iload 4, .bipush 1, .iadd, .iaload, .aload 0, .iload 4, .bipush 2, .iadd, .iaload, .invokeinterface 307 3, .istore 6, .aload 2, .invokeinterface 199 1, .iload 5, .if_icmp .eq 1732, .bipush 0, .freturn] := rfl
set_option maxRecDepth 4000 in
theorem kl_1732 : lkL 1732 = [.iload 5, .ifCond .ne 1756, .aload 3, .bipush 0, .laload, .iload 6, .ifCond .eq 1749, .sipush 1, .goto 1750] := rfl
set_option maxRecDepth 4000 in
theorem kl_1749 : lkL 1749 = [.sipush 0, .jsr 1750] := rfl
set_option maxRecDepth 4000 in
theorem kl_1750 : lkL 1750 = [.lcmp, .ifCond .eq 1756, .bipush 0, .freturn] := rfl
set_option maxRecDepth 4000 in
theorem kl_1756 : lkL 1756 = [.goto 2859] := rfl
set_option maxRecDepth 4000 in
theorem kl_1759 : lkL 1759 = [.aload 1, .invokeinterface 164 1, .aload 2, .invokeinterface 308 1, .if_icmp .eq 2859, .bipush 0, .freturn] := rfl
set_option maxRecDepth 4000 in
theorem kl_1772 : lkL 1772 = [.aload 1, .aload 0, .iload 4, .bipush 1, .iadd, .iaload, .aload 0, .iload 4, .bipush 2, .iadd, .iaload, .aload 0, .iload 4, .bipush 3, .iadd, .iaload, .aload 3, .invokeinterface 370 5, .istore 5, .aload 2, .aload 0, .iload 4, .bipush 1, .iadd, .iaload, .aload 0, .iload 4, .bipush 2, .iadd, .iaload, .aload 0, .iload 4, .bipush 3, .iadd, .iaload, .invokeinterface 312 4, .istore 6, .aload 2, .invokeinterface 199 1, .iload 5, .if_icmp .eq 1832, .bipush 0, .freturn] := rfl
set_option maxRecDepth 4000 in
theorem kl_1832 : lkL 1832 = [.iload 5, .ifCond .ne 1849, .aload 3, .bipush 0, .laload, .iload 6, .i2l, .lcmp, .ifCond .eq 1849, .bipush 0, .freturn] := rfl
set_option maxRecDepth 4000 in
theorem kl_1849 : lkL 1849 = [.goto 2859] := rfl
set_option maxRecDepth 4000 in
theorem kl_1852 : lkL 1852 = [.aload 1, .invokeinterface 169 1, .aload 2, .invokeinterface 314 1, .if_icmp .eq 2859, .bipush 0, .freturn] := rfl
set_option maxRecDepth 4000 in
theorem kl_1865 : lkL 1865 = [.aload 1, .invokeinterface 170 1, .aload 2, .invokeinterface 316 1, .if_icmp .eq 2859, .bipush 0, .freturn] := rfl
set_option maxRecDepth 4000 in
theorem kl_1878 : lkL 1878 = [.aload 1, .invokeinterface 171 1, .aload 2, .invokeinterface 317 1, .if_icmp .eq 2859, .bipush 0, .freturn] := rfl
set_option maxRecDepth 4000 in
theorem kl_1891 : lkL 1891 = [.aload 1, .invokeinterface 172 1, .aload 2, .invokeinterface 318 1, .if_icmp .eq 2859, .bipush 0, .freturn] := rfl
set_option maxRecDepth 4000 in
theorem kl_1904 : lkL 1904 = [.aload 1, .invokeinterface 173 1, .aload 2, .invokeinterface 320 1, .if_icmp .eq 2859, .bipush 0, .freturn] := rfl
set_option maxRecDepth 4000 in
theorem kl_1917 : lkL 1917 = [.aload 1, .invokeinterface 174 1, .aload 2, .invokeinterface 321 1, .if_icmp .eq 2859, .bipush 0, .freturn] := rfl
set_option maxRecDepth 4000 in
theorem kl_1930 : lkL 1930 = [.aload 1, .aload 0, .iload 4, .bipush 1, .iadd, .iaload, .aload 3, .invokeinterface 371 3, .istore 5, .aload 2, .aload 0, .iload 4, .bipush 1, .iadd, .iaload, .invokeinterface 326 2, .istore 6, .aload 2, .invokeinterface 199 1, .iload 5, .if_icmp .eq 1966, .bipush 0, .freturn] := rfl
set_option maxRecDepth 4000 in
theorem kl_1966 : lkL 1966 = [.iload 5, .ifCond .ne 1983, .aload 3, .bipush 0, .laload, .iload 6, .i2l, .lcmp, .ifCond .eq 1983, .bipush 0, .freturn] := rfl
set_option maxRecDepth 4000 in
theorem kl_1983 : lkL 1983 = [.goto 2859] := rfl
set_option maxRecDepth 4000 in
theorem kl_1986 : lkL 1986 = [.aload 1, .aload 0, .iload 4, .bipush 1, .iadd, .iaload, .aload 0, .iload 4, .bipush 2, .iadd, .iaload, .aload 3, .invokeinterface 372 4, .istore 5, .aload 2, .aload 0, .iload 4, .bipush 1, .iadd, .iaload, .aload 0, .iload 4, .bipush 2, .iadd, .iaload, .invokeinterface 327 3, .istore 6, .aload 2, .invokeinterface 199 1, .iload 5, .if_icmp .eq 2034, .bipush 0, .freturn] := rfl
set_option maxRecDepth 4000 in
theorem kl_2034 : lkL 2034 = [.iload 5, .ifCond .ne 2051, .aload 3, .bipush 0, .laload, .iload 6, .i2l, .lcmp, .ifCond .eq 2051, .bipush 0, .freturn] := rfl
set_option maxRecDepth 4000 in
theorem kl_2051 : lkL 2051 = [.goto 2859] := rfl
set_option maxRecDepth 4000 in
theorem kl_2054 : lkL 2054 = [.aload 1, .aload 0, .iload 4, .bipush 1, .iadd, .iaload, .aload 0, .iload 4, .bipush 2, .iadd, .iaload, .aload 3, .invokeinterface 373 4, .istore 5, .aload 2, .aload 0, .iload 4, .bipush 1, .iadd, .iaload, .aload 0, .iload 4, .bipush 2, .iadd, .iaload, .invokeinterface 330 3, .istore 6, .aload 2, .invokeinterface 199 1, .iload 5, .if_icmp .eq 2102, .bipush 0, .freturn] := rfl
set_option maxRecDepth 4000 in
theorem kl_2102 : lkL 2102 = [.iload 5, .ifCond .ne 2119, .aload 3, .bipush 0, .laload, .iload 6, .i2l, .lcmp, .ifCond .eq 2119, .bipush 0, .freturn] := rfl
set_option maxRecDepth 4000 in
theorem kl_2119 : lkL 2119 = [.goto 2859] := rfl
set_option maxRecDepth 4000 in
theorem kl_2122 : lkL 2122 = [.aload 1, .aload 0, .iload 4, .bipush 1, .iadd, .iaload, .aload 0, .iload 4, .bipush 2, .iadd, .iaload, .aload 3, .invokeinterface 374 4, .istore 5, .aload 2, .aload 0, .iload 4, .bipush 1, .iadd, .iaload, .aload 0, .iload 4, .bipush 2, .iadd, .iaload, .invokeinterface 331 3, .istore 6, .aload 2, .invokeinterface 199 1, .iload 5, .if_icmp .eq 2170, .bipush 0, .freturn] := rfl
set_option maxRecDepth 4000 in
theorem kl_2170 : lkL 2170 = [.iload 5, .ifCond .ne 2187, .aload 3, .bipush 0, .laload, .iload 6, .i2l, .lcmp, .ifCond .eq 2187, .bipush 0, .freturn] := rfl
set_option maxRecDepth 4000 in
theorem kl_2187 : lkL 2187 = [.goto 2859] := rfl
set_option maxRecDepth 4000 in
theorem kl_2190 : lkL 2190 = [.aload 1, .aload 0, .iload 4, .bipush 1, .iadd, .iaload, .aload 3, .invokeinterface 375 3, .istore 5, .aload 2, .aload 0, .iload 4, .bipush 1, .iadd, .iaload, .invokeinterface 333 2, .istore 6, .aload 2, .invokeinterface 199 1, .iload 5, .if_icmp .eq 2226, .bipush 0, .freturn] := rfl
set_option maxRecDepth 4000 in
theorem kl_2226 : lkL 2226 = [.iload 5, .ifCond .ne 2243, .aload 3, .bipush 0, .laload, .iload 6, .i2l, .lcmp, .ifCond .eq 2243, .bipush 0, .freturn] := rfl
set_option maxRecDepth 4000 in
theorem kl_2243 : lkL 2243 = [.goto 2859] := rfl
set_option maxRecDepth 4000 in
theorem kl_2246 : lkL 2246 = [.aload 1, .aload 0, .iload 4, .bipush 1, .iadd, .iaload, .ifCond .eq 2260, .bipush 1, .goto 2261] := rfl
set_option maxRecDepth 4000 in
theorem kl_2260 : lkL 2260 = [.bipush 0, .jsr 2261] := rfl
set_option maxRecDepth 4000 in
theorem kl_2261 : lkL 2261 = [.invokeinterface 185 2, .aload 2, .aload 0, .iload 4, .bipush 1, .iadd, .iaload, .ifCond .eq 2278, .bipush 1, .goto 2279] := rfl
set_option maxRecDepth 4000 in
theorem kl_2278 : lkL 2278 = [.bipush 0, .jsr 2279] := rfl
set_option maxRecDepth 4000 in
theorem kl_2279 : lkL 2279 = [.invokeinterface 334 2, .if_icmp .eq 2859, .bipush 0, .freturn] := rfl
set_option maxRecDepth 4000 in
theorem kl_2287 : lkL 2287 = [.aload 1, .invokeinterface 167 1, .aload 2, .invokeinterface 335 1, .if_icmp .eq 2859, .bipush 0, .freturn] := rfl
set_option maxRecDepth 4000 in
theorem kl_2300 : lkL 2300 = [.aload 1, .aload 0, .iload 4, .bipush 1, .iadd, .iaload, .aload 3, .invokeinterface 376 3, .istore 5, .aload 2, .aload 0, .iload 4, .bipush 1, .iadd, .iaload, .invokeinterface 336 2, .istore 6, .aload 2, .invokeinterface 199 1, .iload 5, .if_icmp .eq 2336, .bipush 0, .freturn] := rfl
set_option maxRecDepth 4000 in
theorem kl_2336 : lkL 2336 = [.iload 5, .ifCond .ne 2353, .aload 3, .bipush 0, .laload, .iload 6, .i2l, .lcmp, .ifCond .eq 2353, .bipush 0, .freturn] := rfl
set_option maxRecDepth 4000 in
theorem kl_2353 : lkL 2353 = [.goto 2859] := rfl
set_option maxRecDepth 4000 in
theorem kl_2356 : lkL 2356 = [.aload 1, .aload 0, .iload 4, .bipush 1, .iadd, .iaload, .aload 0, .iload 4, .bipush 2, .iadd, .iaload, .aload 0, .iload 4, .bipush 3, .iadd, .iaload, .ifCond .eq 2382, .bipush 1, .goto 2383] := rfl
set_option maxRecDepth 4000 in
theorem kl_2382 : lkL 2382 = [.bipush 0, .jsr 2383] := rfl
set_option maxRecDepth 4000 in
theorem kl_2383 : lkL 2383 = [.aload 3, .invokeinterface 377 5, .istore 5, .aload 2, .aload 0, .iload 4, .bipush 1, .iadd, .iaload, .aload 0, .iload 4, .bipush 2, .iadd, .iaload, .aload 0, .iload 4, .bipush 3, .iadd, .iaload, .ifCond .eq 2415, .bipush 1, .goto 2416] := rfl
set_option maxRecDepth 4000 in
theorem kl_2415 : lkL 2415 = [.bipush 0, .jsr 2416] := rfl
set_option maxRecDepth 4000 in
theorem kl_2416 : lkL 2416 = [.invokeinterface 337 4, .istore 6, .aload 2, .invokeinterface 199 1, .iload 5, .if_icmp .eq 2432, .bipush 0, .freturn] := rfl
set_option maxRecDepth 4000 in
theorem kl_2432 : lkL 2432 = [.iload 5, .ifCond .ne 2449, .aload 3, .bipush 0, .laload, .iload 6, .i2l, .lcmp, .ifCond .eq 2449, .bipush 0, .freturn] := rfl
set_option maxRecDepth 4000 in
theorem kl_2449 : lkL 2449 = [.goto 2859] := rfl
set_option maxRecDepth 4000 in
theorem kl_2452 : lkL 2452 = [.aload 1, .aload 0, .iload 4, .bipush 1, .iadd, .iaload, .aload 0, .iload 4, .bipush 2, .iadd, .iaload, .ifCond .eq 2472, .bipush 1, .goto 2473] := rfl
set_option maxRecDepth 4000 in
theorem kl_2472 : lkL 2472 = [.bipush 0, .jsr 2473] := rfl
set_option maxRecDepth 4000 in
theorem kl_2473 : lkL 2473 = [.aload 3, .invokeinterface 378 4, .istore 5, .aload 2, .aload 0, .iload 4, .bipush 1, .iadd, .iaload, .aload 0, .iload 4, .bipush 2, .iadd, .iaload, .ifCond .eq 2499, .bipush 1, .goto 2500] := rfl
set_option maxRecDepth 4000 in
theorem kl_2499 : lkL 2499 = [.bipush 0, .jsr 2500] := rfl
set_option maxRecDepth 4000 in
theorem kl_2500 : lkL 2500 = [.invokeinterface 338 3, .istore 6, .aload 2, .invokeinterface 199 1, .iload 5, .if_icmp .eq 2516, .bipush 0, .freturn] := rfl
set_option maxRecDepth 4000 in
theorem kl_2516 : lkL 2516 = [.iload 5, .ifCond .ne 2533, .aload 3, .bipush 0, .laload, .iload 6, .i2l, .lcmp, .ifCond .eq 2533, .bipush 0, .freturn] := rfl
set_option maxRecDepth 4000 in
theorem kl_2533 : lkL 2533 = [.goto 2859] := rfl
set_option maxRecDepth 4000 in
theorem kl_2536 : lkL 2536 = [.aload 1, .aload 0, .iload 4, .bipush 1, .iadd, .iaload, .aload 0, .iload 4, .bipush 2, .iadd, .iaload, .ifCond .eq 2556, .bipush 1, .goto 2557] := rfl
set_option maxRecDepth 4000 in
theorem kl_2556 : lkL 2556 = [.bipush 0, .jsr 2557] := rfl
set_option maxRecDepth 4000 in
theorem kl_2557 : lkL 2557 = [.aload 3, .invokeinterface 379 4, .istore 5, .aload 2, .aload 0, .iload 4, .bipush 1, .iadd, .iaload, .aload 0, .iload 4, .bipush 2, .iadd, .iaload, .ifCond .eq 2583, .bipush 1, .goto 2584] := rfl
set_option maxRecDepth 4000 in
theorem kl_2583 : lkL 2583 = [.bipush 0, .jsr 2584] := rfl
set_option maxRecDepth 4000 in
theorem kl_2584 : lkL 2584 = [.invokeinterface 339 3, .istore 6, .aload 2, .invokeinterface 199 1, .iload 5, .if_icmp .eq 2600, .bipush 0, .freturn] := rfl
set_option maxRecDepth 4000 in
theorem kl_2600 : lkL 2600 = [.iload 5, .ifCond .ne 2617, .aload 3, .bipush 0, .laload, .iload 6, .i2l, .lcmp, .ifCond .eq 2617, .bipush 0, .freturn] := rfl
set_option maxRecDepth 4000 in
theorem kl_2617 : lkL 2617 = [.goto 2859] := rfl
set_option maxRecDepth 4000 in
theorem kl_2620 : lkL 2620 = [.aload 1, .aload 0, .iload 4, .bipush 1, .iadd, .iaload, .aload 0, .iload 4, .bipush 2, .iadd, .iaload, .ifCond .eq 2640, .bipush 1, .goto 2641] := rfl
set_option maxRecDepth 4000 in
theorem kl_2640 : lkL 2640 = [.bipush 0, .jsr 2641] := rfl
set_option maxRecDepth 4000 in
theorem kl_2641 : lkL 2641 = [.aload 3, .invokeinterface 380 4, .istore 5, .aload 2, .aload 0, .iload 4, .bipush 1, .iadd, .iaload, .aload 0, .iload 4, .bipush 2, .iadd, .iaload, .ifCond .eq 2667, .bipush 1, .goto 2668] := rfl
set_option maxRecDepth 4000 in
theorem kl_2667 : lkL 2667 = [.bipush 0, .jsr 2668] := rfl
set_option maxRecDepth 4000 in
theorem kl_2668 : lkL 2668 = [.invokeinterface 341 3, .istore 6, .aload 2, .invokeinterface 199 1, .iload 5, .if_icmp .eq 2684, .bipush 0, .freturn] := rfl
set_option maxRecDepth 4000 in
theorem kl_2684 : lkL 2684 = [.iload 5, .ifCond .ne 2701, .aload 3, .bipush 0, .laload, .iload 6, .i2l, .lcmp, .ifCond .eq 2701, .bipush 0, .freturn] := rfl
set_option maxRecDepth 4000 in
theorem kl_2701 : lkL 2701 = [.goto 2859] := rfl
set_option maxRecDepth 4000 in
theorem kl_2704 : lkL 2704 = [.aload 1, .aload 0, .iload 4, .bipush 1, .iadd, .iaload, .aload 0, .iload 4, .bipush 2, .iadd, .iaload, .aload 3, .invokeinterface 381 4, .istore 5, .aload 2, .aload 0, .iload 4, .bipush 1, .iadd, .iaload, .aload 0, .iload 4, .bipush 2, .iadd, .iaload, .invokeinterface 342 3, .istore 6, .aload 2, .invokeinterface 199 1, .iload 5, .if_icmp .eq 2752, .bipush 0, .freturn] := rfl
set_option maxRecDepth 4000 in
theorem kl_2752 : lkL 2752 = [.iload 5, .ifCond .ne 2769, .aload 3, .bipush 0, .laload, .iload 6, .i2l, .lcmp, .ifCond .eq 2769, .bipush 0, .freturn] := rfl
set_option maxRecDepth 4000 in
theorem kl_2769 : lkL 2769 = [.goto 2859] := rfl
set_option maxRecDepth 4000 in
theorem kl_2772 : lkL 2772 = [.aload 1, .aload 0, .iload 4, .bipush 1, .iadd, .iaload, .invokeinterface 192 2, .aload 2, .aload 0, .iload 4, .bipush 1, .iadd, .iaload, .invokeinterface 343 2, .if_icmp .eq 2859, .bipush 0, .freturn] := rfl
set_option maxRecDepth 4000 in
theorem kl_2797 : lkL 2797 = [.aload 1, .invokeinterface 193 1, .aload 2, .invokeinterface 344 1, .if_icmp .eq 2859, .bipush 0, .freturn] := rfl
set_option maxRecDepth 4000 in
theorem kl_2810 : lkL 2810 = [.aload 1, .invokeinterface 195 1, .aload 2, .invokeinterface 345 1, .goto 2859] := rfl
set_option maxRecDepth 4000 in
theorem kl_2821 : lkL 2821 = [.aload 1, .invokeinterface 196 1, .aload 2, .invokeinterface 346 1, .if_icmp .eq 2859, .bipush 0, .freturn] := rfl
set_option maxRecDepth 4000 in
theorem kl_2834 : lkL 2834 = [.aload 1, .aload 0, .iload 4, .bipush 1, .iadd, .iaload, .invokeinterface 197 2, .aload 2, .aload 0, .iload 4, .bipush 1, .iadd, .iaload, .invokeinterface 347 2, .if_icmp .eq 2859, .bipush 0, .freturn] := rfl
set_option maxRecDepth 4000 in
theorem kl_2859 : lkL 2859 = [.iinc 4 6, .goto 23] := rfl
set_option maxRecDepth 4000 in
theorem kl_2865 : lkL 2865 = [.bipush 1, .freturn] := rfl
section LawC
variable {tb : Tab} {d : Nat} {K : Out → AM → Prop} {r : Int → Int} {S : Nat → Int → Int} {m : AM} {i : Int} {z5 z6 : AV}
/-- what a case owes: with what always holds at its begin it comes to the loop's end, with what always holds -/
def CASE (tb : Tab) (d : Nat) (K : Out → AM → Prop) (L : Nat) (i : Int) : Prop := ∀ (r : Int → Int) (S : Nat → Int → Int) (m : AM) (z5 z6 : AV), TOP r S m → (∀ r2 T m2 y5 y6, TOP r2 T m2 → GRW m m2 → AtL tb d K 2859 [vx 0, vr 0, vr 300, vr 316, vi i, y5, y6] [] (X T m2)) → AtL tb d K L [vx 0, vr 0, vr 300, vr 316, vi i, z5, z6] [] (X S m)
theorem s_264 (hX : tb.2.1 = strB) (hD : tb.1 2 = [vi 0, vn, vn, vn, vn, vn]) (h0 : 0 ≤ i) (h6 : i + 6 ≤ (tb.2.2.1 : Int)) (hf : ∀ j, R32 (tb.2.2.2 j)) : CASE tb (d + 80) K 264 i := by
  intro r S m z5 z6 h hK
  have h1 : 0 ≤ i + 1 ∧ i + 1 < (tb.2.2.1 : Int) := by omega
  have g1 := hf (i + 1).toNat
  obtain ⟨x1, e1⟩ : ∃ x, x = tb.2.2.2 (i + 1).toNat := ⟨_, rfl⟩
  rw [← e1] at g1
  have h2 : 0 ≤ i + 2 ∧ i + 2 < (tb.2.2.1 : Int) := by omega
  have g2 := hf (i + 2).toNat
  obtain ⟨x2, e2⟩ : ∃ x, x = tb.2.2.2 (i + 2).toNat := ⟨_, rfl⟩
  rw [← e2] at g2
  have h3 : 0 ≤ i + 3 ∧ i + 3 < (tb.2.2.1 : Int) := by omega
  have g3 := hf (i + 3).toNat
  obtain ⟨x3, e3⟩ : ∃ x, x = tb.2.2.2 (i + 3).toNat := ⟨_, rfl⟩
  rw [← e3] at g3
  have h4 : 0 ≤ i + 4 ∧ i + 4 < (tb.2.2.1 : Int) := by omega
  have g4 := hf (i + 4).toNat
  obtain ⟨x4, e4⟩ : ∃ x, x = tb.2.2.2 (i + 4).toNat := ⟨_, rfl⟩
  rw [← e4] at g4
  have h5 : 0 ≤ i + 5 ∧ i + 5 < (tb.2.2.1 : Int) := by omega
  have g5 := hf (i + 5).toNat
  obtain ⟨x5, e5⟩ : ∃ x, x = tb.2.2.2 (i + 5).toNat := ⟨_, rfl⟩
  rw [← e5] at g5
  rw [AtL.eq kl_264]
  simp only [w_aload, w_iload, w_iconst, w_lconst, w_iadd, w_ialoads, w_call, w_istore, w_goto, w_fall, w_if, w_ifc, w_i2l, w_lcmp, w_zreturn, x_lald isA_316x, len_316x, cI, Int.reduceToNat, Option.toList, List.getElem?_cons_zero, List.getElem?_cons_succ, List.set_cons_zero, List.set_cons_succ, List.cons_append, List.nil_append, List.replicate_succ, List.replicate_zero, List.take_succ_cons, List.take_zero, List.drop_succ_cons, List.drop_zero, List.reverse_cons, List.reverse_nil, List.length_cons, List.length_nil, Option.toList, true_and, and_true, eq_self, ↓reduceIte, not_true_eq_false, not_false_eq_true, true_or, or_true, List.append_eq, h1, ← e1, h2, ← e2, h3, ← e3, h4, ← e4, h5, ← e5]
  refine ⟨⟨by omega, by omega⟩, ?_⟩
  refine (p_128 h) (d + 10) _ (fun v S1 m1 _ g nx => ?_) (fun E c S1 m1 he _ _ => by simp at he)
  simp only [w_aload, w_iload, w_iconst, w_lconst, w_iadd, w_ialoads, w_call, w_istore, w_goto, w_fall, w_if, w_ifc, w_i2l, w_lcmp, w_zreturn, x_lald isA_316x, len_316x, cI, Int.reduceToNat, Option.toList, List.getElem?_cons_zero, List.getElem?_cons_succ, List.set_cons_zero, List.set_cons_succ, List.cons_append, List.nil_append, List.replicate_succ, List.replicate_zero, List.take_succ_cons, List.take_zero, List.drop_succ_cons, List.drop_zero, List.reverse_cons, List.reverse_nil, List.length_cons, List.length_nil, Option.toList, true_and, and_true, eq_self, ↓reduceIte, not_true_eq_false, not_false_eq_true, true_or, or_true, List.append_eq, h1, ← e1, h2, ← e2, h3, ← e3, h4, ← e4, h5, ← e5]
  refine ⟨⟨by omega, by omega⟩, ?_⟩
  refine nx S1 (fun _ _ => rfl) (d + 10) _ (fun T b r2 th en p => ?_)
  simp only [w_aload, w_iload, w_iconst, w_lconst, w_iadd, w_ialoads, w_call, w_istore, w_goto, w_fall, w_if, w_ifc, w_i2l, w_lcmp, w_zreturn, x_lald isA_316x, len_316x, cI, Int.reduceToNat, Option.toList, List.getElem?_cons_zero, List.getElem?_cons_succ, List.set_cons_zero, List.set_cons_succ, List.cons_append, List.nil_append, List.replicate_succ, List.replicate_zero, List.take_succ_cons, List.take_zero, List.drop_succ_cons, List.drop_zero, List.reverse_cons, List.reverse_nil, List.length_cons, List.length_nil, Option.toList, true_and, and_true, eq_self, ↓reduceIte, not_true_eq_false, not_false_eq_true, true_or, or_true, List.append_eq, h1, ← e1, h2, ← e2, h3, ← e3, h4, ← e4, h5, ← e5]
  refine ⟨Or.inr p.2.symm, fun _ => hK r2 T m1 _ _ en.1 g, fun w => absurd p.2.symm w⟩
theorem s_337 (hX : tb.2.1 = strB) (hD : tb.1 2 = [vi 0, vn, vn, vn, vn, vn]) (h0 : 0 ≤ i) (h6 : i + 6 ≤ (tb.2.2.1 : Int)) (hf : ∀ j, R32 (tb.2.2.2 j)) : CASE tb (d + 80) K 337 i := by
  intro r S m z5 z6 h hK
  have h1 : 0 ≤ i + 1 ∧ i + 1 < (tb.2.2.1 : Int) := by omega
  have g1 := hf (i + 1).toNat
  obtain ⟨x1, e1⟩ : ∃ x, x = tb.2.2.2 (i + 1).toNat := ⟨_, rfl⟩
  rw [← e1] at g1
  rw [AtL.eq kl_337]
  simp only [w_aload, w_iload, w_iconst, w_lconst, w_iadd, w_ialoads, w_call, w_istore, w_goto, w_fall, w_if, w_ifc, w_i2l, w_lcmp, w_zreturn, x_lald isA_316x, len_316x, cI, Int.reduceToNat, Option.toList, List.getElem?_cons_zero, List.getElem?_cons_succ, List.set_cons_zero, List.set_cons_succ, List.cons_append, List.nil_append, List.replicate_succ, List.replicate_zero, List.take_succ_cons, List.take_zero, List.drop_succ_cons, List.drop_zero, List.reverse_cons, List.reverse_nil, List.length_cons, List.length_nil, Option.toList, true_and, and_true, eq_self, ↓reduceIte, not_true_eq_false, not_false_eq_true, true_or, or_true, List.append_eq, h1, ← e1]
  refine ⟨⟨by omega, by omega⟩, ?_⟩
  refine (p_130 g1 h) (d + 10) _ (fun v S1 m1 _ g nx => ?_) (fun E c S1 m1 he _ _ => by simp at he)
  simp only [w_aload, w_iload, w_iconst, w_lconst, w_iadd, w_ialoads, w_call, w_istore, w_goto, w_fall, w_if, w_ifc, w_i2l, w_lcmp, w_zreturn, x_lald isA_316x, len_316x, cI, Int.reduceToNat, Option.toList, List.getElem?_cons_zero, List.getElem?_cons_succ, List.set_cons_zero, List.set_cons_succ, List.cons_append, List.nil_append, List.replicate_succ, List.replicate_zero, List.take_succ_cons, List.take_zero, List.drop_succ_cons, List.drop_zero, List.reverse_cons, List.reverse_nil, List.length_cons, List.length_nil, Option.toList, true_and, and_true, eq_self, ↓reduceIte, not_true_eq_false, not_false_eq_true, true_or, or_true, List.append_eq, h1, ← e1]
  refine ⟨⟨by omega, by omega⟩, ?_⟩
  refine nx S1 (fun _ _ => rfl) (d + 10) _ (fun T b r2 th en p => ?_)
  simp only [w_aload, w_iload, w_iconst, w_lconst, w_iadd, w_ialoads, w_call, w_istore, w_goto, w_fall, w_if, w_ifc, w_i2l, w_lcmp, w_zreturn, x_lald isA_316x, len_316x, cI, Int.reduceToNat, Option.toList, List.getElem?_cons_zero, List.getElem?_cons_succ, List.set_cons_zero, List.set_cons_succ, List.cons_append, List.nil_append, List.replicate_succ, List.replicate_zero, List.take_succ_cons, List.take_zero, List.drop_succ_cons, List.drop_zero, List.reverse_cons, List.reverse_nil, List.length_cons, List.length_nil, Option.toList, true_and, and_true, eq_self, ↓reduceIte, not_true_eq_false, not_false_eq_true, true_or, or_true, List.append_eq, h1, ← e1]
  refine ⟨Or.inr p.2.symm, fun _ => hK r2 T m1 _ _ en.1 g, fun w => absurd p.2.symm w⟩
theorem s_362 (hX : tb.2.1 = strB) (hD : tb.1 2 = [vi 0, vn, vn, vn, vn, vn]) (h0 : 0 ≤ i) (h6 : i + 6 ≤ (tb.2.2.1 : Int)) (hf : ∀ j, R32 (tb.2.2.2 j)) : CASE tb (d + 80) K 362 i := by
  intro r S m z5 z6 h hK
  rw [AtL.eq kl_362]
  simp only [w_aload, w_iload, w_iconst, w_lconst, w_iadd, w_ialoads, w_call, w_istore, w_goto, w_fall, w_if, w_ifc, w_i2l, w_lcmp, w_zreturn, x_lald isA_316x, len_316x, cI, Int.reduceToNat, Option.toList, List.getElem?_cons_zero, List.getElem?_cons_succ, List.set_cons_zero, List.set_cons_succ, List.cons_append, List.nil_append, List.replicate_succ, List.replicate_zero, List.take_succ_cons, List.take_zero, List.drop_succ_cons, List.drop_zero, List.reverse_cons, List.reverse_nil, List.length_cons, List.length_nil, Option.toList, true_and, and_true, eq_self, ↓reduceIte, not_true_eq_false, not_false_eq_true, true_or, or_true, List.append_eq]
  refine ⟨⟨by omega, by omega⟩, ?_⟩
  refine (y_348 (p_131 hX h)) (d + 8) _ (fun c S1 m1 c0 c3 g lr => ?_)
  simp only [w_aload, w_iload, w_iconst, w_lconst, w_iadd, w_ialoads, w_call, w_istore, w_goto, w_fall, w_if, w_ifc, w_i2l, w_lcmp, w_zreturn, x_lald isA_316x, len_316x, cI, Int.reduceToNat, Option.toList, List.getElem?_cons_zero, List.getElem?_cons_succ, List.set_cons_zero, List.set_cons_succ, List.cons_append, List.nil_append, List.replicate_succ, List.replicate_zero, List.take_succ_cons, List.take_zero, List.drop_succ_cons, List.drop_zero, List.reverse_cons, List.reverse_nil, List.length_cons, List.length_nil, Option.toList, true_and, and_true, eq_self, ↓reduceIte, not_true_eq_false, not_false_eq_true, true_or, or_true, List.append_eq]
  refine ⟨⟨by omega, by omega⟩, ?_⟩
  refine lr (d + 10) _ (fun T b r2 th en p => ?_)
  obtain ⟨p1, p2⟩ := p
  simp only [w_aload, w_iload, w_iconst, w_lconst, w_iadd, w_ialoads, w_call, w_istore, w_goto, w_fall, w_if, w_ifc, w_i2l, w_lcmp, w_zreturn, x_lald isA_316x, len_316x, cI, Int.reduceToNat, Option.toList, List.getElem?_cons_zero, List.getElem?_cons_succ, List.set_cons_zero, List.set_cons_succ, List.cons_append, List.nil_append, List.replicate_succ, List.replicate_zero, List.take_succ_cons, List.take_zero, List.drop_succ_cons, List.drop_zero, List.reverse_cons, List.reverse_nil, List.length_cons, List.length_nil, Option.toList, true_and, and_true, eq_self, ↓reduceIte, not_true_eq_false, not_false_eq_true, true_or, or_true, List.append_eq]
  refine ⟨⟨by omega, by omega⟩, ?_⟩
  refine q_199 (d := d + 79) ?_
  simp only [w_aload, w_iload, w_iconst, w_lconst, w_iadd, w_ialoads, w_call, w_istore, w_goto, w_fall, w_if, w_ifc, w_i2l, w_lcmp, w_zreturn, x_lald isA_316x, len_316x, cI, Int.reduceToNat, Option.toList, List.getElem?_cons_zero, List.getElem?_cons_succ, List.set_cons_zero, List.set_cons_succ, List.cons_append, List.nil_append, List.replicate_succ, List.replicate_zero, List.take_succ_cons, List.take_zero, List.drop_succ_cons, List.drop_zero, List.reverse_cons, List.reverse_nil, List.length_cons, List.length_nil, Option.toList, true_and, and_true, eq_self, ↓reduceIte, not_true_eq_false, not_false_eq_true, true_or, or_true, List.append_eq]
  have e7 : T 300 0 = c := en.2.2.trans p1
  refine ⟨Or.inr e7, fun _ => ?_, fun w => absurd e7 w⟩
  rw [AtL.eq kl_386]
  simp only [w_aload, w_iload, w_iconst, w_lconst, w_iadd, w_ialoads, w_call, w_istore, w_goto, w_fall, w_if, w_ifc, w_i2l, w_lcmp, w_zreturn, x_lald isA_316x, len_316x, cI, Int.reduceToNat, Option.toList, List.getElem?_cons_zero, List.getElem?_cons_succ, List.set_cons_zero, List.set_cons_succ, List.cons_append, List.nil_append, List.replicate_succ, List.replicate_zero, List.take_succ_cons, List.take_zero, List.drop_succ_cons, List.drop_zero, List.reverse_cons, List.reverse_nil, List.length_cons, List.length_nil, Option.toList, true_and, and_true, eq_self, ↓reduceIte, not_true_eq_false, not_false_eq_true, true_or, or_true, List.append_eq]
  refine ⟨by unfold R32; omega, fun y => ?_, fun y => ?_⟩
  · rw [AtL.eq kl_403]
    simp only [w_aload, w_iload, w_iconst, w_lconst, w_iadd, w_ialoads, w_call, w_istore, w_goto, w_fall, w_if, w_ifc, w_i2l, w_lcmp, w_zreturn, x_lald isA_316x, len_316x, cI, Int.reduceToNat, Option.toList, List.getElem?_cons_zero, List.getElem?_cons_succ, List.set_cons_zero, List.set_cons_succ, List.cons_append, List.nil_append, List.replicate_succ, List.replicate_zero, List.take_succ_cons, List.take_zero, List.drop_succ_cons, List.drop_zero, List.reverse_cons, List.reverse_nil, List.length_cons, List.length_nil, Option.toList, true_and, and_true, eq_self, ↓reduceIte, not_true_eq_false, not_false_eq_true, true_or, or_true, List.append_eq]
    exact hK r2 T m1 _ _ en.1 g
  · have y0 : c = 0 := by omega
    obtain ⟨q1, q2⟩ := p2 y0
    have e9 : T 316 0 = b := (congrFun en.2.1 0).trans q1
    simp only [e9, cmp_self]
    refine ⟨⟨by decide, by decide⟩, q2, ⟨R64_32 q2, R64_32 q2⟩, R32_00, fun _ => ?_, fun w => by simp at w⟩
    rw [AtL.eq kl_403]
    simp only [w_aload, w_iload, w_iconst, w_lconst, w_iadd, w_ialoads, w_call, w_istore, w_goto, w_fall, w_if, w_ifc, w_i2l, w_lcmp, w_zreturn, x_lald isA_316x, len_316x, cI, Int.reduceToNat, Option.toList, List.getElem?_cons_zero, List.getElem?_cons_succ, List.set_cons_zero, List.set_cons_succ, List.cons_append, List.nil_append, List.replicate_succ, List.replicate_zero, List.take_succ_cons, List.take_zero, List.drop_succ_cons, List.drop_zero, List.reverse_cons, List.reverse_nil, List.length_cons, List.length_nil, Option.toList, true_and, and_true, eq_self, ↓reduceIte, not_true_eq_false, not_false_eq_true, true_or, or_true, List.append_eq]
    exact hK r2 T m1 _ _ en.1 g
theorem s_406 (hX : tb.2.1 = strB) (hD : tb.1 2 = [vi 0, vn, vn, vn, vn, vn]) (h0 : 0 ≤ i) (h6 : i + 6 ≤ (tb.2.2.1 : Int)) (hf : ∀ j, R32 (tb.2.2.2 j)) : CASE tb (d + 80) K 406 i := by
  intro r S m z5 z6 h hK
  rw [AtL.eq kl_406]
  simp only [w_aload, w_iload, w_iconst, w_lconst, w_iadd, w_ialoads, w_call, w_istore, w_goto, w_fall, w_if, w_ifc, w_i2l, w_lcmp, w_zreturn, x_lald isA_316x, len_316x, cI, Int.reduceToNat, Option.toList, List.getElem?_cons_zero, List.getElem?_cons_succ, List.set_cons_zero, List.set_cons_succ, List.cons_append, List.nil_append, List.replicate_succ, List.replicate_zero, List.take_succ_cons, List.take_zero, List.drop_succ_cons, List.drop_zero, List.reverse_cons, List.reverse_nil, List.length_cons, List.length_nil, Option.toList, true_and, and_true, eq_self, ↓reduceIte, not_true_eq_false, not_false_eq_true, true_or, or_true, List.append_eq]
  refine ⟨⟨by omega, by omega⟩, ?_⟩
  refine (y_349 (p_132 hX hD h)) (d + 8) _ (fun c S1 m1 c0 c3 g lr => ?_)
  simp only [w_aload, w_iload, w_iconst, w_lconst, w_iadd, w_ialoads, w_call, w_istore, w_goto, w_fall, w_if, w_ifc, w_i2l, w_lcmp, w_zreturn, x_lald isA_316x, len_316x, cI, Int.reduceToNat, Option.toList, List.getElem?_cons_zero, List.getElem?_cons_succ, List.set_cons_zero, List.set_cons_succ, List.cons_append, List.nil_append, List.replicate_succ, List.replicate_zero, List.take_succ_cons, List.take_zero, List.drop_succ_cons, List.drop_zero, List.reverse_cons, List.reverse_nil, List.length_cons, List.length_nil, Option.toList, true_and, and_true, eq_self, ↓reduceIte, not_true_eq_false, not_false_eq_true, true_or, or_true, List.append_eq]
  refine ⟨⟨by omega, by omega⟩, ?_⟩
  refine lr (d + 10) _ (fun T b r2 th en p => ?_)
  obtain ⟨p1, p2⟩ := p
  simp only [w_aload, w_iload, w_iconst, w_lconst, w_iadd, w_ialoads, w_call, w_istore, w_goto, w_fall, w_if, w_ifc, w_i2l, w_lcmp, w_zreturn, x_lald isA_316x, len_316x, cI, Int.reduceToNat, Option.toList, List.getElem?_cons_zero, List.getElem?_cons_succ, List.set_cons_zero, List.set_cons_succ, List.cons_append, List.nil_append, List.replicate_succ, List.replicate_zero, List.take_succ_cons, List.take_zero, List.drop_succ_cons, List.drop_zero, List.reverse_cons, List.reverse_nil, List.length_cons, List.length_nil, Option.toList, true_and, and_true, eq_self, ↓reduceIte, not_true_eq_false, not_false_eq_true, true_or, or_true, List.append_eq]
  refine ⟨⟨by omega, by omega⟩, ?_⟩
  refine q_199 (d := d + 79) ?_
  simp only [w_aload, w_iload, w_iconst, w_lconst, w_iadd, w_ialoads, w_call, w_istore, w_goto, w_fall, w_if, w_ifc, w_i2l, w_lcmp, w_zreturn, x_lald isA_316x, len_316x, cI, Int.reduceToNat, Option.toList, List.getElem?_cons_zero, List.getElem?_cons_succ, List.set_cons_zero, List.set_cons_succ, List.cons_append, List.nil_append, List.replicate_succ, List.replicate_zero, List.take_succ_cons, List.take_zero, List.drop_succ_cons, List.drop_zero, List.reverse_cons, List.reverse_nil, List.length_cons, List.length_nil, Option.toList, true_and, and_true, eq_self, ↓reduceIte, not_true_eq_false, not_false_eq_true, true_or, or_true, List.append_eq]
  have e7 : T 300 0 = c := en.2.2.trans p1
  refine ⟨Or.inr e7, fun _ => ?_, fun w => absurd e7 w⟩
  rw [AtL.eq kl_430]
  simp only [w_aload, w_iload, w_iconst, w_lconst, w_iadd, w_ialoads, w_call, w_istore, w_goto, w_fall, w_if, w_ifc, w_i2l, w_lcmp, w_zreturn, x_lald isA_316x, len_316x, cI, Int.reduceToNat, Option.toList, List.getElem?_cons_zero, List.getElem?_cons_succ, List.set_cons_zero, List.set_cons_succ, List.cons_append, List.nil_append, List.replicate_succ, List.replicate_zero, List.take_succ_cons, List.take_zero, List.drop_succ_cons, List.drop_zero, List.reverse_cons, List.reverse_nil, List.length_cons, List.length_nil, Option.toList, true_and, and_true, eq_self, ↓reduceIte, not_true_eq_false, not_false_eq_true, true_or, or_true, List.append_eq]
  refine ⟨by unfold R32; omega, fun y => ?_, fun y => ?_⟩
  · rw [AtL.eq kl_447]
    simp only [w_aload, w_iload, w_iconst, w_lconst, w_iadd, w_ialoads, w_call, w_istore, w_goto, w_fall, w_if, w_ifc, w_i2l, w_lcmp, w_zreturn, x_lald isA_316x, len_316x, cI, Int.reduceToNat, Option.toList, List.getElem?_cons_zero, List.getElem?_cons_succ, List.set_cons_zero, List.set_cons_succ, List.cons_append, List.nil_append, List.replicate_succ, List.replicate_zero, List.take_succ_cons, List.take_zero, List.drop_succ_cons, List.drop_zero, List.reverse_cons, List.reverse_nil, List.length_cons, List.length_nil, Option.toList, true_and, and_true, eq_self, ↓reduceIte, not_true_eq_false, not_false_eq_true, true_or, or_true, List.append_eq]
    exact hK r2 T m1 _ _ en.1 g
  · have y0 : c = 0 := by omega
    obtain ⟨q1, q2⟩ := p2 y0
    have e9 : T 316 0 = b := (congrFun en.2.1 0).trans q1
    simp only [e9, cmp_self]
    refine ⟨⟨by decide, by decide⟩, q2, ⟨R64_32 q2, R64_32 q2⟩, R32_00, fun _ => ?_, fun w => by simp at w⟩
    rw [AtL.eq kl_447]
    simp only [w_aload, w_iload, w_iconst, w_lconst, w_iadd, w_ialoads, w_call, w_istore, w_goto, w_fall, w_if, w_ifc, w_i2l, w_lcmp, w_zreturn, x_lald isA_316x, len_316x, cI, Int.reduceToNat, Option.toList, List.getElem?_cons_zero, List.getElem?_cons_succ, List.set_cons_zero, List.set_cons_succ, List.cons_append, List.nil_append, List.replicate_succ, List.replicate_zero, List.take_succ_cons, List.take_zero, List.drop_succ_cons, List.drop_zero, List.reverse_cons, List.reverse_nil, List.length_cons, List.length_nil, Option.toList, true_and, and_true, eq_self, ↓reduceIte, not_true_eq_false, not_false_eq_true, true_or, or_true, List.append_eq]
    exact hK r2 T m1 _ _ en.1 g
theorem s_450 (hX : tb.2.1 = strB) (hD : tb.1 2 = [vi 0, vn, vn, vn, vn, vn]) (h0 : 0 ≤ i) (h6 : i + 6 ≤ (tb.2.2.1 : Int)) (hf : ∀ j, R32 (tb.2.2.2 j)) : CASE tb (d + 80) K 450 i := by
  intro r S m z5 z6 h hK
  rw [AtL.eq kl_450]
  simp only [w_aload, w_iload, w_iconst, w_lconst, w_iadd, w_ialoads, w_call, w_istore, w_goto, w_fall, w_if, w_ifc, w_i2l, w_lcmp, w_zreturn, x_lald isA_316x, len_316x, cI, Int.reduceToNat, Option.toList, List.getElem?_cons_zero, List.getElem?_cons_succ, List.set_cons_zero, List.set_cons_succ, List.cons_append, List.nil_append, List.replicate_succ, List.replicate_zero, List.take_succ_cons, List.take_zero, List.drop_succ_cons, List.drop_zero, List.reverse_cons, List.reverse_nil, List.length_cons, List.length_nil, Option.toList, true_and, and_true, eq_self, ↓reduceIte, not_true_eq_false, not_false_eq_true, true_or, or_true, List.append_eq]
  refine ⟨⟨by omega, by omega⟩, ?_⟩
  refine (p_133 h) (d + 10) _ (fun v S1 m1 _ g nx => ?_) (fun E c S1 m1 he _ _ => by simp at he)
  simp only [w_aload, w_iload, w_iconst, w_lconst, w_iadd, w_ialoads, w_call, w_istore, w_goto, w_fall, w_if, w_ifc, w_i2l, w_lcmp, w_zreturn, x_lald isA_316x, len_316x, cI, Int.reduceToNat, Option.toList, List.getElem?_cons_zero, List.getElem?_cons_succ, List.set_cons_zero, List.set_cons_succ, List.cons_append, List.nil_append, List.replicate_succ, List.replicate_zero, List.take_succ_cons, List.take_zero, List.drop_succ_cons, List.drop_zero, List.reverse_cons, List.reverse_nil, List.length_cons, List.length_nil, Option.toList, true_and, and_true, eq_self, ↓reduceIte, not_true_eq_false, not_false_eq_true, true_or, or_true, List.append_eq]
  refine ⟨⟨by omega, by omega⟩, ?_⟩
  refine nx S1 (fun _ _ => rfl) (d + 10) _ (fun T b r2 th en p => ?_)
  simp only [w_aload, w_iload, w_iconst, w_lconst, w_iadd, w_ialoads, w_call, w_istore, w_goto, w_fall, w_if, w_ifc, w_i2l, w_lcmp, w_zreturn, x_lald isA_316x, len_316x, cI, Int.reduceToNat, Option.toList, List.getElem?_cons_zero, List.getElem?_cons_succ, List.set_cons_zero, List.set_cons_succ, List.cons_append, List.nil_append, List.replicate_succ, List.replicate_zero, List.take_succ_cons, List.take_zero, List.drop_succ_cons, List.drop_zero, List.reverse_cons, List.reverse_nil, List.length_cons, List.length_nil, Option.toList, true_and, and_true, eq_self, ↓reduceIte, not_true_eq_false, not_false_eq_true, true_or, or_true, List.append_eq]
  refine ⟨Or.inr p.2.symm, fun _ => hK r2 T m1 _ _ en.1 g, fun w => absurd p.2.symm w⟩
theorem s_463 (hX : tb.2.1 = strB) (hD : tb.1 2 = [vi 0, vn, vn, vn, vn, vn]) (h0 : 0 ≤ i) (h6 : i + 6 ≤ (tb.2.2.1 : Int)) (hf : ∀ j, R32 (tb.2.2.2 j)) : CASE tb (d + 80) K 463 i := by
  intro r S m z5 z6 h hK
  have h1 : 0 ≤ i + 1 ∧ i + 1 < (tb.2.2.1 : Int) := by omega
  have g1 := hf (i + 1).toNat
  obtain ⟨x1, e1⟩ : ∃ x, x = tb.2.2.2 (i + 1).toNat := ⟨_, rfl⟩
  rw [← e1] at g1
  have h2 : 0 ≤ i + 2 ∧ i + 2 < (tb.2.2.1 : Int) := by omega
  have g2 := hf (i + 2).toNat
  obtain ⟨x2, e2⟩ : ∃ x, x = tb.2.2.2 (i + 2).toNat := ⟨_, rfl⟩
  rw [← e2] at g2
  rw [AtL.eq kl_463]
  simp only [w_aload, w_iload, w_iconst, w_lconst, w_iadd, w_ialoads, w_call, w_istore, w_goto, w_fall, w_if, w_ifc, w_i2l, w_lcmp, w_zreturn, x_lald isA_316x, len_316x, cI, Int.reduceToNat, Option.toList, List.getElem?_cons_zero, List.getElem?_cons_succ, List.set_cons_zero, List.set_cons_succ, List.cons_append, List.nil_append, List.replicate_succ, List.replicate_zero, List.take_succ_cons, List.take_zero, List.drop_succ_cons, List.drop_zero, List.reverse_cons, List.reverse_nil, List.length_cons, List.length_nil, Option.toList, true_and, and_true, eq_self, ↓reduceIte, not_true_eq_false, not_false_eq_true, true_or, or_true, List.append_eq, h1, ← e1, h2, ← e2]
  refine ⟨⟨by omega, by omega⟩, ?_⟩
  refine (y_350 (p_135 g1 g2 hX h)) (d + 8) _ (fun c S1 m1 c0 c3 g lr => ?_)
  simp only [w_aload, w_iload, w_iconst, w_lconst, w_iadd, w_ialoads, w_call, w_istore, w_goto, w_fall, w_if, w_ifc, w_i2l, w_lcmp, w_zreturn, x_lald isA_316x, len_316x, cI, Int.reduceToNat, Option.toList, List.getElem?_cons_zero, List.getElem?_cons_succ, List.set_cons_zero, List.set_cons_succ, List.cons_append, List.nil_append, List.replicate_succ, List.replicate_zero, List.take_succ_cons, List.take_zero, List.drop_succ_cons, List.drop_zero, List.reverse_cons, List.reverse_nil, List.length_cons, List.length_nil, Option.toList, true_and, and_true, eq_self, ↓reduceIte, not_true_eq_false, not_false_eq_true, true_or, or_true, List.append_eq, h1, ← e1, h2, ← e2]
  refine ⟨⟨by omega, by omega⟩, ?_⟩
  refine lr (d + 10) _ (fun T b r2 th en p => ?_)
  obtain ⟨p1, p2⟩ := p
  simp only [w_aload, w_iload, w_iconst, w_lconst, w_iadd, w_ialoads, w_call, w_istore, w_goto, w_fall, w_if, w_ifc, w_i2l, w_lcmp, w_zreturn, x_lald isA_316x, len_316x, cI, Int.reduceToNat, Option.toList, List.getElem?_cons_zero, List.getElem?_cons_succ, List.set_cons_zero, List.set_cons_succ, List.cons_append, List.nil_append, List.replicate_succ, List.replicate_zero, List.take_succ_cons, List.take_zero, List.drop_succ_cons, List.drop_zero, List.reverse_cons, List.reverse_nil, List.length_cons, List.length_nil, Option.toList, true_and, and_true, eq_self, ↓reduceIte, not_true_eq_false, not_false_eq_true, true_or, or_true, List.append_eq, h1, ← e1, h2, ← e2]
  refine ⟨⟨by omega, by omega⟩, ?_⟩
  refine q_199 (d := d + 79) ?_
  simp only [w_aload, w_iload, w_iconst, w_lconst, w_iadd, w_ialoads, w_call, w_istore, w_goto, w_fall, w_if, w_ifc, w_i2l, w_lcmp, w_zreturn, x_lald isA_316x, len_316x, cI, Int.reduceToNat, Option.toList, List.getElem?_cons_zero, List.getElem?_cons_succ, List.set_cons_zero, List.set_cons_succ, List.cons_append, List.nil_append, List.replicate_succ, List.replicate_zero, List.take_succ_cons, List.take_zero, List.drop_succ_cons, List.drop_zero, List.reverse_cons, List.reverse_nil, List.length_cons, List.length_nil, Option.toList, true_and, and_true, eq_self, ↓reduceIte, not_true_eq_false, not_false_eq_true, true_or, or_true, List.append_eq, h1, ← e1, h2, ← e2]
  have e7 : T 300 0 = c := en.2.2.trans p1
  refine ⟨Or.inr e7, fun _ => ?_, fun w => absurd e7 w⟩
  rw [AtL.eq kl_511]
  simp only [w_aload, w_iload, w_iconst, w_lconst, w_iadd, w_ialoads, w_call, w_istore, w_goto, w_fall, w_if, w_ifc, w_i2l, w_lcmp, w_zreturn, x_lald isA_316x, len_316x, cI, Int.reduceToNat, Option.toList, List.getElem?_cons_zero, List.getElem?_cons_succ, List.set_cons_zero, List.set_cons_succ, List.cons_append, List.nil_append, List.replicate_succ, List.replicate_zero, List.take_succ_cons, List.take_zero, List.drop_succ_cons, List.drop_zero, List.reverse_cons, List.reverse_nil, List.length_cons, List.length_nil, Option.toList, true_and, and_true, eq_self, ↓reduceIte, not_true_eq_false, not_false_eq_true, true_or, or_true, List.append_eq, h1, ← e1, h2, ← e2]
  refine ⟨by unfold R32; omega, fun y => ?_, fun y => ?_⟩
  · rw [AtL.eq kl_528]
    simp only [w_aload, w_iload, w_iconst, w_lconst, w_iadd, w_ialoads, w_call, w_istore, w_goto, w_fall, w_if, w_ifc, w_i2l, w_lcmp, w_zreturn, x_lald isA_316x, len_316x, cI, Int.reduceToNat, Option.toList, List.getElem?_cons_zero, List.getElem?_cons_succ, List.set_cons_zero, List.set_cons_succ, List.cons_append, List.nil_append, List.replicate_succ, List.replicate_zero, List.take_succ_cons, List.take_zero, List.drop_succ_cons, List.drop_zero, List.reverse_cons, List.reverse_nil, List.length_cons, List.length_nil, Option.toList, true_and, and_true, eq_self, ↓reduceIte, not_true_eq_false, not_false_eq_true, true_or, or_true, List.append_eq, h1, ← e1, h2, ← e2]
    exact hK r2 T m1 _ _ en.1 g
  · have y0 : c = 0 := by omega
    obtain ⟨q1, q2⟩ := p2 y0
    have e9 : T 316 0 = b := (congrFun en.2.1 0).trans q1
    simp only [e9, cmp_self]
    refine ⟨⟨by decide, by decide⟩, q2, ⟨R64_32 q2, R64_32 q2⟩, R32_00, fun _ => ?_, fun w => by simp at w⟩
    rw [AtL.eq kl_528]
    simp only [w_aload, w_iload, w_iconst, w_lconst, w_iadd, w_ialoads, w_call, w_istore, w_goto, w_fall, w_if, w_ifc, w_i2l, w_lcmp, w_zreturn, x_lald isA_316x, len_316x, cI, Int.reduceToNat, Option.toList, List.getElem?_cons_zero, List.getElem?_cons_succ, List.set_cons_zero, List.set_cons_succ, List.cons_append, List.nil_append, List.replicate_succ, List.replicate_zero, List.take_succ_cons, List.take_zero, List.drop_succ_cons, List.drop_zero, List.reverse_cons, List.reverse_nil, List.length_cons, List.length_nil, Option.toList, true_and, and_true, eq_self, ↓reduceIte, not_true_eq_false, not_false_eq_true, true_or, or_true, List.append_eq, h1, ← e1, h2, ← e2]
    exact hK r2 T m1 _ _ en.1 g
theorem s_531 (hX : tb.2.1 = strB) (hD : tb.1 2 = [vi 0, vn, vn, vn, vn, vn]) (h0 : 0 ≤ i) (h6 : i + 6 ≤ (tb.2.2.1 : Int)) (hf : ∀ j, R32 (tb.2.2.2 j)) : CASE tb (d + 80) K 531 i := by
  intro r S m z5 z6 h hK
  have h1 : 0 ≤ i + 1 ∧ i + 1 < (tb.2.2.1 : Int) := by omega
  have g1 := hf (i + 1).toNat
  obtain ⟨x1, e1⟩ : ∃ x, x = tb.2.2.2 (i + 1).toNat := ⟨_, rfl⟩
  rw [← e1] at g1
  have h2 : 0 ≤ i + 2 ∧ i + 2 < (tb.2.2.1 : Int) := by omega
  have g2 := hf (i + 2).toNat
  obtain ⟨x2, e2⟩ : ∃ x, x = tb.2.2.2 (i + 2).toNat := ⟨_, rfl⟩
  rw [← e2] at g2
  rw [AtL.eq kl_531]
  simp only [w_aload, w_iload, w_iconst, w_lconst, w_iadd, w_ialoads, w_call, w_istore, w_goto, w_fall, w_if, w_ifc, w_i2l, w_lcmp, w_zreturn, x_lald isA_316x, len_316x, cI, Int.reduceToNat, Option.toList, List.getElem?_cons_zero, List.getElem?_cons_succ, List.set_cons_zero, List.set_cons_succ, List.cons_append, List.nil_append, List.replicate_succ, List.replicate_zero, List.take_succ_cons, List.take_zero, List.drop_succ_cons, List.drop_zero, List.reverse_cons, List.reverse_nil, List.length_cons, List.length_nil, Option.toList, true_and, and_true, eq_self, ↓reduceIte, not_true_eq_false, not_false_eq_true, true_or, or_true, List.append_eq, h1, ← e1, h2, ← e2]
  refine ⟨⟨by omega, by omega⟩, ?_⟩
  refine (y_351 (p_136 g1 g2 hX h)) (d + 8) _ (fun c S1 m1 c0 c3 g lr => ?_)
  simp only [w_aload, w_iload, w_iconst, w_lconst, w_iadd, w_ialoads, w_call, w_istore, w_goto, w_fall, w_if, w_ifc, w_i2l, w_lcmp, w_zreturn, x_lald isA_316x, len_316x, cI, Int.reduceToNat, Option.toList, List.getElem?_cons_zero, List.getElem?_cons_succ, List.set_cons_zero, List.set_cons_succ, List.cons_append, List.nil_append, List.replicate_succ, List.replicate_zero, List.take_succ_cons, List.take_zero, List.drop_succ_cons, List.drop_zero, List.reverse_cons, List.reverse_nil, List.length_cons, List.length_nil, Option.toList, true_and, and_true, eq_self, ↓reduceIte, not_true_eq_false, not_false_eq_true, true_or, or_true, List.append_eq, h1, ← e1, h2, ← e2]
  refine ⟨⟨by omega, by omega⟩, ?_⟩
  refine lr (d + 10) _ (fun T b r2 th en p => ?_)
  obtain ⟨p1, p2⟩ := p
  simp only [w_aload, w_iload, w_iconst, w_lconst, w_iadd, w_ialoads, w_call, w_istore, w_goto, w_fall, w_if, w_ifc, w_i2l, w_lcmp, w_zreturn, x_lald isA_316x, len_316x, cI, Int.reduceToNat, Option.toList, List.getElem?_cons_zero, List.getElem?_cons_succ, List.set_cons_zero, List.set_cons_succ, List.cons_append, List.nil_append, List.replicate_succ, List.replicate_zero, List.take_succ_cons, List.take_zero, List.drop_succ_cons, List.drop_zero, List.reverse_cons, List.reverse_nil, List.length_cons, List.length_nil, Option.toList, true_and, and_true, eq_self, ↓reduceIte, not_true_eq_false, not_false_eq_true, true_or, or_true, List.append_eq, h1, ← e1, h2, ← e2]
  refine ⟨⟨by omega, by omega⟩, ?_⟩
  refine q_199 (d := d + 79) ?_
  simp only [w_aload, w_iload, w_iconst, w_lconst, w_iadd, w_ialoads, w_call, w_istore, w_goto, w_fall, w_if, w_ifc, w_i2l, w_lcmp, w_zreturn, x_lald isA_316x, len_316x, cI, Int.reduceToNat, Option.toList, List.getElem?_cons_zero, List.getElem?_cons_succ, List.set_cons_zero, List.set_cons_succ, List.cons_append, List.nil_append, List.replicate_succ, List.replicate_zero, List.take_succ_cons, List.take_zero, List.drop_succ_cons, List.drop_zero, List.reverse_cons, List.reverse_nil, List.length_cons, List.length_nil, Option.toList, true_and, and_true, eq_self, ↓reduceIte, not_true_eq_false, not_false_eq_true, true_or, or_true, List.append_eq, h1, ← e1, h2, ← e2]
  have e7 : T 300 0 = c := en.2.2.trans p1
  refine ⟨Or.inr e7, fun _ => ?_, fun w => absurd e7 w⟩
  rw [AtL.eq kl_579]
  simp only [w_aload, w_iload, w_iconst, w_lconst, w_iadd, w_ialoads, w_call, w_istore, w_goto, w_fall, w_if, w_ifc, w_i2l, w_lcmp, w_zreturn, x_lald isA_316x, len_316x, cI, Int.reduceToNat, Option.toList, List.getElem?_cons_zero, List.getElem?_cons_succ, List.set_cons_zero, List.set_cons_succ, List.cons_append, List.nil_append, List.replicate_succ, List.replicate_zero, List.take_succ_cons, List.take_zero, List.drop_succ_cons, List.drop_zero, List.reverse_cons, List.reverse_nil, List.length_cons, List.length_nil, Option.toList, true_and, and_true, eq_self, ↓reduceIte, not_true_eq_false, not_false_eq_true, true_or, or_true, List.append_eq, h1, ← e1, h2, ← e2]
  refine ⟨by unfold R32; omega, fun y => ?_, fun y => ?_⟩
  · rw [AtL.eq kl_596]
    simp only [w_aload, w_iload, w_iconst, w_lconst, w_iadd, w_ialoads, w_call, w_istore, w_goto, w_fall, w_if, w_ifc, w_i2l, w_lcmp, w_zreturn, x_lald isA_316x, len_316x, cI, Int.reduceToNat, Option.toList, List.getElem?_cons_zero, List.getElem?_cons_succ, List.set_cons_zero, List.set_cons_succ, List.cons_append, List.nil_append, List.replicate_succ, List.replicate_zero, List.take_succ_cons, List.take_zero, List.drop_succ_cons, List.drop_zero, List.reverse_cons, List.reverse_nil, List.length_cons, List.length_nil, Option.toList, true_and, and_true, eq_self, ↓reduceIte, not_true_eq_false, not_false_eq_true, true_or, or_true, List.append_eq, h1, ← e1, h2, ← e2]
    exact hK r2 T m1 _ _ en.1 g
  · have y0 : c = 0 := by omega
    obtain ⟨q1, q2⟩ := p2 y0
    have e9 : T 316 0 = b := (congrFun en.2.1 0).trans q1
    simp only [e9, cmp_self]
    refine ⟨⟨by decide, by decide⟩, q2, ⟨R64_32 q2, R64_32 q2⟩, R32_00, fun _ => ?_, fun w => by simp at w⟩
    rw [AtL.eq kl_596]
    simp only [w_aload, w_iload, w_iconst, w_lconst, w_iadd, w_ialoads, w_call, w_istore, w_goto, w_fall, w_if, w_ifc, w_i2l, w_lcmp, w_zreturn, x_lald isA_316x, len_316x, cI, Int.reduceToNat, Option.toList, List.getElem?_cons_zero, List.getElem?_cons_succ, List.set_cons_zero, List.set_cons_succ, List.cons_append, List.nil_append, List.replicate_succ, List.replicate_zero, List.take_succ_cons, List.take_zero, List.drop_succ_cons, List.drop_zero, List.reverse_cons, List.reverse_nil, List.length_cons, List.length_nil, Option.toList, true_and, and_true, eq_self, ↓reduceIte, not_true_eq_false, not_false_eq_true, true_or, or_true, List.append_eq, h1, ← e1, h2, ← e2]
    exact hK r2 T m1 _ _ en.1 g
theorem s_599 (hX : tb.2.1 = strB) (hD : tb.1 2 = [vi 0, vn, vn, vn, vn, vn]) (h0 : 0 ≤ i) (h6 : i + 6 ≤ (tb.2.2.1 : Int)) (hf : ∀ j, R32 (tb.2.2.2 j)) : CASE tb (d + 80) K 599 i := by
  intro r S m z5 z6 h hK
  have h1 : 0 ≤ i + 1 ∧ i + 1 < (tb.2.2.1 : Int) := by omega
  have g1 := hf (i + 1).toNat
  obtain ⟨x1, e1⟩ : ∃ x, x = tb.2.2.2 (i + 1).toNat := ⟨_, rfl⟩
  rw [← e1] at g1
  have h2 : 0 ≤ i + 2 ∧ i + 2 < (tb.2.2.1 : Int) := by omega
  have g2 := hf (i + 2).toNat
  obtain ⟨x2, e2⟩ : ∃ x, x = tb.2.2.2 (i + 2).toNat := ⟨_, rfl⟩
  rw [← e2] at g2
  have h3 : 0 ≤ i + 3 ∧ i + 3 < (tb.2.2.1 : Int) := by omega
  have g3 := hf (i + 3).toNat
  obtain ⟨x3, e3⟩ : ∃ x, x = tb.2.2.2 (i + 3).toNat := ⟨_, rfl⟩
  rw [← e3] at g3
  rw [AtL.eq kl_599]
  simp only [w_aload, w_iload, w_iconst, w_lconst, w_iadd, w_ialoads, w_call, w_istore, w_goto, w_fall, w_if, w_ifc, w_i2l, w_lcmp, w_zreturn, x_lald isA_316x, len_316x, cI, Int.reduceToNat, Option.toList, List.getElem?_cons_zero, List.getElem?_cons_succ, List.set_cons_zero, List.set_cons_succ, List.cons_append, List.nil_append, List.replicate_succ, List.replicate_zero, List.take_succ_cons, List.take_zero, List.drop_succ_cons, List.drop_zero, List.reverse_cons, List.reverse_nil, List.length_cons, List.length_nil, Option.toList, true_and, and_true, eq_self, ↓reduceIte, not_true_eq_false, not_false_eq_true, true_or, or_true, List.append_eq, h1, ← e1, h2, ← e2, h3, ← e3]
  refine ⟨⟨by omega, by omega⟩, ?_⟩
  refine (y_352 (p_138 g1 g2 g3 hX h)) (d + 8) _ (fun c S1 m1 c0 c3 g lr => ?_)
  simp only [w_aload, w_iload, w_iconst, w_lconst, w_iadd, w_ialoads, w_call, w_istore, w_goto, w_fall, w_if, w_ifc, w_i2l, w_lcmp, w_zreturn, x_lald isA_316x, len_316x, cI, Int.reduceToNat, Option.toList, List.getElem?_cons_zero, List.getElem?_cons_succ, List.set_cons_zero, List.set_cons_succ, List.cons_append, List.nil_append, List.replicate_succ, List.replicate_zero, List.take_succ_cons, List.take_zero, List.drop_succ_cons, List.drop_zero, List.reverse_cons, List.reverse_nil, List.length_cons, List.length_nil, Option.toList, true_and, and_true, eq_self, ↓reduceIte, not_true_eq_false, not_false_eq_true, true_or, or_true, List.append_eq, h1, ← e1, h2, ← e2, h3, ← e3]
  refine ⟨⟨by omega, by omega⟩, ?_⟩
  refine lr (d + 10) _ (fun T b r2 th en p => ?_)
  obtain ⟨p1, p2⟩ := p
  simp only [w_aload, w_iload, w_iconst, w_lconst, w_iadd, w_ialoads, w_call, w_istore, w_goto, w_fall, w_if, w_ifc, w_i2l, w_lcmp, w_zreturn, x_lald isA_316x, len_316x, cI, Int.reduceToNat, Option.toList, List.getElem?_cons_zero, List.getElem?_cons_succ, List.set_cons_zero, List.set_cons_succ, List.cons_append, List.nil_append, List.replicate_succ, List.replicate_zero, List.take_succ_cons, List.take_zero, List.drop_succ_cons, List.drop_zero, List.reverse_cons, List.reverse_nil, List.length_cons, List.length_nil, Option.toList, true_and, and_true, eq_self, ↓reduceIte, not_true_eq_false, not_false_eq_true, true_or, or_true, List.append_eq, h1, ← e1, h2, ← e2, h3, ← e3]
  refine ⟨⟨by omega, by omega⟩, ?_⟩
  refine q_199 (d := d + 79) ?_
  simp only [w_aload, w_iload, w_iconst, w_lconst, w_iadd, w_ialoads, w_call, w_istore, w_goto, w_fall, w_if, w_ifc, w_i2l, w_lcmp, w_zreturn, x_lald isA_316x, len_316x, cI, Int.reduceToNat, Option.toList, List.getElem?_cons_zero, List.getElem?_cons_succ, List.set_cons_zero, List.set_cons_succ, List.cons_append, List.nil_append, List.replicate_succ, List.replicate_zero, List.take_succ_cons, List.take_zero, List.drop_succ_cons, List.drop_zero, List.reverse_cons, List.reverse_nil, List.length_cons, List.length_nil, Option.toList, true_and, and_true, eq_self, ↓reduceIte, not_true_eq_false, not_false_eq_true, true_or, or_true, List.append_eq, h1, ← e1, h2, ← e2, h3, ← e3]
  have e7 : T 300 0 = c := en.2.2.trans p1
  refine ⟨Or.inr e7, fun _ => ?_, fun w => absurd e7 w⟩
  rw [AtL.eq kl_659]
  simp only [w_aload, w_iload, w_iconst, w_lconst, w_iadd, w_ialoads, w_call, w_istore, w_goto, w_fall, w_if, w_ifc, w_i2l, w_lcmp, w_zreturn, x_lald isA_316x, len_316x, cI, Int.reduceToNat, Option.toList, List.getElem?_cons_zero, List.getElem?_cons_succ, List.set_cons_zero, List.set_cons_succ, List.cons_append, List.nil_append, List.replicate_succ, List.replicate_zero, List.take_succ_cons, List.take_zero, List.drop_succ_cons, List.drop_zero, List.reverse_cons, List.reverse_nil, List.length_cons, List.length_nil, Option.toList, true_and, and_true, eq_self, ↓reduceIte, not_true_eq_false, not_false_eq_true, true_or, or_true, List.append_eq, h1, ← e1, h2, ← e2, h3, ← e3]
  refine ⟨by unfold R32; omega, fun y => ?_, fun y => ?_⟩
  · rw [AtL.eq kl_676]
    simp only [w_aload, w_iload, w_iconst, w_lconst, w_iadd, w_ialoads, w_call, w_istore, w_goto, w_fall, w_if, w_ifc, w_i2l, w_lcmp, w_zreturn, x_lald isA_316x, len_316x, cI, Int.reduceToNat, Option.toList, List.getElem?_cons_zero, List.getElem?_cons_succ, List.set_cons_zero, List.set_cons_succ, List.cons_append, List.nil_append, List.replicate_succ, List.replicate_zero, List.take_succ_cons, List.take_zero, List.drop_succ_cons, List.drop_zero, List.reverse_cons, List.reverse_nil, List.length_cons, List.length_nil, Option.toList, true_and, and_true, eq_self, ↓reduceIte, not_true_eq_false, not_false_eq_true, true_or, or_true, List.append_eq, h1, ← e1, h2, ← e2, h3, ← e3]
    exact hK r2 T m1 _ _ en.1 g
  · have y0 : c = 0 := by omega
    obtain ⟨q1, q2⟩ := p2 y0
    have e9 : T 316 0 = b := (congrFun en.2.1 0).trans q1
    simp only [e9, cmp_self]
    refine ⟨⟨by decide, by decide⟩, q2, ⟨R64_32 q2, R64_32 q2⟩, R32_00, fun _ => ?_, fun w => by simp at w⟩
    rw [AtL.eq kl_676]
    simp only [w_aload, w_iload, w_iconst, w_lconst, w_iadd, w_ialoads, w_call, w_istore, w_goto, w_fall, w_if, w_ifc, w_i2l, w_lcmp, w_zreturn, x_lald isA_316x, len_316x, cI, Int.reduceToNat, Option.toList, List.getElem?_cons_zero, List.getElem?_cons_succ, List.set_cons_zero, List.set_cons_succ, List.cons_append, List.nil_append, List.replicate_succ, List.replicate_zero, List.take_succ_cons, List.take_zero, List.drop_succ_cons, List.drop_zero, List.reverse_cons, List.reverse_nil, List.length_cons, List.length_nil, Option.toList, true_and, and_true, eq_self, ↓reduceIte, not_true_eq_false, not_false_eq_true, true_or, or_true, List.append_eq, h1, ← e1, h2, ← e2, h3, ← e3]
    exact hK r2 T m1 _ _ en.1 g
theorem s_679 (hX : tb.2.1 = strB) (hD : tb.1 2 = [vi 0, vn, vn, vn, vn, vn]) (h0 : 0 ≤ i) (h6 : i + 6 ≤ (tb.2.2.1 : Int)) (hf : ∀ j, R32 (tb.2.2.2 j)) : CASE tb (d + 80) K 679 i := by
  intro r S m z5 z6 h hK
  have h1 : 0 ≤ i + 1 ∧ i + 1 < (tb.2.2.1 : Int) := by omega
  have g1 := hf (i + 1).toNat
  obtain ⟨x1, e1⟩ : ∃ x, x = tb.2.2.2 (i + 1).toNat := ⟨_, rfl⟩
  rw [← e1] at g1
  have h2 : 0 ≤ i + 2 ∧ i + 2 < (tb.2.2.1 : Int) := by omega
  have g2 := hf (i + 2).toNat
  obtain ⟨x2, e2⟩ : ∃ x, x = tb.2.2.2 (i + 2).toNat := ⟨_, rfl⟩
  rw [← e2] at g2
  rw [AtL.eq kl_679]
  simp only [w_aload, w_iload, w_iconst, w_lconst, w_iadd, w_ialoads, w_call, w_istore, w_goto, w_fall, w_if, w_ifc, w_i2l, w_lcmp, w_zreturn, x_lald isA_316x, len_316x, cI, Int.reduceToNat, Option.toList, List.getElem?_cons_zero, List.getElem?_cons_succ, List.set_cons_zero, List.set_cons_succ, List.cons_append, List.nil_append, List.replicate_succ, List.replicate_zero, List.take_succ_cons, List.take_zero, List.drop_succ_cons, List.drop_zero, List.reverse_cons, List.reverse_nil, List.length_cons, List.length_nil, Option.toList, true_and, and_true, eq_self, ↓reduceIte, not_true_eq_false, not_false_eq_true, true_or, or_true, List.append_eq, h1, ← e1, h2, ← e2]
  refine ⟨⟨by omega, by omega⟩, ?_⟩
  refine (y_353 (p_139 g1 g2 hX h)) (d + 8) _ (fun c S1 m1 c0 c3 g lr => ?_)
  simp only [w_aload, w_iload, w_iconst, w_lconst, w_iadd, w_ialoads, w_call, w_istore, w_goto, w_fall, w_if, w_ifc, w_i2l, w_lcmp, w_zreturn, x_lald isA_316x, len_316x, cI, Int.reduceToNat, Option.toList, List.getElem?_cons_zero, List.getElem?_cons_succ, List.set_cons_zero, List.set_cons_succ, List.cons_append, List.nil_append, List.replicate_succ, List.replicate_zero, List.take_succ_cons, List.take_zero, List.drop_succ_cons, List.drop_zero, List.reverse_cons, List.reverse_nil, List.length_cons, List.length_nil, Option.toList, true_and, and_true, eq_self, ↓reduceIte, not_true_eq_false, not_false_eq_true, true_or, or_true, List.append_eq, h1, ← e1, h2, ← e2]
  refine ⟨⟨by omega, by omega⟩, ?_⟩
  refine lr (d + 10) _ (fun T b r2 th en p => ?_)
  obtain ⟨p1, p2⟩ := p
  simp only [w_aload, w_iload, w_iconst, w_lconst, w_iadd, w_ialoads, w_call, w_istore, w_goto, w_fall, w_if, w_ifc, w_i2l, w_lcmp, w_zreturn, x_lald isA_316x, len_316x, cI, Int.reduceToNat, Option.toList, List.getElem?_cons_zero, List.getElem?_cons_succ, List.set_cons_zero, List.set_cons_succ, List.cons_append, List.nil_append, List.replicate_succ, List.replicate_zero, List.take_succ_cons, List.take_zero, List.drop_succ_cons, List.drop_zero, List.reverse_cons, List.reverse_nil, List.length_cons, List.length_nil, Option.toList, true_and, and_true, eq_self, ↓reduceIte, not_true_eq_false, not_false_eq_true, true_or, or_true, List.append_eq, h1, ← e1, h2, ← e2]
  refine ⟨⟨by omega, by omega⟩, ?_⟩
  refine q_199 (d := d + 79) ?_
  simp only [w_aload, w_iload, w_iconst, w_lconst, w_iadd, w_ialoads, w_call, w_istore, w_goto, w_fall, w_if, w_ifc, w_i2l, w_lcmp, w_zreturn, x_lald isA_316x, len_316x, cI, Int.reduceToNat, Option.toList, List.getElem?_cons_zero, List.getElem?_cons_succ, List.set_cons_zero, List.set_cons_succ, List.cons_append, List.nil_append, List.replicate_succ, List.replicate_zero, List.take_succ_cons, List.take_zero, List.drop_succ_cons, List.drop_zero, List.reverse_cons, List.reverse_nil, List.length_cons, List.length_nil, Option.toList, true_and, and_true, eq_self, ↓reduceIte, not_true_eq_false, not_false_eq_true, true_or, or_true, List.append_eq, h1, ← e1, h2, ← e2]
  have e7 : T 300 0 = c := en.2.2.trans p1
  refine ⟨Or.inr e7, fun _ => ?_, fun w => absurd e7 w⟩
  rw [AtL.eq kl_727]
  simp only [w_aload, w_iload, w_iconst, w_lconst, w_iadd, w_ialoads, w_call, w_istore, w_goto, w_fall, w_if, w_ifc, w_i2l, w_lcmp, w_zreturn, x_lald isA_316x, len_316x, cI, Int.reduceToNat, Option.toList, List.getElem?_cons_zero, List.getElem?_cons_succ, List.set_cons_zero, List.set_cons_succ, List.cons_append, List.nil_append, List.replicate_succ, List.replicate_zero, List.take_succ_cons, List.take_zero, List.drop_succ_cons, List.drop_zero, List.reverse_cons, List.reverse_nil, List.length_cons, List.length_nil, Option.toList, true_and, and_true, eq_self, ↓reduceIte, not_true_eq_false, not_false_eq_true, true_or, or_true, List.append_eq, h1, ← e1, h2, ← e2]
  refine ⟨by unfold R32; omega, fun y => ?_, fun y => ?_⟩
  · rw [AtL.eq kl_744]
    simp only [w_aload, w_iload, w_iconst, w_lconst, w_iadd, w_ialoads, w_call, w_istore, w_goto, w_fall, w_if, w_ifc, w_i2l, w_lcmp, w_zreturn, x_lald isA_316x, len_316x, cI, Int.reduceToNat, Option.toList, List.getElem?_cons_zero, List.getElem?_cons_succ, List.set_cons_zero, List.set_cons_succ, List.cons_append, List.nil_append, List.replicate_succ, List.replicate_zero, List.take_succ_cons, List.take_zero, List.drop_succ_cons, List.drop_zero, List.reverse_cons, List.reverse_nil, List.length_cons, List.length_nil, Option.toList, true_and, and_true, eq_self, ↓reduceIte, not_true_eq_false, not_false_eq_true, true_or, or_true, List.append_eq, h1, ← e1, h2, ← e2]
    exact hK r2 T m1 _ _ en.1 g
  · have y0 : c = 0 := by omega
    obtain ⟨q1, q2⟩ := p2 y0
    have e9 : T 316 0 = b := (congrFun en.2.1 0).trans q1
    simp only [e9, cmp_self]
    refine ⟨⟨by decide, by decide⟩, q2, ⟨R64_32 q2, R64_32 q2⟩, R32_00, fun _ => ?_, fun w => by simp at w⟩
    rw [AtL.eq kl_744]
    simp only [w_aload, w_iload, w_iconst, w_lconst, w_iadd, w_ialoads, w_call, w_istore, w_goto, w_fall, w_if, w_ifc, w_i2l, w_lcmp, w_zreturn, x_lald isA_316x, len_316x, cI, Int.reduceToNat, Option.toList, List.getElem?_cons_zero, List.getElem?_cons_succ, List.set_cons_zero, List.set_cons_succ, List.cons_append, List.nil_append, List.replicate_succ, List.replicate_zero, List.take_succ_cons, List.take_zero, List.drop_succ_cons, List.drop_zero, List.reverse_cons, List.reverse_nil, List.length_cons, List.length_nil, Option.toList, true_and, and_true, eq_self, ↓reduceIte, not_true_eq_false, not_false_eq_true, true_or, or_true, List.append_eq, h1, ← e1, h2, ← e2]
    exact hK r2 T m1 _ _ en.1 g
theorem s_747 (hX : tb.2.1 = strB) (hD : tb.1 2 = [vi 0, vn, vn, vn, vn, vn]) (h0 : 0 ≤ i) (h6 : i + 6 ≤ (tb.2.2.1 : Int)) (hf : ∀ j, R32 (tb.2.2.2 j)) : CASE tb (d + 80) K 747 i := by
  intro r S m z5 z6 h hK
  have h1 : 0 ≤ i + 1 ∧ i + 1 < (tb.2.2.1 : Int) := by omega
  have g1 := hf (i + 1).toNat
  obtain ⟨x1, e1⟩ : ∃ x, x = tb.2.2.2 (i + 1).toNat := ⟨_, rfl⟩
  rw [← e1] at g1
  have h2 : 0 ≤ i + 2 ∧ i + 2 < (tb.2.2.1 : Int) := by omega
  have g2 := hf (i + 2).toNat
  obtain ⟨x2, e2⟩ : ∃ x, x = tb.2.2.2 (i + 2).toNat := ⟨_, rfl⟩
  rw [← e2] at g2
  rw [AtL.eq kl_747]
  simp only [w_aload, w_iload, w_iconst, w_lconst, w_iadd, w_ialoads, w_call, w_istore, w_goto, w_fall, w_if, w_ifc, w_i2l, w_lcmp, w_zreturn, x_lald isA_316x, len_316x, cI, Int.reduceToNat, Option.toList, List.getElem?_cons_zero, List.getElem?_cons_succ, List.set_cons_zero, List.set_cons_succ, List.cons_append, List.nil_append, List.replicate_succ, List.replicate_zero, List.take_succ_cons, List.take_zero, List.drop_succ_cons, List.drop_zero, List.reverse_cons, List.reverse_nil, List.length_cons, List.length_nil, Option.toList, true_and, and_true, eq_self, ↓reduceIte, not_true_eq_false, not_false_eq_true, true_or, or_true, List.append_eq, h1, ← e1, h2, ← e2]
  refine ⟨⟨by omega, by omega⟩, ?_⟩
  refine (y_354 (p_140 g1 g2 hX h)) (d + 8) _ (fun c S1 m1 c0 c3 g lr => ?_)
  simp only [w_aload, w_iload, w_iconst, w_lconst, w_iadd, w_ialoads, w_call, w_istore, w_goto, w_fall, w_if, w_ifc, w_i2l, w_lcmp, w_zreturn, x_lald isA_316x, len_316x, cI, Int.reduceToNat, Option.toList, List.getElem?_cons_zero, List.getElem?_cons_succ, List.set_cons_zero, List.set_cons_succ, List.cons_append, List.nil_append, List.replicate_succ, List.replicate_zero, List.take_succ_cons, List.take_zero, List.drop_succ_cons, List.drop_zero, List.reverse_cons, List.reverse_nil, List.length_cons, List.length_nil, Option.toList, true_and, and_true, eq_self, ↓reduceIte, not_true_eq_false, not_false_eq_true, true_or, or_true, List.append_eq, h1, ← e1, h2, ← e2]
  refine ⟨⟨by omega, by omega⟩, ?_⟩
  refine lr (d + 10) _ (fun T b r2 th en p => ?_)
  obtain ⟨p1, p2⟩ := p
  simp only [w_aload, w_iload, w_iconst, w_lconst, w_iadd, w_ialoads, w_call, w_istore, w_goto, w_fall, w_if, w_ifc, w_i2l, w_lcmp, w_zreturn, x_lald isA_316x, len_316x, cI, Int.reduceToNat, Option.toList, List.getElem?_cons_zero, List.getElem?_cons_succ, List.set_cons_zero, List.set_cons_succ, List.cons_append, List.nil_append, List.replicate_succ, List.replicate_zero, List.take_succ_cons, List.take_zero, List.drop_succ_cons, List.drop_zero, List.reverse_cons, List.reverse_nil, List.length_cons, List.length_nil, Option.toList, true_and, and_true, eq_self, ↓reduceIte, not_true_eq_false, not_false_eq_true, true_or, or_true, List.append_eq, h1, ← e1, h2, ← e2]
  refine ⟨⟨by omega, by omega⟩, ?_⟩
  refine q_199 (d := d + 79) ?_
  simp only [w_aload, w_iload, w_iconst, w_lconst, w_iadd, w_ialoads, w_call, w_istore, w_goto, w_fall, w_if, w_ifc, w_i2l, w_lcmp, w_zreturn, x_lald isA_316x, len_316x, cI, Int.reduceToNat, Option.toList, List.getElem?_cons_zero, List.getElem?_cons_succ, List.set_cons_zero, List.set_cons_succ, List.cons_append, List.nil_append, List.replicate_succ, List.replicate_zero, List.take_succ_cons, List.take_zero, List.drop_succ_cons, List.drop_zero, List.reverse_cons, List.reverse_nil, List.length_cons, List.length_nil, Option.toList, true_and, and_true, eq_self, ↓reduceIte, not_true_eq_false, not_false_eq_true, true_or, or_true, List.append_eq, h1, ← e1, h2, ← e2]
  have e7 : T 300 0 = c := en.2.2.trans p1
  refine ⟨Or.inr e7, fun _ => ?_, fun w => absurd e7 w⟩
  rw [AtL.eq kl_795]
  simp only [w_aload, w_iload, w_iconst, w_lconst, w_iadd, w_ialoads, w_call, w_istore, w_goto, w_fall, w_if, w_ifc, w_i2l, w_lcmp, w_zreturn, x_lald isA_316x, len_316x, cI, Int.reduceToNat, Option.toList, List.getElem?_cons_zero, List.getElem?_cons_succ, List.set_cons_zero, List.set_cons_succ, List.cons_append, List.nil_append, List.replicate_succ, List.replicate_zero, List.take_succ_cons, List.take_zero, List.drop_succ_cons, List.drop_zero, List.reverse_cons, List.reverse_nil, List.length_cons, List.length_nil, Option.toList, true_and, and_true, eq_self, ↓reduceIte, not_true_eq_false, not_false_eq_true, true_or, or_true, List.append_eq, h1, ← e1, h2, ← e2]
  refine ⟨by unfold R32; omega, fun y => ?_, fun y => ?_⟩
  · rw [AtL.eq kl_812]
    simp only [w_aload, w_iload, w_iconst, w_lconst, w_iadd, w_ialoads, w_call, w_istore, w_goto, w_fall, w_if, w_ifc, w_i2l, w_lcmp, w_zreturn, x_lald isA_316x, len_316x, cI, Int.reduceToNat, Option.toList, List.getElem?_cons_zero, List.getElem?_cons_succ, List.set_cons_zero, List.set_cons_succ, List.cons_append, List.nil_append, List.replicate_succ, List.replicate_zero, List.take_succ_cons, List.take_zero, List.drop_succ_cons, List.drop_zero, List.reverse_cons, List.reverse_nil, List.length_cons, List.length_nil, Option.toList, true_and, and_true, eq_self, ↓reduceIte, not_true_eq_false, not_false_eq_true, true_or, or_true, List.append_eq, h1, ← e1, h2, ← e2]
    exact hK r2 T m1 _ _ en.1 g
  · have y0 : c = 0 := by omega
    obtain ⟨q1, q2⟩ := p2 y0
    have e9 : T 316 0 = b := (congrFun en.2.1 0).trans q1
    simp only [e9, cmp_self]
    refine ⟨⟨by decide, by decide⟩, q2, ⟨R64_32 q2, R64_32 q2⟩, R32_00, fun _ => ?_, fun w => by simp at w⟩
    rw [AtL.eq kl_812]
    simp only [w_aload, w_iload, w_iconst, w_lconst, w_iadd, w_ialoads, w_call, w_istore, w_goto, w_fall, w_if, w_ifc, w_i2l, w_lcmp, w_zreturn, x_lald isA_316x, len_316x, cI, Int.reduceToNat, Option.toList, List.getElem?_cons_zero, List.getElem?_cons_succ, List.set_cons_zero, List.set_cons_succ, List.cons_append, List.nil_append, List.replicate_succ, List.replicate_zero, List.take_succ_cons, List.take_zero, List.drop_succ_cons, List.drop_zero, List.reverse_cons, List.reverse_nil, List.length_cons, List.length_nil, Option.toList, true_and, and_true, eq_self, ↓reduceIte, not_true_eq_false, not_false_eq_true, true_or, or_true, List.append_eq, h1, ← e1, h2, ← e2]
    exact hK r2 T m1 _ _ en.1 g
theorem s_815 (hX : tb.2.1 = strB) (hD : tb.1 2 = [vi 0, vn, vn, vn, vn, vn]) (h0 : 0 ≤ i) (h6 : i + 6 ≤ (tb.2.2.1 : Int)) (hf : ∀ j, R32 (tb.2.2.2 j)) : CASE tb (d + 80) K 815 i := by
  intro r S m z5 z6 h hK
  have h1 : 0 ≤ i + 1 ∧ i + 1 < (tb.2.2.1 : Int) := by omega
  have g1 := hf (i + 1).toNat
  obtain ⟨x1, e1⟩ : ∃ x, x = tb.2.2.2 (i + 1).toNat := ⟨_, rfl⟩
  rw [← e1] at g1
  have h2 : 0 ≤ i + 2 ∧ i + 2 < (tb.2.2.1 : Int) := by omega
  have g2 := hf (i + 2).toNat
  obtain ⟨x2, e2⟩ : ∃ x, x = tb.2.2.2 (i + 2).toNat := ⟨_, rfl⟩
  rw [← e2] at g2
  rw [AtL.eq kl_815]
  simp only [w_aload, w_iload, w_iconst, w_lconst, w_iadd, w_ialoads, w_call, w_istore, w_goto, w_fall, w_if, w_ifc, w_i2l, w_lcmp, w_zreturn, x_lald isA_316x, len_316x, cI, Int.reduceToNat, Option.toList, List.getElem?_cons_zero, List.getElem?_cons_succ, List.set_cons_zero, List.set_cons_succ, List.cons_append, List.nil_append, List.replicate_succ, List.replicate_zero, List.take_succ_cons, List.take_zero, List.drop_succ_cons, List.drop_zero, List.reverse_cons, List.reverse_nil, List.length_cons, List.length_nil, Option.toList, true_and, and_true, eq_self, ↓reduceIte, not_true_eq_false, not_false_eq_true, true_or, or_true, List.append_eq, h1, ← e1, h2, ← e2]
  refine ⟨⟨by omega, by omega⟩, ?_⟩
  refine (y_355 (p_141 g1 g2 hX h)) (d + 8) _ (fun c S1 m1 c0 c3 g lr => ?_)
  simp only [w_aload, w_iload, w_iconst, w_lconst, w_iadd, w_ialoads, w_call, w_istore, w_goto, w_fall, w_if, w_ifc, w_i2l, w_lcmp, w_zreturn, x_lald isA_316x, len_316x, cI, Int.reduceToNat, Option.toList, List.getElem?_cons_zero, List.getElem?_cons_succ, List.set_cons_zero, List.set_cons_succ, List.cons_append, List.nil_append, List.replicate_succ, List.replicate_zero, List.take_succ_cons, List.take_zero, List.drop_succ_cons, List.drop_zero, List.reverse_cons, List.reverse_nil, List.length_cons, List.length_nil, Option.toList, true_and, and_true, eq_self, ↓reduceIte, not_true_eq_false, not_false_eq_true, true_or, or_true, List.append_eq, h1, ← e1, h2, ← e2]
  refine ⟨⟨by omega, by omega⟩, ?_⟩
  refine lr (d + 10) _ (fun T b r2 th en p => ?_)
  obtain ⟨p1, p2⟩ := p
  simp only [w_aload, w_iload, w_iconst, w_lconst, w_iadd, w_ialoads, w_call, w_istore, w_goto, w_fall, w_if, w_ifc, w_i2l, w_lcmp, w_zreturn, x_lald isA_316x, len_316x, cI, Int.reduceToNat, Option.toList, List.getElem?_cons_zero, List.getElem?_cons_succ, List.set_cons_zero, List.set_cons_succ, List.cons_append, List.nil_append, List.replicate_succ, List.replicate_zero, List.take_succ_cons, List.take_zero, List.drop_succ_cons, List.drop_zero, List.reverse_cons, List.reverse_nil, List.length_cons, List.length_nil, Option.toList, true_and, and_true, eq_self, ↓reduceIte, not_true_eq_false, not_false_eq_true, true_or, or_true, List.append_eq, h1, ← e1, h2, ← e2]
  refine ⟨⟨by omega, by omega⟩, ?_⟩
  refine q_199 (d := d + 79) ?_
  simp only [w_aload, w_iload, w_iconst, w_lconst, w_iadd, w_ialoads, w_call, w_istore, w_goto, w_fall, w_if, w_ifc, w_i2l, w_lcmp, w_zreturn, x_lald isA_316x, len_316x, cI, Int.reduceToNat, Option.toList, List.getElem?_cons_zero, List.getElem?_cons_succ, List.set_cons_zero, List.set_cons_succ, List.cons_append, List.nil_append, List.replicate_succ, List.replicate_zero, List.take_succ_cons, List.take_zero, List.drop_succ_cons, List.drop_zero, List.reverse_cons, List.reverse_nil, List.length_cons, List.length_nil, Option.toList, true_and, and_true, eq_self, ↓reduceIte, not_true_eq_false, not_false_eq_true, true_or, or_true, List.append_eq, h1, ← e1, h2, ← e2]
  have e7 : T 300 0 = c := en.2.2.trans p1
  refine ⟨Or.inr e7, fun _ => ?_, fun w => absurd e7 w⟩
  rw [AtL.eq kl_863]
  simp only [w_aload, w_iload, w_iconst, w_lconst, w_iadd, w_ialoads, w_call, w_istore, w_goto, w_fall, w_if, w_ifc, w_i2l, w_lcmp, w_zreturn, x_lald isA_316x, len_316x, cI, Int.reduceToNat, Option.toList, List.getElem?_cons_zero, List.getElem?_cons_succ, List.set_cons_zero, List.set_cons_succ, List.cons_append, List.nil_append, List.replicate_succ, List.replicate_zero, List.take_succ_cons, List.take_zero, List.drop_succ_cons, List.drop_zero, List.reverse_cons, List.reverse_nil, List.length_cons, List.length_nil, Option.toList, true_and, and_true, eq_self, ↓reduceIte, not_true_eq_false, not_false_eq_true, true_or, or_true, List.append_eq, h1, ← e1, h2, ← e2]
  refine ⟨by unfold R32; omega, fun y => ?_, fun y => ?_⟩
  · rw [AtL.eq kl_880]
    simp only [w_aload, w_iload, w_iconst, w_lconst, w_iadd, w_ialoads, w_call, w_istore, w_goto, w_fall, w_if, w_ifc, w_i2l, w_lcmp, w_zreturn, x_lald isA_316x, len_316x, cI, Int.reduceToNat, Option.toList, List.getElem?_cons_zero, List.getElem?_cons_succ, List.set_cons_zero, List.set_cons_succ, List.cons_append, List.nil_append, List.replicate_succ, List.replicate_zero, List.take_succ_cons, List.take_zero, List.drop_succ_cons, List.drop_zero, List.reverse_cons, List.reverse_nil, List.length_cons, List.length_nil, Option.toList, true_and, and_true, eq_self, ↓reduceIte, not_true_eq_false, not_false_eq_true, true_or, or_true, List.append_eq, h1, ← e1, h2, ← e2]
    exact hK r2 T m1 _ _ en.1 g
  · have y0 : c = 0 := by omega
    obtain ⟨q1, q2⟩ := p2 y0
    have e9 : T 316 0 = b := (congrFun en.2.1 0).trans q1
    simp only [e9, cmp_self]
    refine ⟨⟨by decide, by decide⟩, q2, ⟨R64_32 q2, R64_32 q2⟩, R32_00, fun _ => ?_, fun w => by simp at w⟩
    rw [AtL.eq kl_880]
    simp only [w_aload, w_iload, w_iconst, w_lconst, w_iadd, w_ialoads, w_call, w_istore, w_goto, w_fall, w_if, w_ifc, w_i2l, w_lcmp, w_zreturn, x_lald isA_316x, len_316x, cI, Int.reduceToNat, Option.toList, List.getElem?_cons_zero, List.getElem?_cons_succ, List.set_cons_zero, List.set_cons_succ, List.cons_append, List.nil_append, List.replicate_succ, List.replicate_zero, List.take_succ_cons, List.take_zero, List.drop_succ_cons, List.drop_zero, List.reverse_cons, List.reverse_nil, List.length_cons, List.length_nil, Option.toList, true_and, and_true, eq_self, ↓reduceIte, not_true_eq_false, not_false_eq_true, true_or, or_true, List.append_eq, h1, ← e1, h2, ← e2]
    exact hK r2 T m1 _ _ en.1 g
theorem s_883 (hX : tb.2.1 = strB) (hD : tb.1 2 = [vi 0, vn, vn, vn, vn, vn]) (h0 : 0 ≤ i) (h6 : i + 6 ≤ (tb.2.2.1 : Int)) (hf : ∀ j, R32 (tb.2.2.2 j)) : CASE tb (d + 80) K 883 i := by
  intro r S m z5 z6 h hK
  have h1 : 0 ≤ i + 1 ∧ i + 1 < (tb.2.2.1 : Int) := by omega
  have g1 := hf (i + 1).toNat
  obtain ⟨x1, e1⟩ : ∃ x, x = tb.2.2.2 (i + 1).toNat := ⟨_, rfl⟩
  rw [← e1] at g1
  rw [AtL.eq kl_883]
  simp only [w_aload, w_iload, w_iconst, w_lconst, w_iadd, w_ialoads, w_call, w_istore, w_goto, w_fall, w_if, w_ifc, w_i2l, w_lcmp, w_zreturn, x_lald isA_316x, len_316x, cI, Int.reduceToNat, Option.toList, List.getElem?_cons_zero, List.getElem?_cons_succ, List.set_cons_zero, List.set_cons_succ, List.cons_append, List.nil_append, List.replicate_succ, List.replicate_zero, List.take_succ_cons, List.take_zero, List.drop_succ_cons, List.drop_zero, List.reverse_cons, List.reverse_nil, List.length_cons, List.length_nil, Option.toList, true_and, and_true, eq_self, ↓reduceIte, not_true_eq_false, not_false_eq_true, true_or, or_true, List.append_eq, h1, ← e1]
  refine ⟨⟨by omega, by omega⟩, ?_⟩
  refine (y_356 (p_146 g1 hX h)) (d + 8) _ (fun c S1 m1 c0 c3 g lr => ?_)
  simp only [w_aload, w_iload, w_iconst, w_lconst, w_iadd, w_ialoads, w_call, w_istore, w_goto, w_fall, w_if, w_ifc, w_i2l, w_lcmp, w_zreturn, x_lald isA_316x, len_316x, cI, Int.reduceToNat, Option.toList, List.getElem?_cons_zero, List.getElem?_cons_succ, List.set_cons_zero, List.set_cons_succ, List.cons_append, List.nil_append, List.replicate_succ, List.replicate_zero, List.take_succ_cons, List.take_zero, List.drop_succ_cons, List.drop_zero, List.reverse_cons, List.reverse_nil, List.length_cons, List.length_nil, Option.toList, true_and, and_true, eq_self, ↓reduceIte, not_true_eq_false, not_false_eq_true, true_or, or_true, List.append_eq, h1, ← e1]
  refine ⟨⟨by omega, by omega⟩, ?_⟩
  refine lr (d + 10) _ (fun T b r2 th en p => ?_)
  obtain ⟨p1, p2⟩ := p
  simp only [w_aload, w_iload, w_iconst, w_lconst, w_iadd, w_ialoads, w_call, w_istore, w_goto, w_fall, w_if, w_ifc, w_i2l, w_lcmp, w_zreturn, x_lald isA_316x, len_316x, cI, Int.reduceToNat, Option.toList, List.getElem?_cons_zero, List.getElem?_cons_succ, List.set_cons_zero, List.set_cons_succ, List.cons_append, List.nil_append, List.replicate_succ, List.replicate_zero, List.take_succ_cons, List.take_zero, List.drop_succ_cons, List.drop_zero, List.reverse_cons, List.reverse_nil, List.length_cons, List.length_nil, Option.toList, true_and, and_true, eq_self, ↓reduceIte, not_true_eq_false, not_false_eq_true, true_or, or_true, List.append_eq, h1, ← e1]
  refine ⟨⟨by omega, by omega⟩, ?_⟩
  refine q_199 (d := d + 79) ?_
  simp only [w_aload, w_iload, w_iconst, w_lconst, w_iadd, w_ialoads, w_call, w_istore, w_goto, w_fall, w_if, w_ifc, w_i2l, w_lcmp, w_zreturn, x_lald isA_316x, len_316x, cI, Int.reduceToNat, Option.toList, List.getElem?_cons_zero, List.getElem?_cons_succ, List.set_cons_zero, List.set_cons_succ, List.cons_append, List.nil_append, List.replicate_succ, List.replicate_zero, List.take_succ_cons, List.take_zero, List.drop_succ_cons, List.drop_zero, List.reverse_cons, List.reverse_nil, List.length_cons, List.length_nil, Option.toList, true_and, and_true, eq_self, ↓reduceIte, not_true_eq_false, not_false_eq_true, true_or, or_true, List.append_eq, h1, ← e1]
  have e7 : T 300 0 = c := en.2.2.trans p1
  refine ⟨Or.inr e7, fun _ => ?_, fun w => absurd e7 w⟩
  rw [AtL.eq kl_919]
  simp only [w_aload, w_iload, w_iconst, w_lconst, w_iadd, w_ialoads, w_call, w_istore, w_goto, w_fall, w_if, w_ifc, w_i2l, w_lcmp, w_zreturn, x_lald isA_316x, len_316x, cI, Int.reduceToNat, Option.toList, List.getElem?_cons_zero, List.getElem?_cons_succ, List.set_cons_zero, List.set_cons_succ, List.cons_append, List.nil_append, List.replicate_succ, List.replicate_zero, List.take_succ_cons, List.take_zero, List.drop_succ_cons, List.drop_zero, List.reverse_cons, List.reverse_nil, List.length_cons, List.length_nil, Option.toList, true_and, and_true, eq_self, ↓reduceIte, not_true_eq_false, not_false_eq_true, true_or, or_true, List.append_eq, h1, ← e1]
  refine ⟨by unfold R32; omega, fun y => ?_, fun y => ?_⟩
  · rw [AtL.eq kl_936]
    simp only [w_aload, w_iload, w_iconst, w_lconst, w_iadd, w_ialoads, w_call, w_istore, w_goto, w_fall, w_if, w_ifc, w_i2l, w_lcmp, w_zreturn, x_lald isA_316x, len_316x, cI, Int.reduceToNat, Option.toList, List.getElem?_cons_zero, List.getElem?_cons_succ, List.set_cons_zero, List.set_cons_succ, List.cons_append, List.nil_append, List.replicate_succ, List.replicate_zero, List.take_succ_cons, List.take_zero, List.drop_succ_cons, List.drop_zero, List.reverse_cons, List.reverse_nil, List.length_cons, List.length_nil, Option.toList, true_and, and_true, eq_self, ↓reduceIte, not_true_eq_false, not_false_eq_true, true_or, or_true, List.append_eq, h1, ← e1]
    exact hK r2 T m1 _ _ en.1 g
  · have y0 : c = 0 := by omega
    obtain ⟨q1, q2⟩ := p2 y0
    have e9 : T 316 0 = b := (congrFun en.2.1 0).trans q1
    simp only [e9, cmp_self]
    refine ⟨⟨by decide, by decide⟩, q2, ⟨R64_32 q2, R64_32 q2⟩, R32_00, fun _ => ?_, fun w => by simp at w⟩
    rw [AtL.eq kl_936]
    simp only [w_aload, w_iload, w_iconst, w_lconst, w_iadd, w_ialoads, w_call, w_istore, w_goto, w_fall, w_if, w_ifc, w_i2l, w_lcmp, w_zreturn, x_lald isA_316x, len_316x, cI, Int.reduceToNat, Option.toList, List.getElem?_cons_zero, List.getElem?_cons_succ, List.set_cons_zero, List.set_cons_succ, List.cons_append, List.nil_append, List.replicate_succ, List.replicate_zero, List.take_succ_cons, List.take_zero, List.drop_succ_cons, List.drop_zero, List.reverse_cons, List.reverse_nil, List.length_cons, List.length_nil, Option.toList, true_and, and_true, eq_self, ↓reduceIte, not_true_eq_false, not_false_eq_true, true_or, or_true, List.append_eq, h1, ← e1]
    exact hK r2 T m1 _ _ en.1 g
theorem s_939 (hX : tb.2.1 = strB) (hD : tb.1 2 = [vi 0, vn, vn, vn, vn, vn]) (h0 : 0 ≤ i) (h6 : i + 6 ≤ (tb.2.2.1 : Int)) (hf : ∀ j, R32 (tb.2.2.2 j)) : CASE tb (d + 80) K 939 i := by
  intro r S m z5 z6 h hK
  have h1 : 0 ≤ i + 1 ∧ i + 1 < (tb.2.2.1 : Int) := by omega
  have g1 := hf (i + 1).toNat
  obtain ⟨x1, e1⟩ : ∃ x, x = tb.2.2.2 (i + 1).toNat := ⟨_, rfl⟩
  rw [← e1] at g1
  have h2 : 0 ≤ i + 2 ∧ i + 2 < (tb.2.2.1 : Int) := by omega
  have g2 := hf (i + 2).toNat
  obtain ⟨x2, e2⟩ : ∃ x, x = tb.2.2.2 (i + 2).toNat := ⟨_, rfl⟩
  rw [← e2] at g2
  rw [AtL.eq kl_939]
  simp only [w_aload, w_iload, w_iconst, w_lconst, w_iadd, w_ialoads, w_call, w_istore, w_goto, w_fall, w_if, w_ifc, w_i2l, w_lcmp, w_zreturn, x_lald isA_316x, len_316x, cI, Int.reduceToNat, Option.toList, List.getElem?_cons_zero, List.getElem?_cons_succ, List.set_cons_zero, List.set_cons_succ, List.cons_append, List.nil_append, List.replicate_succ, List.replicate_zero, List.take_succ_cons, List.take_zero, List.drop_succ_cons, List.drop_zero, List.reverse_cons, List.reverse_nil, List.length_cons, List.length_nil, Option.toList, true_and, and_true, eq_self, ↓reduceIte, not_true_eq_false, not_false_eq_true, true_or, or_true, List.append_eq, h1, ← e1, h2, ← e2]
  refine ⟨⟨by omega, by omega⟩, ?_⟩
  refine (y_357 (p_147 g1 g2 hX h)) (d + 8) _ (fun c S1 m1 c0 c3 g lr => ?_)
  simp only [w_aload, w_iload, w_iconst, w_lconst, w_iadd, w_ialoads, w_call, w_istore, w_goto, w_fall, w_if, w_ifc, w_i2l, w_lcmp, w_zreturn, x_lald isA_316x, len_316x, cI, Int.reduceToNat, Option.toList, List.getElem?_cons_zero, List.getElem?_cons_succ, List.set_cons_zero, List.set_cons_succ, List.cons_append, List.nil_append, List.replicate_succ, List.replicate_zero, List.take_succ_cons, List.take_zero, List.drop_succ_cons, List.drop_zero, List.reverse_cons, List.reverse_nil, List.length_cons, List.length_nil, Option.toList, true_and, and_true, eq_self, ↓reduceIte, not_true_eq_false, not_false_eq_true, true_or, or_true, List.append_eq, h1, ← e1, h2, ← e2]
  refine ⟨⟨by omega, by omega⟩, ?_⟩
  refine lr (d + 10) _ (fun T b r2 th en p => ?_)
  obtain ⟨p1, p2⟩ := p
  simp only [w_aload, w_iload, w_iconst, w_lconst, w_iadd, w_ialoads, w_call, w_istore, w_goto, w_fall, w_if, w_ifc, w_i2l, w_lcmp, w_zreturn, x_lald isA_316x, len_316x, cI, Int.reduceToNat, Option.toList, List.getElem?_cons_zero, List.getElem?_cons_succ, List.set_cons_zero, List.set_cons_succ, List.cons_append, List.nil_append, List.replicate_succ, List.replicate_zero, List.take_succ_cons, List.take_zero, List.drop_succ_cons, List.drop_zero, List.reverse_cons, List.reverse_nil, List.length_cons, List.length_nil, Option.toList, true_and, and_true, eq_self, ↓reduceIte, not_true_eq_false, not_false_eq_true, true_or, or_true, List.append_eq, h1, ← e1, h2, ← e2]
  refine ⟨⟨by omega, by omega⟩, ?_⟩
  refine q_199 (d := d + 79) ?_
  simp only [w_aload, w_iload, w_iconst, w_lconst, w_iadd, w_ialoads, w_call, w_istore, w_goto, w_fall, w_if, w_ifc, w_i2l, w_lcmp, w_zreturn, x_lald isA_316x, len_316x, cI, Int.reduceToNat, Option.toList, List.getElem?_cons_zero, List.getElem?_cons_succ, List.set_cons_zero, List.set_cons_succ, List.cons_append, List.nil_append, List.replicate_succ, List.replicate_zero, List.take_succ_cons, List.take_zero, List.drop_succ_cons, List.drop_zero, List.reverse_cons, List.reverse_nil, List.length_cons, List.length_nil, Option.toList, true_and, and_true, eq_self, ↓reduceIte, not_true_eq_false, not_false_eq_true, true_or, or_true, List.append_eq, h1, ← e1, h2, ← e2]
  have e7 : T 300 0 = c := en.2.2.trans p1
  refine ⟨Or.inr e7, fun _ => ?_, fun w => absurd e7 w⟩
  rw [AtL.eq kl_987]
  simp only [w_aload, w_iload, w_iconst, w_lconst, w_iadd, w_ialoads, w_call, w_istore, w_goto, w_fall, w_if, w_ifc, w_i2l, w_lcmp, w_zreturn, x_lald isA_316x, len_316x, cI, Int.reduceToNat, Option.toList, List.getElem?_cons_zero, List.getElem?_cons_succ, List.set_cons_zero, List.set_cons_succ, List.cons_append, List.nil_append, List.replicate_succ, List.replicate_zero, List.take_succ_cons, List.take_zero, List.drop_succ_cons, List.drop_zero, List.reverse_cons, List.reverse_nil, List.length_cons, List.length_nil, Option.toList, true_and, and_true, eq_self, ↓reduceIte, not_true_eq_false, not_false_eq_true, true_or, or_true, List.append_eq, h1, ← e1, h2, ← e2]
  refine ⟨by unfold R32; omega, fun y => ?_, fun y => ?_⟩
  · rw [AtL.eq kl_1004]
    simp only [w_aload, w_iload, w_iconst, w_lconst, w_iadd, w_ialoads, w_call, w_istore, w_goto, w_fall, w_if, w_ifc, w_i2l, w_lcmp, w_zreturn, x_lald isA_316x, len_316x, cI, Int.reduceToNat, Option.toList, List.getElem?_cons_zero, List.getElem?_cons_succ, List.set_cons_zero, List.set_cons_succ, List.cons_append, List.nil_append, List.replicate_succ, List.replicate_zero, List.take_succ_cons, List.take_zero, List.drop_succ_cons, List.drop_zero, List.reverse_cons, List.reverse_nil, List.length_cons, List.length_nil, Option.toList, true_and, and_true, eq_self, ↓reduceIte, not_true_eq_false, not_false_eq_true, true_or, or_true, List.append_eq, h1, ← e1, h2, ← e2]
    exact hK r2 T m1 _ _ en.1 g
  · have y0 : c = 0 := by omega
    obtain ⟨q1, q2⟩ := p2 y0
    have e9 : T 316 0 = b := (congrFun en.2.1 0).trans q1
    simp only [e9, cmp_self]
    refine ⟨⟨by decide, by decide⟩, q2, ⟨R64_32 q2, R64_32 q2⟩, R32_00, fun _ => ?_, fun w => by simp at w⟩
    rw [AtL.eq kl_1004]
    simp only [w_aload, w_iload, w_iconst, w_lconst, w_iadd, w_ialoads, w_call, w_istore, w_goto, w_fall, w_if, w_ifc, w_i2l, w_lcmp, w_zreturn, x_lald isA_316x, len_316x, cI, Int.reduceToNat, Option.toList, List.getElem?_cons_zero, List.getElem?_cons_succ, List.set_cons_zero, List.set_cons_succ, List.cons_append, List.nil_append, List.replicate_succ, List.replicate_zero, List.take_succ_cons, List.take_zero, List.drop_succ_cons, List.drop_zero, List.reverse_cons, List.reverse_nil, List.length_cons, List.length_nil, Option.toList, true_and, and_true, eq_self, ↓reduceIte, not_true_eq_false, not_false_eq_true, true_or, or_true, List.append_eq, h1, ← e1, h2, ← e2]
    exact hK r2 T m1 _ _ en.1 g
theorem s_1007 (hX : tb.2.1 = strB) (hD : tb.1 2 = [vi 0, vn, vn, vn, vn, vn]) (h0 : 0 ≤ i) (h6 : i + 6 ≤ (tb.2.2.1 : Int)) (hf : ∀ j, R32 (tb.2.2.2 j)) : CASE tb (d + 80) K 1007 i := by
  intro r S m z5 z6 h hK
  have h1 : 0 ≤ i + 1 ∧ i + 1 < (tb.2.2.1 : Int) := by omega
  have g1 := hf (i + 1).toNat
  obtain ⟨x1, e1⟩ : ∃ x, x = tb.2.2.2 (i + 1).toNat := ⟨_, rfl⟩
  rw [← e1] at g1
  rw [AtL.eq kl_1007]
  simp only [w_aload, w_iload, w_iconst, w_lconst, w_iadd, w_ialoads, w_call, w_istore, w_goto, w_fall, w_if, w_ifc, w_i2l, w_lcmp, w_zreturn, x_lald isA_316x, len_316x, cI, Int.reduceToNat, Option.toList, List.getElem?_cons_zero, List.getElem?_cons_succ, List.set_cons_zero, List.set_cons_succ, List.cons_append, List.nil_append, List.replicate_succ, List.replicate_zero, List.take_succ_cons, List.take_zero, List.drop_succ_cons, List.drop_zero, List.reverse_cons, List.reverse_nil, List.length_cons, List.length_nil, Option.toList, true_and, and_true, eq_self, ↓reduceIte, not_true_eq_false, not_false_eq_true, true_or, or_true, List.append_eq, h1, ← e1]
  refine ⟨⟨by omega, by omega⟩, ?_⟩
  refine (y_358 (p_148 g1 hX h)) (d + 8) _ (fun c S1 m1 c0 c3 g lr => ?_)
  simp only [w_aload, w_iload, w_iconst, w_lconst, w_iadd, w_ialoads, w_call, w_istore, w_goto, w_fall, w_if, w_ifc, w_i2l, w_lcmp, w_zreturn, x_lald isA_316x, len_316x, cI, Int.reduceToNat, Option.toList, List.getElem?_cons_zero, List.getElem?_cons_succ, List.set_cons_zero, List.set_cons_succ, List.cons_append, List.nil_append, List.replicate_succ, List.replicate_zero, List.take_succ_cons, List.take_zero, List.drop_succ_cons, List.drop_zero, List.reverse_cons, List.reverse_nil, List.length_cons, List.length_nil, Option.toList, true_and, and_true, eq_self, ↓reduceIte, not_true_eq_false, not_false_eq_true, true_or, or_true, List.append_eq, h1, ← e1]
  refine ⟨⟨by omega, by omega⟩, ?_⟩
  refine lr (d + 10) _ (fun T b r2 th en p => ?_)
  obtain ⟨p1, p2⟩ := p
  simp only [w_aload, w_iload, w_iconst, w_lconst, w_iadd, w_ialoads, w_call, w_istore, w_goto, w_fall, w_if, w_ifc, w_i2l, w_lcmp, w_zreturn, x_lald isA_316x, len_316x, cI, Int.reduceToNat, Option.toList, List.getElem?_cons_zero, List.getElem?_cons_succ, List.set_cons_zero, List.set_cons_succ, List.cons_append, List.nil_append, List.replicate_succ, List.replicate_zero, List.take_succ_cons, List.take_zero, List.drop_succ_cons, List.drop_zero, List.reverse_cons, List.reverse_nil, List.length_cons, List.length_nil, Option.toList, true_and, and_true, eq_self, ↓reduceIte, not_true_eq_false, not_false_eq_true, true_or, or_true, List.append_eq, h1, ← e1]
  refine ⟨⟨by omega, by omega⟩, ?_⟩
  refine q_199 (d := d + 79) ?_
  simp only [w_aload, w_iload, w_iconst, w_lconst, w_iadd, w_ialoads, w_call, w_istore, w_goto, w_fall, w_if, w_ifc, w_i2l, w_lcmp, w_zreturn, x_lald isA_316x, len_316x, cI, Int.reduceToNat, Option.toList, List.getElem?_cons_zero, List.getElem?_cons_succ, List.set_cons_zero, List.set_cons_succ, List.cons_append, List.nil_append, List.replicate_succ, List.replicate_zero, List.take_succ_cons, List.take_zero, List.drop_succ_cons, List.drop_zero, List.reverse_cons, List.reverse_nil, List.length_cons, List.length_nil, Option.toList, true_and, and_true, eq_self, ↓reduceIte, not_true_eq_false, not_false_eq_true, true_or, or_true, List.append_eq, h1, ← e1]
  have e7 : T 300 0 = c := en.2.2.trans p1
  refine ⟨Or.inr e7, fun _ => ?_, fun w => absurd e7 w⟩
  rw [AtL.eq kl_1043]
  simp only [w_aload, w_iload, w_iconst, w_lconst, w_iadd, w_ialoads, w_call, w_istore, w_goto, w_fall, w_if, w_ifc, w_i2l, w_lcmp, w_zreturn, x_lald isA_316x, len_316x, cI, Int.reduceToNat, Option.toList, List.getElem?_cons_zero, List.getElem?_cons_succ, List.set_cons_zero, List.set_cons_succ, List.cons_append, List.nil_append, List.replicate_succ, List.replicate_zero, List.take_succ_cons, List.take_zero, List.drop_succ_cons, List.drop_zero, List.reverse_cons, List.reverse_nil, List.length_cons, List.length_nil, Option.toList, true_and, and_true, eq_self, ↓reduceIte, not_true_eq_false, not_false_eq_true, true_or, or_true, List.append_eq, h1, ← e1]
  refine ⟨by unfold R32; omega, fun y => ?_, fun y => ?_⟩
  · rw [AtL.eq kl_1060]
    simp only [w_aload, w_iload, w_iconst, w_lconst, w_iadd, w_ialoads, w_call, w_istore, w_goto, w_fall, w_if, w_ifc, w_i2l, w_lcmp, w_zreturn, x_lald isA_316x, len_316x, cI, Int.reduceToNat, Option.toList, List.getElem?_cons_zero, List.getElem?_cons_succ, List.set_cons_zero, List.set_cons_succ, List.cons_append, List.nil_append, List.replicate_succ, List.replicate_zero, List.take_succ_cons, List.take_zero, List.drop_succ_cons, List.drop_zero, List.reverse_cons, List.reverse_nil, List.length_cons, List.length_nil, Option.toList, true_and, and_true, eq_self, ↓reduceIte, not_true_eq_false, not_false_eq_true, true_or, or_true, List.append_eq, h1, ← e1]
    exact hK r2 T m1 _ _ en.1 g
  · have y0 : c = 0 := by omega
    obtain ⟨q1, q2⟩ := p2 y0
    have e9 : T 316 0 = b := (congrFun en.2.1 0).trans q1
    simp only [e9, cmp_self]
    refine ⟨⟨by decide, by decide⟩, q2, ⟨R64_32 q2, R64_32 q2⟩, R32_00, fun _ => ?_, fun w => by simp at w⟩
    rw [AtL.eq kl_1060]
    simp only [w_aload, w_iload, w_iconst, w_lconst, w_iadd, w_ialoads, w_call, w_istore, w_goto, w_fall, w_if, w_ifc, w_i2l, w_lcmp, w_zreturn, x_lald isA_316x, len_316x, cI, Int.reduceToNat, Option.toList, List.getElem?_cons_zero, List.getElem?_cons_succ, List.set_cons_zero, List.set_cons_succ, List.cons_append, List.nil_append, List.replicate_succ, List.replicate_zero, List.take_succ_cons, List.take_zero, List.drop_succ_cons, List.drop_zero, List.reverse_cons, List.reverse_nil, List.length_cons, List.length_nil, Option.toList, true_and, and_true, eq_self, ↓reduceIte, not_true_eq_false, not_false_eq_true, true_or, or_true, List.append_eq, h1, ← e1]
    exact hK r2 T m1 _ _ en.1 g
theorem s_1063 (hX : tb.2.1 = strB) (hD : tb.1 2 = [vi 0, vn, vn, vn, vn, vn]) (h0 : 0 ≤ i) (h6 : i + 6 ≤ (tb.2.2.1 : Int)) (hf : ∀ j, R32 (tb.2.2.2 j)) : CASE tb (d + 80) K 1063 i := by
  intro r S m z5 z6 h hK
  have h1 : 0 ≤ i + 1 ∧ i + 1 < (tb.2.2.1 : Int) := by omega
  have g1 := hf (i + 1).toNat
  obtain ⟨x1, e1⟩ : ∃ x, x = tb.2.2.2 (i + 1).toNat := ⟨_, rfl⟩
  rw [← e1] at g1
  have h2 : 0 ≤ i + 2 ∧ i + 2 < (tb.2.2.1 : Int) := by omega
  have g2 := hf (i + 2).toNat
  obtain ⟨x2, e2⟩ : ∃ x, x = tb.2.2.2 (i + 2).toNat := ⟨_, rfl⟩
  rw [← e2] at g2
  rw [AtL.eq kl_1063]
  simp only [w_aload, w_iload, w_iconst, w_lconst, w_iadd, w_ialoads, w_call, w_istore, w_goto, w_fall, w_if, w_ifc, w_i2l, w_lcmp, w_zreturn, x_lald isA_316x, len_316x, cI, Int.reduceToNat, Option.toList, List.getElem?_cons_zero, List.getElem?_cons_succ, List.set_cons_zero, List.set_cons_succ, List.cons_append, List.nil_append, List.replicate_succ, List.replicate_zero, List.take_succ_cons, List.take_zero, List.drop_succ_cons, List.drop_zero, List.reverse_cons, List.reverse_nil, List.length_cons, List.length_nil, Option.toList, true_and, and_true, eq_self, ↓reduceIte, not_true_eq_false, not_false_eq_true, true_or, or_true, List.append_eq, h1, ← e1, h2, ← e2]
  refine ⟨⟨by omega, by omega⟩, ?_⟩
  refine (y_359 (p_149 g1 g2 hX h)) (d + 8) _ (fun c S1 m1 c0 c3 g lr => ?_)
  simp only [w_aload, w_iload, w_iconst, w_lconst, w_iadd, w_ialoads, w_call, w_istore, w_goto, w_fall, w_if, w_ifc, w_i2l, w_lcmp, w_zreturn, x_lald isA_316x, len_316x, cI, Int.reduceToNat, Option.toList, List.getElem?_cons_zero, List.getElem?_cons_succ, List.set_cons_zero, List.set_cons_succ, List.cons_append, List.nil_append, List.replicate_succ, List.replicate_zero, List.take_succ_cons, List.take_zero, List.drop_succ_cons, List.drop_zero, List.reverse_cons, List.reverse_nil, List.length_cons, List.length_nil, Option.toList, true_and, and_true, eq_self, ↓reduceIte, not_true_eq_false, not_false_eq_true, true_or, or_true, List.append_eq, h1, ← e1, h2, ← e2]
  refine ⟨⟨by omega, by omega⟩, ?_⟩
  refine lr (d + 10) _ (fun T b r2 th en p => ?_)
  obtain ⟨p1, p2⟩ := p
  simp only [w_aload, w_iload, w_iconst, w_lconst, w_iadd, w_ialoads, w_call, w_istore, w_goto, w_fall, w_if, w_ifc, w_i2l, w_lcmp, w_zreturn, x_lald isA_316x, len_316x, cI, Int.reduceToNat, Option.toList, List.getElem?_cons_zero, List.getElem?_cons_succ, List.set_cons_zero, List.set_cons_succ, List.cons_append, List.nil_append, List.replicate_succ, List.replicate_zero, List.take_succ_cons, List.take_zero, List.drop_succ_cons, List.drop_zero, List.reverse_cons, List.reverse_nil, List.length_cons, List.length_nil, Option.toList, true_and, and_true, eq_self, ↓reduceIte, not_true_eq_false, not_false_eq_true, true_or, or_true, List.append_eq, h1, ← e1, h2, ← e2]
  refine ⟨⟨by omega, by omega⟩, ?_⟩
  refine q_199 (d := d + 79) ?_
  simp only [w_aload, w_iload, w_iconst, w_lconst, w_iadd, w_ialoads, w_call, w_istore, w_goto, w_fall, w_if, w_ifc, w_i2l, w_lcmp, w_zreturn, x_lald isA_316x, len_316x, cI, Int.reduceToNat, Option.toList, List.getElem?_cons_zero, List.getElem?_cons_succ, List.set_cons_zero, List.set_cons_succ, List.cons_append, List.nil_append, List.replicate_succ, List.replicate_zero, List.take_succ_cons, List.take_zero, List.drop_succ_cons, List.drop_zero, List.reverse_cons, List.reverse_nil, List.length_cons, List.length_nil, Option.toList, true_and, and_true, eq_self, ↓reduceIte, not_true_eq_false, not_false_eq_true, true_or, or_true, List.append_eq, h1, ← e1, h2, ← e2]
  have e7 : T 300 0 = c := en.2.2.trans p1
  refine ⟨Or.inr e7, fun _ => ?_, fun w => absurd e7 w⟩
  rw [AtL.eq kl_1111]
  simp only [w_aload, w_iload, w_iconst, w_lconst, w_iadd, w_ialoads, w_call, w_istore, w_goto, w_fall, w_if, w_ifc, w_i2l, w_lcmp, w_zreturn, x_lald isA_316x, len_316x, cI, Int.reduceToNat, Option.toList, List.getElem?_cons_zero, List.getElem?_cons_succ, List.set_cons_zero, List.set_cons_succ, List.cons_append, List.nil_append, List.replicate_succ, List.replicate_zero, List.take_succ_cons, List.take_zero, List.drop_succ_cons, List.drop_zero, List.reverse_cons, List.reverse_nil, List.length_cons, List.length_nil, Option.toList, true_and, and_true, eq_self, ↓reduceIte, not_true_eq_false, not_false_eq_true, true_or, or_true, List.append_eq, h1, ← e1, h2, ← e2]
  refine ⟨by unfold R32; omega, fun y => ?_, fun y => ?_⟩
  · rw [AtL.eq kl_1128]
    simp only [w_aload, w_iload, w_iconst, w_lconst, w_iadd, w_ialoads, w_call, w_istore, w_goto, w_fall, w_if, w_ifc, w_i2l, w_lcmp, w_zreturn, x_lald isA_316x, len_316x, cI, Int.reduceToNat, Option.toList, List.getElem?_cons_zero, List.getElem?_cons_succ, List.set_cons_zero, List.set_cons_succ, List.cons_append, List.nil_append, List.replicate_succ, List.replicate_zero, List.take_succ_cons, List.take_zero, List.drop_succ_cons, List.drop_zero, List.reverse_cons, List.reverse_nil, List.length_cons, List.length_nil, Option.toList, true_and, and_true, eq_self, ↓reduceIte, not_true_eq_false, not_false_eq_true, true_or, or_true, List.append_eq, h1, ← e1, h2, ← e2]
    exact hK r2 T m1 _ _ en.1 g
  · have y0 : c = 0 := by omega
    obtain ⟨q1, q2⟩ := p2 y0
    have e9 : T 316 0 = b := (congrFun en.2.1 0).trans q1
    simp only [e9, cmp_self]
    refine ⟨⟨by decide, by decide⟩, q2, ⟨R64_32 q2, R64_32 q2⟩, R32_00, fun _ => ?_, fun w => by simp at w⟩
    rw [AtL.eq kl_1128]
    simp only [w_aload, w_iload, w_iconst, w_lconst, w_iadd, w_ialoads, w_call, w_istore, w_goto, w_fall, w_if, w_ifc, w_i2l, w_lcmp, w_zreturn, x_lald isA_316x, len_316x, cI, Int.reduceToNat, Option.toList, List.getElem?_cons_zero, List.getElem?_cons_succ, List.set_cons_zero, List.set_cons_succ, List.cons_append, List.nil_append, List.replicate_succ, List.replicate_zero, List.take_succ_cons, List.take_zero, List.drop_succ_cons, List.drop_zero, List.reverse_cons, List.reverse_nil, List.length_cons, List.length_nil, Option.toList, true_and, and_true, eq_self, ↓reduceIte, not_true_eq_false, not_false_eq_true, true_or, or_true, List.append_eq, h1, ← e1, h2, ← e2]
    exact hK r2 T m1 _ _ en.1 g
theorem s_1131 (hX : tb.2.1 = strB) (hD : tb.1 2 = [vi 0, vn, vn, vn, vn, vn]) (h0 : 0 ≤ i) (h6 : i + 6 ≤ (tb.2.2.1 : Int)) (hf : ∀ j, R32 (tb.2.2.2 j)) : CASE tb (d + 80) K 1131 i := by
  intro r S m z5 z6 h hK
  have h1 : 0 ≤ i + 1 ∧ i + 1 < (tb.2.2.1 : Int) := by omega
  have g1 := hf (i + 1).toNat
  obtain ⟨x1, e1⟩ : ∃ x, x = tb.2.2.2 (i + 1).toNat := ⟨_, rfl⟩
  rw [← e1] at g1
  have h2 : 0 ≤ i + 2 ∧ i + 2 < (tb.2.2.1 : Int) := by omega
  have g2 := hf (i + 2).toNat
  obtain ⟨x2, e2⟩ : ∃ x, x = tb.2.2.2 (i + 2).toNat := ⟨_, rfl⟩
  rw [← e2] at g2
  have h3 : 0 ≤ i + 3 ∧ i + 3 < (tb.2.2.1 : Int) := by omega
  have g3 := hf (i + 3).toNat
  obtain ⟨x3, e3⟩ : ∃ x, x = tb.2.2.2 (i + 3).toNat := ⟨_, rfl⟩
  rw [← e3] at g3
  rw [AtL.eq kl_1131]
  simp only [w_aload, w_iload, w_iconst, w_lconst, w_iadd, w_ialoads, w_call, w_istore, w_goto, w_fall, w_if, w_ifc, w_i2l, w_lcmp, w_zreturn, x_lald isA_316x, len_316x, cI, Int.reduceToNat, Option.toList, List.getElem?_cons_zero, List.getElem?_cons_succ, List.set_cons_zero, List.set_cons_succ, List.cons_append, List.nil_append, List.replicate_succ, List.replicate_zero, List.take_succ_cons, List.take_zero, List.drop_succ_cons, List.drop_zero, List.reverse_cons, List.reverse_nil, List.length_cons, List.length_nil, Option.toList, true_and, and_true, eq_self, ↓reduceIte, not_true_eq_false, not_false_eq_true, true_or, or_true, List.append_eq, h1, ← e1, h2, ← e2, h3, ← e3]
  refine ⟨⟨by omega, by omega⟩, ?_⟩
  refine (y_360 (p_150 g1 g2 g3 hX h)) (d + 8) _ (fun c S1 m1 c0 c3 g lr => ?_)
  simp only [w_aload, w_iload, w_iconst, w_lconst, w_iadd, w_ialoads, w_call, w_istore, w_goto, w_fall, w_if, w_ifc, w_i2l, w_lcmp, w_zreturn, x_lald isA_316x, len_316x, cI, Int.reduceToNat, Option.toList, List.getElem?_cons_zero, List.getElem?_cons_succ, List.set_cons_zero, List.set_cons_succ, List.cons_append, List.nil_append, List.replicate_succ, List.replicate_zero, List.take_succ_cons, List.take_zero, List.drop_succ_cons, List.drop_zero, List.reverse_cons, List.reverse_nil, List.length_cons, List.length_nil, Option.toList, true_and, and_true, eq_self, ↓reduceIte, not_true_eq_false, not_false_eq_true, true_or, or_true, List.append_eq, h1, ← e1, h2, ← e2, h3, ← e3]
  refine ⟨⟨by omega, by omega⟩, ?_⟩
  refine lr (d + 10) _ (fun T b r2 th en p => ?_)
  obtain ⟨p1, p2⟩ := p
  simp only [w_aload, w_iload, w_iconst, w_lconst, w_iadd, w_ialoads, w_call, w_istore, w_goto, w_fall, w_if, w_ifc, w_i2l, w_lcmp, w_zreturn, x_lald isA_316x, len_316x, cI, Int.reduceToNat, Option.toList, List.getElem?_cons_zero, List.getElem?_cons_succ, List.set_cons_zero, List.set_cons_succ, List.cons_append, List.nil_append, List.replicate_succ, List.replicate_zero, List.take_succ_cons, List.take_zero, List.drop_succ_cons, List.drop_zero, List.reverse_cons, List.reverse_nil, List.length_cons, List.length_nil, Option.toList, true_and, and_true, eq_self, ↓reduceIte, not_true_eq_false, not_false_eq_true, true_or, or_true, List.append_eq, h1, ← e1, h2, ← e2, h3, ← e3]
  refine ⟨⟨by omega, by omega⟩, ?_⟩
  refine q_199 (d := d + 79) ?_
  simp only [w_aload, w_iload, w_iconst, w_lconst, w_iadd, w_ialoads, w_call, w_istore, w_goto, w_fall, w_if, w_ifc, w_i2l, w_lcmp, w_zreturn, x_lald isA_316x, len_316x, cI, Int.reduceToNat, Option.toList, List.getElem?_cons_zero, List.getElem?_cons_succ, List.set_cons_zero, List.set_cons_succ, List.cons_append, List.nil_append, List.replicate_succ, List.replicate_zero, List.take_succ_cons, List.take_zero, List.drop_succ_cons, List.drop_zero, List.reverse_cons, List.reverse_nil, List.length_cons, List.length_nil, Option.toList, true_and, and_true, eq_self, ↓reduceIte, not_true_eq_false, not_false_eq_true, true_or, or_true, List.append_eq, h1, ← e1, h2, ← e2, h3, ← e3]
  have e7 : T 300 0 = c := en.2.2.trans p1
  refine ⟨Or.inr e7, fun _ => ?_, fun w => absurd e7 w⟩
  rw [AtL.eq kl_1191]
  simp only [w_aload, w_iload, w_iconst, w_lconst, w_iadd, w_ialoads, w_call, w_istore, w_goto, w_fall, w_if, w_ifc, w_i2l, w_lcmp, w_zreturn, x_lald isA_316x, len_316x, cI, Int.reduceToNat, Option.toList, List.getElem?_cons_zero, List.getElem?_cons_succ, List.set_cons_zero, List.set_cons_succ, List.cons_append, List.nil_append, List.replicate_succ, List.replicate_zero, List.take_succ_cons, List.take_zero, List.drop_succ_cons, List.drop_zero, List.reverse_cons, List.reverse_nil, List.length_cons, List.length_nil, Option.toList, true_and, and_true, eq_self, ↓reduceIte, not_true_eq_false, not_false_eq_true, true_or, or_true, List.append_eq, h1, ← e1, h2, ← e2, h3, ← e3]
  refine ⟨by unfold R32; omega, fun y => ?_, fun y => ?_⟩
  · rw [AtL.eq kl_1208]
    simp only [w_aload, w_iload, w_iconst, w_lconst, w_iadd, w_ialoads, w_call, w_istore, w_goto, w_fall, w_if, w_ifc, w_i2l, w_lcmp, w_zreturn, x_lald isA_316x, len_316x, cI, Int.reduceToNat, Option.toList, List.getElem?_cons_zero, List.getElem?_cons_succ, List.set_cons_zero, List.set_cons_succ, List.cons_append, List.nil_append, List.replicate_succ, List.replicate_zero, List.take_succ_cons, List.take_zero, List.drop_succ_cons, List.drop_zero, List.reverse_cons, List.reverse_nil, List.length_cons, List.length_nil, Option.toList, true_and, and_true, eq_self, ↓reduceIte, not_true_eq_false, not_false_eq_true, true_or, or_true, List.append_eq, h1, ← e1, h2, ← e2, h3, ← e3]
    exact hK r2 T m1 _ _ en.1 g
  · have y0 : c = 0 := by omega
    obtain ⟨q1, q2⟩ := p2 y0
    have e9 : T 316 0 = b := (congrFun en.2.1 0).trans q1
    simp only [e9, cmp_self]
    refine ⟨⟨by decide, by decide⟩, q2, ⟨R64_32 q2, R64_32 q2⟩, R32_00, fun _ => ?_, fun w => by simp at w⟩
    rw [AtL.eq kl_1208]
    simp only [w_aload, w_iload, w_iconst, w_lconst, w_iadd, w_ialoads, w_call, w_istore, w_goto, w_fall, w_if, w_ifc, w_i2l, w_lcmp, w_zreturn, x_lald isA_316x, len_316x, cI, Int.reduceToNat, Option.toList, List.getElem?_cons_zero, List.getElem?_cons_succ, List.set_cons_zero, List.set_cons_succ, List.cons_append, List.nil_append, List.replicate_succ, List.replicate_zero, List.take_succ_cons, List.take_zero, List.drop_succ_cons, List.drop_zero, List.reverse_cons, List.reverse_nil, List.length_cons, List.length_nil, Option.toList, true_and, and_true, eq_self, ↓reduceIte, not_true_eq_false, not_false_eq_true, true_or, or_true, List.append_eq, h1, ← e1, h2, ← e2, h3, ← e3]
    exact hK r2 T m1 _ _ en.1 g
theorem s_1211 (hX : tb.2.1 = strB) (hD : tb.1 2 = [vi 0, vn, vn, vn, vn, vn]) (h0 : 0 ≤ i) (h6 : i + 6 ≤ (tb.2.2.1 : Int)) (hf : ∀ j, R32 (tb.2.2.2 j)) : CASE tb (d + 80) K 1211 i := by
  intro r S m z5 z6 h hK
  have h1 : 0 ≤ i + 1 ∧ i + 1 < (tb.2.2.1 : Int) := by omega
  have g1 := hf (i + 1).toNat
  obtain ⟨x1, e1⟩ : ∃ x, x = tb.2.2.2 (i + 1).toNat := ⟨_, rfl⟩
  rw [← e1] at g1
  rw [AtL.eq kl_1211]
  simp only [w_aload, w_iload, w_iconst, w_lconst, w_iadd, w_ialoads, w_call, w_istore, w_goto, w_fall, w_if, w_ifc, w_i2l, w_lcmp, w_zreturn, x_lald isA_316x, len_316x, cI, Int.reduceToNat, Option.toList, List.getElem?_cons_zero, List.getElem?_cons_succ, List.set_cons_zero, List.set_cons_succ, List.cons_append, List.nil_append, List.replicate_succ, List.replicate_zero, List.take_succ_cons, List.take_zero, List.drop_succ_cons, List.drop_zero, List.reverse_cons, List.reverse_nil, List.length_cons, List.length_nil, Option.toList, true_and, and_true, eq_self, ↓reduceIte, not_true_eq_false, not_false_eq_true, true_or, or_true, List.append_eq, h1, ← e1]
  refine ⟨⟨by omega, by omega⟩, ?_⟩
  refine (y_361 (p_151 g1 hX h)) (d + 8) _ (fun c S1 m1 c0 c3 g lr => ?_)
  simp only [w_aload, w_iload, w_iconst, w_lconst, w_iadd, w_ialoads, w_call, w_istore, w_goto, w_fall, w_if, w_ifc, w_i2l, w_lcmp, w_zreturn, x_lald isA_316x, len_316x, cI, Int.reduceToNat, Option.toList, List.getElem?_cons_zero, List.getElem?_cons_succ, List.set_cons_zero, List.set_cons_succ, List.cons_append, List.nil_append, List.replicate_succ, List.replicate_zero, List.take_succ_cons, List.take_zero, List.drop_succ_cons, List.drop_zero, List.reverse_cons, List.reverse_nil, List.length_cons, List.length_nil, Option.toList, true_and, and_true, eq_self, ↓reduceIte, not_true_eq_false, not_false_eq_true, true_or, or_true, List.append_eq, h1, ← e1]
  refine ⟨⟨by omega, by omega⟩, ?_⟩
  refine lr (d + 10) _ (fun T b r2 th en p => ?_)
  obtain ⟨p1, p2⟩ := p
  simp only [w_aload, w_iload, w_iconst, w_lconst, w_iadd, w_ialoads, w_call, w_istore, w_goto, w_fall, w_if, w_ifc, w_i2l, w_lcmp, w_zreturn, x_lald isA_316x, len_316x, cI, Int.reduceToNat, Option.toList, List.getElem?_cons_zero, List.getElem?_cons_succ, List.set_cons_zero, List.set_cons_succ, List.cons_append, List.nil_append, List.replicate_succ, List.replicate_zero, List.take_succ_cons, List.take_zero, List.drop_succ_cons, List.drop_zero, List.reverse_cons, List.reverse_nil, List.length_cons, List.length_nil, Option.toList, true_and, and_true, eq_self, ↓reduceIte, not_true_eq_false, not_false_eq_true, true_or, or_true, List.append_eq, h1, ← e1]
  refine ⟨⟨by omega, by omega⟩, ?_⟩
  refine q_199 (d := d + 79) ?_
  simp only [w_aload, w_iload, w_iconst, w_lconst, w_iadd, w_ialoads, w_call, w_istore, w_goto, w_fall, w_if, w_ifc, w_i2l, w_lcmp, w_zreturn, x_lald isA_316x, len_316x, cI, Int.reduceToNat, Option.toList, List.getElem?_cons_zero, List.getElem?_cons_succ, List.set_cons_zero, List.set_cons_succ, List.cons_append, List.nil_append, List.replicate_succ, List.replicate_zero, List.take_succ_cons, List.take_zero, List.drop_succ_cons, List.drop_zero, List.reverse_cons, List.reverse_nil, List.length_cons, List.length_nil, Option.toList, true_and, and_true, eq_self, ↓reduceIte, not_true_eq_false, not_false_eq_true, true_or, or_true, List.append_eq, h1, ← e1]
  have e7 : T 300 0 = c := en.2.2.trans p1
  refine ⟨Or.inr e7, fun _ => ?_, fun w => absurd e7 w⟩
  rw [AtL.eq kl_1247]
  simp only [w_aload, w_iload, w_iconst, w_lconst, w_iadd, w_ialoads, w_call, w_istore, w_goto, w_fall, w_if, w_ifc, w_i2l, w_lcmp, w_zreturn, x_lald isA_316x, len_316x, cI, Int.reduceToNat, Option.toList, List.getElem?_cons_zero, List.getElem?_cons_succ, List.set_cons_zero, List.set_cons_succ, List.cons_append, List.nil_append, List.replicate_succ, List.replicate_zero, List.take_succ_cons, List.take_zero, List.drop_succ_cons, List.drop_zero, List.reverse_cons, List.reverse_nil, List.length_cons, List.length_nil, Option.toList, true_and, and_true, eq_self, ↓reduceIte, not_true_eq_false, not_false_eq_true, true_or, or_true, List.append_eq, h1, ← e1]
  refine ⟨by unfold R32; omega, fun y => ?_, fun y => ?_⟩
  · rw [AtL.eq kl_1264]
    simp only [w_aload, w_iload, w_iconst, w_lconst, w_iadd, w_ialoads, w_call, w_istore, w_goto, w_fall, w_if, w_ifc, w_i2l, w_lcmp, w_zreturn, x_lald isA_316x, len_316x, cI, Int.reduceToNat, Option.toList, List.getElem?_cons_zero, List.getElem?_cons_succ, List.set_cons_zero, List.set_cons_succ, List.cons_append, List.nil_append, List.replicate_succ, List.replicate_zero, List.take_succ_cons, List.take_zero, List.drop_succ_cons, List.drop_zero, List.reverse_cons, List.reverse_nil, List.length_cons, List.length_nil, Option.toList, true_and, and_true, eq_self, ↓reduceIte, not_true_eq_false, not_false_eq_true, true_or, or_true, List.append_eq, h1, ← e1]
    exact hK r2 T m1 _ _ en.1 g
  · have y0 : c = 0 := by omega
    obtain ⟨q1, q2⟩ := p2 y0
    have e9 : T 316 0 = b := (congrFun en.2.1 0).trans q1
    simp only [e9, cmp_self]
    refine ⟨⟨by decide, by decide⟩, q2, ⟨R64_32 q2, R64_32 q2⟩, R32_00, fun _ => ?_, fun w => by simp at w⟩
    rw [AtL.eq kl_1264]
    simp only [w_aload, w_iload, w_iconst, w_lconst, w_iadd, w_ialoads, w_call, w_istore, w_goto, w_fall, w_if, w_ifc, w_i2l, w_lcmp, w_zreturn, x_lald isA_316x, len_316x, cI, Int.reduceToNat, Option.toList, List.getElem?_cons_zero, List.getElem?_cons_succ, List.set_cons_zero, List.set_cons_succ, List.cons_append, List.nil_append, List.replicate_succ, List.replicate_zero, List.take_succ_cons, List.take_zero, List.drop_succ_cons, List.drop_zero, List.reverse_cons, List.reverse_nil, List.length_cons, List.length_nil, Option.toList, true_and, and_true, eq_self, ↓reduceIte, not_true_eq_false, not_false_eq_true, true_or, or_true, List.append_eq, h1, ← e1]
    exact hK r2 T m1 _ _ en.1 g
theorem s_1267 (hX : tb.2.1 = strB) (hD : tb.1 2 = [vi 0, vn, vn, vn, vn, vn]) (h0 : 0 ≤ i) (h6 : i + 6 ≤ (tb.2.2.1 : Int)) (hf : ∀ j, R32 (tb.2.2.2 j)) : CASE tb (d + 80) K 1267 i := by
  intro r S m z5 z6 h hK
  have h1 : 0 ≤ i + 1 ∧ i + 1 < (tb.2.2.1 : Int) := by omega
  have g1 := hf (i + 1).toNat
  obtain ⟨x1, e1⟩ : ∃ x, x = tb.2.2.2 (i + 1).toNat := ⟨_, rfl⟩
  rw [← e1] at g1
  have h2 : 0 ≤ i + 2 ∧ i + 2 < (tb.2.2.1 : Int) := by omega
  have g2 := hf (i + 2).toNat
  obtain ⟨x2, e2⟩ : ∃ x, x = tb.2.2.2 (i + 2).toNat := ⟨_, rfl⟩
  rw [← e2] at g2
  rw [AtL.eq kl_1267]
  simp only [w_aload, w_iload, w_iconst, w_lconst, w_iadd, w_ialoads, w_call, w_istore, w_goto, w_fall, w_if, w_ifc, w_i2l, w_lcmp, w_zreturn, x_lald isA_316x, len_316x, cI, Int.reduceToNat, Option.toList, List.getElem?_cons_zero, List.getElem?_cons_succ, List.set_cons_zero, List.set_cons_succ, List.cons_append, List.nil_append, List.replicate_succ, List.replicate_zero, List.take_succ_cons, List.take_zero, List.drop_succ_cons, List.drop_zero, List.reverse_cons, List.reverse_nil, List.length_cons, List.length_nil, Option.toList, true_and, and_true, eq_self, ↓reduceIte, not_true_eq_false, not_false_eq_true, true_or, or_true, List.append_eq, h1, ← e1, h2, ← e2]
  refine ⟨⟨by omega, by omega⟩, ?_⟩
  refine (y_362 (p_152 g1 g2 hX h)) (d + 8) _ (fun c S1 m1 c0 c3 g lr => ?_)
  simp only [w_aload, w_iload, w_iconst, w_lconst, w_iadd, w_ialoads, w_call, w_istore, w_goto, w_fall, w_if, w_ifc, w_i2l, w_lcmp, w_zreturn, x_lald isA_316x, len_316x, cI, Int.reduceToNat, Option.toList, List.getElem?_cons_zero, List.getElem?_cons_succ, List.set_cons_zero, List.set_cons_succ, List.cons_append, List.nil_append, List.replicate_succ, List.replicate_zero, List.take_succ_cons, List.take_zero, List.drop_succ_cons, List.drop_zero, List.reverse_cons, List.reverse_nil, List.length_cons, List.length_nil, Option.toList, true_and, and_true, eq_self, ↓reduceIte, not_true_eq_false, not_false_eq_true, true_or, or_true, List.append_eq, h1, ← e1, h2, ← e2]
  refine ⟨⟨by omega, by omega⟩, ?_⟩
  refine lr (d + 10) _ (fun T b r2 th en p => ?_)
  obtain ⟨p1, p2⟩ := p
  simp only [w_aload, w_iload, w_iconst, w_lconst, w_iadd, w_ialoads, w_call, w_istore, w_goto, w_fall, w_if, w_ifc, w_i2l, w_lcmp, w_zreturn, x_lald isA_316x, len_316x, cI, Int.reduceToNat, Option.toList, List.getElem?_cons_zero, List.getElem?_cons_succ, List.set_cons_zero, List.set_cons_succ, List.cons_append, List.nil_append, List.replicate_succ, List.replicate_zero, List.take_succ_cons, List.take_zero, List.drop_succ_cons, List.drop_zero, List.reverse_cons, List.reverse_nil, List.length_cons, List.length_nil, Option.toList, true_and, and_true, eq_self, ↓reduceIte, not_true_eq_false, not_false_eq_true, true_or, or_true, List.append_eq, h1, ← e1, h2, ← e2]
  refine ⟨⟨by omega, by omega⟩, ?_⟩
  refine q_199 (d := d + 79) ?_
  simp only [w_aload, w_iload, w_iconst, w_lconst, w_iadd, w_ialoads, w_call, w_istore, w_goto, w_fall, w_if, w_ifc, w_i2l, w_lcmp, w_zreturn, x_lald isA_316x, len_316x, cI, Int.reduceToNat, Option.toList, List.getElem?_cons_zero, List.getElem?_cons_succ, List.set_cons_zero, List.set_cons_succ, List.cons_append, List.nil_append, List.replicate_succ, List.replicate_zero, List.take_succ_cons, List.take_zero, List.drop_succ_cons, List.drop_zero, List.reverse_cons, List.reverse_nil, List.length_cons, List.length_nil, Option.toList, true_and, and_true, eq_self, ↓reduceIte, not_true_eq_false, not_false_eq_true, true_or, or_true, List.append_eq, h1, ← e1, h2, ← e2]
  have e7 : T 300 0 = c := en.2.2.trans p1
  refine ⟨Or.inr e7, fun _ => ?_, fun w => absurd e7 w⟩
  rw [AtL.eq kl_1315]
  simp only [w_aload, w_iload, w_iconst, w_lconst, w_iadd, w_ialoads, w_call, w_istore, w_goto, w_fall, w_if, w_ifc, w_i2l, w_lcmp, w_zreturn, x_lald isA_316x, len_316x, cI, Int.reduceToNat, Option.toList, List.getElem?_cons_zero, List.getElem?_cons_succ, List.set_cons_zero, List.set_cons_succ, List.cons_append, List.nil_append, List.replicate_succ, List.replicate_zero, List.take_succ_cons, List.take_zero, List.drop_succ_cons, List.drop_zero, List.reverse_cons, List.reverse_nil, List.length_cons, List.length_nil, Option.toList, true_and, and_true, eq_self, ↓reduceIte, not_true_eq_false, not_false_eq_true, true_or, or_true, List.append_eq, h1, ← e1, h2, ← e2]
  refine ⟨by unfold R32; omega, fun y => ?_, fun y => ?_⟩
  · rw [AtL.eq kl_1332]
    simp only [w_aload, w_iload, w_iconst, w_lconst, w_iadd, w_ialoads, w_call, w_istore, w_goto, w_fall, w_if, w_ifc, w_i2l, w_lcmp, w_zreturn, x_lald isA_316x, len_316x, cI, Int.reduceToNat, Option.toList, List.getElem?_cons_zero, List.getElem?_cons_succ, List.set_cons_zero, List.set_cons_succ, List.cons_append, List.nil_append, List.replicate_succ, List.replicate_zero, List.take_succ_cons, List.take_zero, List.drop_succ_cons, List.drop_zero, List.reverse_cons, List.reverse_nil, List.length_cons, List.length_nil, Option.toList, true_and, and_true, eq_self, ↓reduceIte, not_true_eq_false, not_false_eq_true, true_or, or_true, List.append_eq, h1, ← e1, h2, ← e2]
    exact hK r2 T m1 _ _ en.1 g
  · have y0 : c = 0 := by omega
    obtain ⟨q1, q2⟩ := p2 y0
    have e9 : T 316 0 = b := (congrFun en.2.1 0).trans q1
    simp only [e9, cmp_self]
    refine ⟨⟨by decide, by decide⟩, q2, ⟨R64_32 q2, R64_32 q2⟩, R32_00, fun _ => ?_, fun w => by simp at w⟩
    rw [AtL.eq kl_1332]
    simp only [w_aload, w_iload, w_iconst, w_lconst, w_iadd, w_ialoads, w_call, w_istore, w_goto, w_fall, w_if, w_ifc, w_i2l, w_lcmp, w_zreturn, x_lald isA_316x, len_316x, cI, Int.reduceToNat, Option.toList, List.getElem?_cons_zero, List.getElem?_cons_succ, List.set_cons_zero, List.set_cons_succ, List.cons_append, List.nil_append, List.replicate_succ, List.replicate_zero, List.take_succ_cons, List.take_zero, List.drop_succ_cons, List.drop_zero, List.reverse_cons, List.reverse_nil, List.length_cons, List.length_nil, Option.toList, true_and, and_true, eq_self, ↓reduceIte, not_true_eq_false, not_false_eq_true, true_or, or_true, List.append_eq, h1, ← e1, h2, ← e2]
    exact hK r2 T m1 _ _ en.1 g
theorem s_1335 (hX : tb.2.1 = strB) (hD : tb.1 2 = [vi 0, vn, vn, vn, vn, vn]) (h0 : 0 ≤ i) (h6 : i + 6 ≤ (tb.2.2.1 : Int)) (hf : ∀ j, R32 (tb.2.2.2 j)) : CASE tb (d + 80) K 1335 i := by
  intro r S m z5 z6 h hK
  have h1 : 0 ≤ i + 1 ∧ i + 1 < (tb.2.2.1 : Int) := by omega
  have g1 := hf (i + 1).toNat
  obtain ⟨x1, e1⟩ : ∃ x, x = tb.2.2.2 (i + 1).toNat := ⟨_, rfl⟩
  rw [← e1] at g1
  have h2 : 0 ≤ i + 2 ∧ i + 2 < (tb.2.2.1 : Int) := by omega
  have g2 := hf (i + 2).toNat
  obtain ⟨x2, e2⟩ : ∃ x, x = tb.2.2.2 (i + 2).toNat := ⟨_, rfl⟩
  rw [← e2] at g2
  rw [AtL.eq kl_1335]
  simp only [w_aload, w_iload, w_iconst, w_lconst, w_iadd, w_ialoads, w_call, w_istore, w_goto, w_fall, w_if, w_ifc, w_i2l, w_lcmp, w_zreturn, x_lald isA_316x, len_316x, cI, Int.reduceToNat, Option.toList, List.getElem?_cons_zero, List.getElem?_cons_succ, List.set_cons_zero, List.set_cons_succ, List.cons_append, List.nil_append, List.replicate_succ, List.replicate_zero, List.take_succ_cons, List.take_zero, List.drop_succ_cons, List.drop_zero, List.reverse_cons, List.reverse_nil, List.length_cons, List.length_nil, Option.toList, true_and, and_true, eq_self, ↓reduceIte, not_true_eq_false, not_false_eq_true, true_or, or_true, List.append_eq, h1, ← e1, h2, ← e2]
  refine ⟨⟨by omega, by omega⟩, ?_⟩
  refine (y_363 (p_153 g1 g2 hX h)) (d + 8) _ (fun c S1 m1 c0 c3 g lr => ?_)
  simp only [w_aload, w_iload, w_iconst, w_lconst, w_iadd, w_ialoads, w_call, w_istore, w_goto, w_fall, w_if, w_ifc, w_i2l, w_lcmp, w_zreturn, x_lald isA_316x, len_316x, cI, Int.reduceToNat, Option.toList, List.getElem?_cons_zero, List.getElem?_cons_succ, List.set_cons_zero, List.set_cons_succ, List.cons_append, List.nil_append, List.replicate_succ, List.replicate_zero, List.take_succ_cons, List.take_zero, List.drop_succ_cons, List.drop_zero, List.reverse_cons, List.reverse_nil, List.length_cons, List.length_nil, Option.toList, true_and, and_true, eq_self, ↓reduceIte, not_true_eq_false, not_false_eq_true, true_or, or_true, List.append_eq, h1, ← e1, h2, ← e2]
  refine ⟨⟨by omega, by omega⟩, ?_⟩
  refine lr (d + 10) _ (fun T b r2 th en p => ?_)
  obtain ⟨p1, p2⟩ := p
  simp only [w_aload, w_iload, w_iconst, w_lconst, w_iadd, w_ialoads, w_call, w_istore, w_goto, w_fall, w_if, w_ifc, w_i2l, w_lcmp, w_zreturn, x_lald isA_316x, len_316x, cI, Int.reduceToNat, Option.toList, List.getElem?_cons_zero, List.getElem?_cons_succ, List.set_cons_zero, List.set_cons_succ, List.cons_append, List.nil_append, List.replicate_succ, List.replicate_zero, List.take_succ_cons, List.take_zero, List.drop_succ_cons, List.drop_zero, List.reverse_cons, List.reverse_nil, List.length_cons, List.length_nil, Option.toList, true_and, and_true, eq_self, ↓reduceIte, not_true_eq_false, not_false_eq_true, true_or, or_true, List.append_eq, h1, ← e1, h2, ← e2]
  refine ⟨⟨by omega, by omega⟩, ?_⟩
  refine q_199 (d := d + 79) ?_
  simp only [w_aload, w_iload, w_iconst, w_lconst, w_iadd, w_ialoads, w_call, w_istore, w_goto, w_fall, w_if, w_ifc, w_i2l, w_lcmp, w_zreturn, x_lald isA_316x, len_316x, cI, Int.reduceToNat, Option.toList, List.getElem?_cons_zero, List.getElem?_cons_succ, List.set_cons_zero, List.set_cons_succ, List.cons_append, List.nil_append, List.replicate_succ, List.replicate_zero, List.take_succ_cons, List.take_zero, List.drop_succ_cons, List.drop_zero, List.reverse_cons, List.reverse_nil, List.length_cons, List.length_nil, Option.toList, true_and, and_true, eq_self, ↓reduceIte, not_true_eq_false, not_false_eq_true, true_or, or_true, List.append_eq, h1, ← e1, h2, ← e2]
  have e7 : T 300 0 = c := en.2.2.trans p1
  refine ⟨Or.inr e7, fun _ => ?_, fun w => absurd e7 w⟩
  rw [AtL.eq kl_1383]
  simp only [w_aload, w_iload, w_iconst, w_lconst, w_iadd, w_ialoads, w_call, w_istore, w_goto, w_fall, w_if, w_ifc, w_i2l, w_lcmp, w_zreturn, x_lald isA_316x, len_316x, cI, Int.reduceToNat, Option.toList, List.getElem?_cons_zero, List.getElem?_cons_succ, List.set_cons_zero, List.set_cons_succ, List.cons_append, List.nil_append, List.replicate_succ, List.replicate_zero, List.take_succ_cons, List.take_zero, List.drop_succ_cons, List.drop_zero, List.reverse_cons, List.reverse_nil, List.length_cons, List.length_nil, Option.toList, true_and, and_true, eq_self, ↓reduceIte, not_true_eq_false, not_false_eq_true, true_or, or_true, List.append_eq, h1, ← e1, h2, ← e2]
  refine ⟨by unfold R32; omega, fun y => ?_, fun y => ?_⟩
  · rw [AtL.eq kl_1400]
    simp only [w_aload, w_iload, w_iconst, w_lconst, w_iadd, w_ialoads, w_call, w_istore, w_goto, w_fall, w_if, w_ifc, w_i2l, w_lcmp, w_zreturn, x_lald isA_316x, len_316x, cI, Int.reduceToNat, Option.toList, List.getElem?_cons_zero, List.getElem?_cons_succ, List.set_cons_zero, List.set_cons_succ, List.cons_append, List.nil_append, List.replicate_succ, List.replicate_zero, List.take_succ_cons, List.take_zero, List.drop_succ_cons, List.drop_zero, List.reverse_cons, List.reverse_nil, List.length_cons, List.length_nil, Option.toList, true_and, and_true, eq_self, ↓reduceIte, not_true_eq_false, not_false_eq_true, true_or, or_true, List.append_eq, h1, ← e1, h2, ← e2]
    exact hK r2 T m1 _ _ en.1 g
  · have y0 : c = 0 := by omega
    obtain ⟨q1, q2⟩ := p2 y0
    have e9 : T 316 0 = b := (congrFun en.2.1 0).trans q1
    simp only [e9, cmp_self]
    refine ⟨⟨by decide, by decide⟩, q2, ⟨R64_32 q2, R64_32 q2⟩, R32_00, fun _ => ?_, fun w => by simp at w⟩
    rw [AtL.eq kl_1400]
    simp only [w_aload, w_iload, w_iconst, w_lconst, w_iadd, w_ialoads, w_call, w_istore, w_goto, w_fall, w_if, w_ifc, w_i2l, w_lcmp, w_zreturn, x_lald isA_316x, len_316x, cI, Int.reduceToNat, Option.toList, List.getElem?_cons_zero, List.getElem?_cons_succ, List.set_cons_zero, List.set_cons_succ, List.cons_append, List.nil_append, List.replicate_succ, List.replicate_zero, List.take_succ_cons, List.take_zero, List.drop_succ_cons, List.drop_zero, List.reverse_cons, List.reverse_nil, List.length_cons, List.length_nil, Option.toList, true_and, and_true, eq_self, ↓reduceIte, not_true_eq_false, not_false_eq_true, true_or, or_true, List.append_eq, h1, ← e1, h2, ← e2]
    exact hK r2 T m1 _ _ en.1 g
theorem s_1403 (hX : tb.2.1 = strB) (hD : tb.1 2 = [vi 0, vn, vn, vn, vn, vn]) (h0 : 0 ≤ i) (h6 : i + 6 ≤ (tb.2.2.1 : Int)) (hf : ∀ j, R32 (tb.2.2.2 j)) : CASE tb (d + 80) K 1403 i := by
  intro r S m z5 z6 h hK
  have h1 : 0 ≤ i + 1 ∧ i + 1 < (tb.2.2.1 : Int) := by omega
  have g1 := hf (i + 1).toNat
  obtain ⟨x1, e1⟩ : ∃ x, x = tb.2.2.2 (i + 1).toNat := ⟨_, rfl⟩
  rw [← e1] at g1
  have h2 : 0 ≤ i + 2 ∧ i + 2 < (tb.2.2.1 : Int) := by omega
  have g2 := hf (i + 2).toNat
  obtain ⟨x2, e2⟩ : ∃ x, x = tb.2.2.2 (i + 2).toNat := ⟨_, rfl⟩
  rw [← e2] at g2
  rw [AtL.eq kl_1403]
  simp only [w_aload, w_iload, w_iconst, w_lconst, w_iadd, w_ialoads, w_call, w_istore, w_goto, w_fall, w_if, w_ifc, w_i2l, w_lcmp, w_zreturn, x_lald isA_316x, len_316x, cI, Int.reduceToNat, Option.toList, List.getElem?_cons_zero, List.getElem?_cons_succ, List.set_cons_zero, List.set_cons_succ, List.cons_append, List.nil_append, List.replicate_succ, List.replicate_zero, List.take_succ_cons, List.take_zero, List.drop_succ_cons, List.drop_zero, List.reverse_cons, List.reverse_nil, List.length_cons, List.length_nil, Option.toList, true_and, and_true, eq_self, ↓reduceIte, not_true_eq_false, not_false_eq_true, true_or, or_true, List.append_eq, h1, ← e1, h2, ← e2]
  refine ⟨⟨by omega, by omega⟩, ?_⟩
  refine (y_364 (p_156 g1 g2 hX h)) (d + 8) _ (fun c S1 m1 c0 c3 g lr => ?_)
  simp only [w_aload, w_iload, w_iconst, w_lconst, w_iadd, w_ialoads, w_call, w_istore, w_goto, w_fall, w_if, w_ifc, w_i2l, w_lcmp, w_zreturn, x_lald isA_316x, len_316x, cI, Int.reduceToNat, Option.toList, List.getElem?_cons_zero, List.getElem?_cons_succ, List.set_cons_zero, List.set_cons_succ, List.cons_append, List.nil_append, List.replicate_succ, List.replicate_zero, List.take_succ_cons, List.take_zero, List.drop_succ_cons, List.drop_zero, List.reverse_cons, List.reverse_nil, List.length_cons, List.length_nil, Option.toList, true_and, and_true, eq_self, ↓reduceIte, not_true_eq_false, not_false_eq_true, true_or, or_true, List.append_eq, h1, ← e1, h2, ← e2]
  refine ⟨⟨by omega, by omega⟩, ?_⟩
  refine lr (d + 10) _ (fun T b r2 th en p => ?_)
  obtain ⟨p1, p2⟩ := p
  simp only [w_aload, w_iload, w_iconst, w_lconst, w_iadd, w_ialoads, w_call, w_istore, w_goto, w_fall, w_if, w_ifc, w_i2l, w_lcmp, w_zreturn, x_lald isA_316x, len_316x, cI, Int.reduceToNat, Option.toList, List.getElem?_cons_zero, List.getElem?_cons_succ, List.set_cons_zero, List.set_cons_succ, List.cons_append, List.nil_append, List.replicate_succ, List.replicate_zero, List.take_succ_cons, List.take_zero, List.drop_succ_cons, List.drop_zero, List.reverse_cons, List.reverse_nil, List.length_cons, List.length_nil, Option.toList, true_and, and_true, eq_self, ↓reduceIte, not_true_eq_false, not_false_eq_true, true_or, or_true, List.append_eq, h1, ← e1, h2, ← e2]
  refine ⟨⟨by omega, by omega⟩, ?_⟩
  refine q_199 (d := d + 79) ?_
  simp only [w_aload, w_iload, w_iconst, w_lconst, w_iadd, w_ialoads, w_call, w_istore, w_goto, w_fall, w_if, w_ifc, w_i2l, w_lcmp, w_zreturn, x_lald isA_316x, len_316x, cI, Int.reduceToNat, Option.toList, List.getElem?_cons_zero, List.getElem?_cons_succ, List.set_cons_zero, List.set_cons_succ, List.cons_append, List.nil_append, List.replicate_succ, List.replicate_zero, List.take_succ_cons, List.take_zero, List.drop_succ_cons, List.drop_zero, List.reverse_cons, List.reverse_nil, List.length_cons, List.length_nil, Option.toList, true_and, and_true, eq_self, ↓reduceIte, not_true_eq_false, not_false_eq_true, true_or, or_true, List.append_eq, h1, ← e1, h2, ← e2]
  have e7 : T 300 0 = c := en.2.2.trans p1
  refine ⟨Or.inr e7, fun _ => ?_, fun w => absurd e7 w⟩
  rw [AtL.eq kl_1451]
  simp only [w_aload, w_iload, w_iconst, w_lconst, w_iadd, w_ialoads, w_call, w_istore, w_goto, w_fall, w_if, w_ifc, w_i2l, w_lcmp, w_zreturn, x_lald isA_316x, len_316x, cI, Int.reduceToNat, Option.toList, List.getElem?_cons_zero, List.getElem?_cons_succ, List.set_cons_zero, List.set_cons_succ, List.cons_append, List.nil_append, List.replicate_succ, List.replicate_zero, List.take_succ_cons, List.take_zero, List.drop_succ_cons, List.drop_zero, List.reverse_cons, List.reverse_nil, List.length_cons, List.length_nil, Option.toList, true_and, and_true, eq_self, ↓reduceIte, not_true_eq_false, not_false_eq_true, true_or, or_true, List.append_eq, h1, ← e1, h2, ← e2]
  refine ⟨by unfold R32; omega, fun y => ?_, fun y => ?_⟩
  · rw [AtL.eq kl_1468]
    simp only [w_aload, w_iload, w_iconst, w_lconst, w_iadd, w_ialoads, w_call, w_istore, w_goto, w_fall, w_if, w_ifc, w_i2l, w_lcmp, w_zreturn, x_lald isA_316x, len_316x, cI, Int.reduceToNat, Option.toList, List.getElem?_cons_zero, List.getElem?_cons_succ, List.set_cons_zero, List.set_cons_succ, List.cons_append, List.nil_append, List.replicate_succ, List.replicate_zero, List.take_succ_cons, List.take_zero, List.drop_succ_cons, List.drop_zero, List.reverse_cons, List.reverse_nil, List.length_cons, List.length_nil, Option.toList, true_and, and_true, eq_self, ↓reduceIte, not_true_eq_false, not_false_eq_true, true_or, or_true, List.append_eq, h1, ← e1, h2, ← e2]
    exact hK r2 T m1 _ _ en.1 g
  · have y0 : c = 0 := by omega
    obtain ⟨q1, q2⟩ := p2 y0
    have e9 : T 316 0 = b := (congrFun en.2.1 0).trans q1
    simp only [e9, cmp_self]
    refine ⟨⟨by decide, by decide⟩, q2, ⟨R64_32 q2, R64_32 q2⟩, R32_00, fun _ => ?_, fun w => by simp at w⟩
    rw [AtL.eq kl_1468]
    simp only [w_aload, w_iload, w_iconst, w_lconst, w_iadd, w_ialoads, w_call, w_istore, w_goto, w_fall, w_if, w_ifc, w_i2l, w_lcmp, w_zreturn, x_lald isA_316x, len_316x, cI, Int.reduceToNat, Option.toList, List.getElem?_cons_zero, List.getElem?_cons_succ, List.set_cons_zero, List.set_cons_succ, List.cons_append, List.nil_append, List.replicate_succ, List.replicate_zero, List.take_succ_cons, List.take_zero, List.drop_succ_cons, List.drop_zero, List.reverse_cons, List.reverse_nil, List.length_cons, List.length_nil, Option.toList, true_and, and_true, eq_self, ↓reduceIte, not_true_eq_false, not_false_eq_true, true_or, or_true, List.append_eq, h1, ← e1, h2, ← e2]
    exact hK r2 T m1 _ _ en.1 g
theorem s_1471 (hX : tb.2.1 = strB) (hD : tb.1 2 = [vi 0, vn, vn, vn, vn, vn]) (h0 : 0 ≤ i) (h6 : i + 6 ≤ (tb.2.2.1 : Int)) (hf : ∀ j, R32 (tb.2.2.2 j)) : CASE tb (d + 80) K 1471 i := by
  intro r S m z5 z6 h hK
  rw [AtL.eq kl_1471]
  simp only [w_aload, w_iload, w_iconst, w_lconst, w_iadd, w_ialoads, w_call, w_istore, w_goto, w_fall, w_if, w_ifc, w_i2l, w_lcmp, w_zreturn, x_lald isA_316x, len_316x, cI, Int.reduceToNat, Option.toList, List.getElem?_cons_zero, List.getElem?_cons_succ, List.set_cons_zero, List.set_cons_succ, List.cons_append, List.nil_append, List.replicate_succ, List.replicate_zero, List.take_succ_cons, List.take_zero, List.drop_succ_cons, List.drop_zero, List.reverse_cons, List.reverse_nil, List.length_cons, List.length_nil, Option.toList, true_and, and_true, eq_self, ↓reduceIte, not_true_eq_false, not_false_eq_true, true_or, or_true, List.append_eq]
  refine ⟨⟨by omega, by omega⟩, ?_⟩
  refine (y_365 (p_157 h)) (d + 8) _ (fun c S1 m1 c0 c3 g lr => ?_)
  simp only [w_aload, w_iload, w_iconst, w_lconst, w_iadd, w_ialoads, w_call, w_istore, w_goto, w_fall, w_if, w_ifc, w_i2l, w_lcmp, w_zreturn, x_lald isA_316x, len_316x, cI, Int.reduceToNat, Option.toList, List.getElem?_cons_zero, List.getElem?_cons_succ, List.set_cons_zero, List.set_cons_succ, List.cons_append, List.nil_append, List.replicate_succ, List.replicate_zero, List.take_succ_cons, List.take_zero, List.drop_succ_cons, List.drop_zero, List.reverse_cons, List.reverse_nil, List.length_cons, List.length_nil, Option.toList, true_and, and_true, eq_self, ↓reduceIte, not_true_eq_false, not_false_eq_true, true_or, or_true, List.append_eq]
  refine ⟨⟨by omega, by omega⟩, ?_⟩
  refine lr (d + 10) _ (fun T b r2 th en p => ?_)
  obtain ⟨p1, p2⟩ := p
  simp only [w_aload, w_iload, w_iconst, w_lconst, w_iadd, w_ialoads, w_call, w_istore, w_goto, w_fall, w_if, w_ifc, w_i2l, w_lcmp, w_zreturn, x_lald isA_316x, len_316x, cI, Int.reduceToNat, Option.toList, List.getElem?_cons_zero, List.getElem?_cons_succ, List.set_cons_zero, List.set_cons_succ, List.cons_append, List.nil_append, List.replicate_succ, List.replicate_zero, List.take_succ_cons, List.take_zero, List.drop_succ_cons, List.drop_zero, List.reverse_cons, List.reverse_nil, List.length_cons, List.length_nil, Option.toList, true_and, and_true, eq_self, ↓reduceIte, not_true_eq_false, not_false_eq_true, true_or, or_true, List.append_eq]
  refine ⟨⟨by omega, by omega⟩, ?_⟩
  refine q_199 (d := d + 79) ?_
  simp only [w_aload, w_iload, w_iconst, w_lconst, w_iadd, w_ialoads, w_call, w_istore, w_goto, w_fall, w_if, w_ifc, w_i2l, w_lcmp, w_zreturn, x_lald isA_316x, len_316x, cI, Int.reduceToNat, Option.toList, List.getElem?_cons_zero, List.getElem?_cons_succ, List.set_cons_zero, List.set_cons_succ, List.cons_append, List.nil_append, List.replicate_succ, List.replicate_zero, List.take_succ_cons, List.take_zero, List.drop_succ_cons, List.drop_zero, List.reverse_cons, List.reverse_nil, List.length_cons, List.length_nil, Option.toList, true_and, and_true, eq_self, ↓reduceIte, not_true_eq_false, not_false_eq_true, true_or, or_true, List.append_eq]
  have e7 : T 300 0 = c := en.2.2.trans p1
  refine ⟨Or.inr e7, fun _ => ?_, fun w => absurd e7 w⟩
  rw [AtL.eq kl_1495]
  simp only [w_aload, w_iload, w_iconst, w_lconst, w_iadd, w_ialoads, w_call, w_istore, w_goto, w_fall, w_if, w_ifc, w_i2l, w_lcmp, w_zreturn, x_lald isA_316x, len_316x, cI, Int.reduceToNat, Option.toList, List.getElem?_cons_zero, List.getElem?_cons_succ, List.set_cons_zero, List.set_cons_succ, List.cons_append, List.nil_append, List.replicate_succ, List.replicate_zero, List.take_succ_cons, List.take_zero, List.drop_succ_cons, List.drop_zero, List.reverse_cons, List.reverse_nil, List.length_cons, List.length_nil, Option.toList, true_and, and_true, eq_self, ↓reduceIte, not_true_eq_false, not_false_eq_true, true_or, or_true, List.append_eq]
  refine ⟨by unfold R32; omega, fun y => ?_, fun y => ?_⟩
  · rw [AtL.eq kl_1512]
    simp only [w_aload, w_iload, w_iconst, w_lconst, w_iadd, w_ialoads, w_call, w_istore, w_goto, w_fall, w_if, w_ifc, w_i2l, w_lcmp, w_zreturn, x_lald isA_316x, len_316x, cI, Int.reduceToNat, Option.toList, List.getElem?_cons_zero, List.getElem?_cons_succ, List.set_cons_zero, List.set_cons_succ, List.cons_append, List.nil_append, List.replicate_succ, List.replicate_zero, List.take_succ_cons, List.take_zero, List.drop_succ_cons, List.drop_zero, List.reverse_cons, List.reverse_nil, List.length_cons, List.length_nil, Option.toList, true_and, and_true, eq_self, ↓reduceIte, not_true_eq_false, not_false_eq_true, true_or, or_true, List.append_eq]
    exact hK r2 T m1 _ _ en.1 g
  · have y0 : c = 0 := by omega
    obtain ⟨q1, q2⟩ := p2 y0
    have e9 : T 316 0 = b := (congrFun en.2.1 0).trans q1
    simp only [e9, cmp_self]
    refine ⟨⟨by decide, by decide⟩, q2, ⟨R64_32 q2, R64_32 q2⟩, R32_00, fun _ => ?_, fun w => by simp at w⟩
    rw [AtL.eq kl_1512]
    simp only [w_aload, w_iload, w_iconst, w_lconst, w_iadd, w_ialoads, w_call, w_istore, w_goto, w_fall, w_if, w_ifc, w_i2l, w_lcmp, w_zreturn, x_lald isA_316x, len_316x, cI, Int.reduceToNat, Option.toList, List.getElem?_cons_zero, List.getElem?_cons_succ, List.set_cons_zero, List.set_cons_succ, List.cons_append, List.nil_append, List.replicate_succ, List.replicate_zero, List.take_succ_cons, List.take_zero, List.drop_succ_cons, List.drop_zero, List.reverse_cons, List.reverse_nil, List.length_cons, List.length_nil, Option.toList, true_and, and_true, eq_self, ↓reduceIte, not_true_eq_false, not_false_eq_true, true_or, or_true, List.append_eq]
    exact hK r2 T m1 _ _ en.1 g
theorem s_1515 (hX : tb.2.1 = strB) (hD : tb.1 2 = [vi 0, vn, vn, vn, vn, vn]) (h0 : 0 ≤ i) (h6 : i + 6 ≤ (tb.2.2.1 : Int)) (hf : ∀ j, R32 (tb.2.2.2 j)) : CASE tb (d + 80) K 1515 i := by
  intro r S m z5 z6 h hK
  rw [AtL.eq kl_1515]
  simp only [w_aload, w_iload, w_iconst, w_lconst, w_iadd, w_ialoads, w_call, w_istore, w_goto, w_fall, w_if, w_ifc, w_i2l, w_lcmp, w_zreturn, x_lald isA_316x, len_316x, cI, Int.reduceToNat, Option.toList, List.getElem?_cons_zero, List.getElem?_cons_succ, List.set_cons_zero, List.set_cons_succ, List.cons_append, List.nil_append, List.replicate_succ, List.replicate_zero, List.take_succ_cons, List.take_zero, List.drop_succ_cons, List.drop_zero, List.reverse_cons, List.reverse_nil, List.length_cons, List.length_nil, Option.toList, true_and, and_true, eq_self, ↓reduceIte, not_true_eq_false, not_false_eq_true, true_or, or_true, List.append_eq]
  refine ⟨⟨by omega, by omega⟩, ?_⟩
  refine (y_366 (p_158 h)) (d + 8) _ (fun c S1 m1 c0 c3 g lr => ?_)
  simp only [w_aload, w_iload, w_iconst, w_lconst, w_iadd, w_ialoads, w_call, w_istore, w_goto, w_fall, w_if, w_ifc, w_i2l, w_lcmp, w_zreturn, x_lald isA_316x, len_316x, cI, Int.reduceToNat, Option.toList, List.getElem?_cons_zero, List.getElem?_cons_succ, List.set_cons_zero, List.set_cons_succ, List.cons_append, List.nil_append, List.replicate_succ, List.replicate_zero, List.take_succ_cons, List.take_zero, List.drop_succ_cons, List.drop_zero, List.reverse_cons, List.reverse_nil, List.length_cons, List.length_nil, Option.toList, true_and, and_true, eq_self, ↓reduceIte, not_true_eq_false, not_false_eq_true, true_or, or_true, List.append_eq]
  refine ⟨⟨by omega, by omega⟩, ?_⟩
  refine lr (d + 10) _ (fun T b r2 th en p => ?_)
  obtain ⟨p1, p2⟩ := p
  simp only [w_aload, w_iload, w_iconst, w_lconst, w_iadd, w_ialoads, w_call, w_istore, w_goto, w_fall, w_if, w_ifc, w_i2l, w_lcmp, w_zreturn, x_lald isA_316x, len_316x, cI, Int.reduceToNat, Option.toList, List.getElem?_cons_zero, List.getElem?_cons_succ, List.set_cons_zero, List.set_cons_succ, List.cons_append, List.nil_append, List.replicate_succ, List.replicate_zero, List.take_succ_cons, List.take_zero, List.drop_succ_cons, List.drop_zero, List.reverse_cons, List.reverse_nil, List.length_cons, List.length_nil, Option.toList, true_and, and_true, eq_self, ↓reduceIte, not_true_eq_false, not_false_eq_true, true_or, or_true, List.append_eq]
  refine ⟨⟨by omega, by omega⟩, ?_⟩
  refine q_199 (d := d + 79) ?_
  simp only [w_aload, w_iload, w_iconst, w_lconst, w_iadd, w_ialoads, w_call, w_istore, w_goto, w_fall, w_if, w_ifc, w_i2l, w_lcmp, w_zreturn, x_lald isA_316x, len_316x, cI, Int.reduceToNat, Option.toList, List.getElem?_cons_zero, List.getElem?_cons_succ, List.set_cons_zero, List.set_cons_succ, List.cons_append, List.nil_append, List.replicate_succ, List.replicate_zero, List.take_succ_cons, List.take_zero, List.drop_succ_cons, List.drop_zero, List.reverse_cons, List.reverse_nil, List.length_cons, List.length_nil, Option.toList, true_and, and_true, eq_self, ↓reduceIte, not_true_eq_false, not_false_eq_true, true_or, or_true, List.append_eq]
  have e7 : T 300 0 = c := en.2.2.trans p1
  refine ⟨Or.inr e7, fun _ => ?_, fun w => absurd e7 w⟩
  rw [AtL.eq kl_1539]
  simp only [w_aload, w_iload, w_iconst, w_lconst, w_iadd, w_ialoads, w_call, w_istore, w_goto, w_fall, w_if, w_ifc, w_i2l, w_lcmp, w_zreturn, x_lald isA_316x, len_316x, cI, Int.reduceToNat, Option.toList, List.getElem?_cons_zero, List.getElem?_cons_succ, List.set_cons_zero, List.set_cons_succ, List.cons_append, List.nil_append, List.replicate_succ, List.replicate_zero, List.take_succ_cons, List.take_zero, List.drop_succ_cons, List.drop_zero, List.reverse_cons, List.reverse_nil, List.length_cons, List.length_nil, Option.toList, true_and, and_true, eq_self, ↓reduceIte, not_true_eq_false, not_false_eq_true, true_or, or_true, List.append_eq]
  refine ⟨by unfold R32; omega, fun y => ?_, fun y => ?_⟩
  · rw [AtL.eq kl_1556]
    simp only [w_aload, w_iload, w_iconst, w_lconst, w_iadd, w_ialoads, w_call, w_istore, w_goto, w_fall, w_if, w_ifc, w_i2l, w_lcmp, w_zreturn, x_lald isA_316x, len_316x, cI, Int.reduceToNat, Option.toList, List.getElem?_cons_zero, List.getElem?_cons_succ, List.set_cons_zero, List.set_cons_succ, List.cons_append, List.nil_append, List.replicate_succ, List.replicate_zero, List.take_succ_cons, List.take_zero, List.drop_succ_cons, List.drop_zero, List.reverse_cons, List.reverse_nil, List.length_cons, List.length_nil, Option.toList, true_and, and_true, eq_self, ↓reduceIte, not_true_eq_false, not_false_eq_true, true_or, or_true, List.append_eq]
    exact hK r2 T m1 _ _ en.1 g
  · have y0 : c = 0 := by omega
    obtain ⟨q1, q2⟩ := p2 y0
    have e9 : T 316 0 = b := (congrFun en.2.1 0).trans q1
    simp only [e9, cmp_self]
    refine ⟨⟨by decide, by decide⟩, q2, ⟨R64_32 q2, R64_32 q2⟩, R32_00, fun _ => ?_, fun w => by simp at w⟩
    rw [AtL.eq kl_1556]
    simp only [w_aload, w_iload, w_iconst, w_lconst, w_iadd, w_ialoads, w_call, w_istore, w_goto, w_fall, w_if, w_ifc, w_i2l, w_lcmp, w_zreturn, x_lald isA_316x, len_316x, cI, Int.reduceToNat, Option.toList, List.getElem?_cons_zero, List.getElem?_cons_succ, List.set_cons_zero, List.set_cons_succ, List.cons_append, List.nil_append, List.replicate_succ, List.replicate_zero, List.take_succ_cons, List.take_zero, List.drop_succ_cons, List.drop_zero, List.reverse_cons, List.reverse_nil, List.length_cons, List.length_nil, Option.toList, true_and, and_true, eq_self, ↓reduceIte, not_true_eq_false, not_false_eq_true, true_or, or_true, List.append_eq]
    exact hK r2 T m1 _ _ en.1 g
theorem s_1559 (hX : tb.2.1 = strB) (hD : tb.1 2 = [vi 0, vn, vn, vn, vn, vn]) (h0 : 0 ≤ i) (h6 : i + 6 ≤ (tb.2.2.1 : Int)) (hf : ∀ j, R32 (tb.2.2.2 j)) : CASE tb (d + 80) K 1559 i := by
  intro r S m z5 z6 h hK
  rw [AtL.eq kl_1559]
  simp only [w_aload, w_iload, w_iconst, w_lconst, w_iadd, w_ialoads, w_call, w_istore, w_goto, w_fall, w_if, w_ifc, w_i2l, w_lcmp, w_zreturn, x_lald isA_316x, len_316x, cI, Int.reduceToNat, Option.toList, List.getElem?_cons_zero, List.getElem?_cons_succ, List.set_cons_zero, List.set_cons_succ, List.cons_append, List.nil_append, List.replicate_succ, List.replicate_zero, List.take_succ_cons, List.take_zero, List.drop_succ_cons, List.drop_zero, List.reverse_cons, List.reverse_nil, List.length_cons, List.length_nil, Option.toList, true_and, and_true, eq_self, ↓reduceIte, not_true_eq_false, not_false_eq_true, true_or, or_true, List.append_eq]
  refine ⟨⟨by omega, by omega⟩, ?_⟩
  refine (y_367 (p_159 h)) (d + 8) _ (fun c S1 m1 c0 c3 g lr => ?_)
  simp only [w_aload, w_iload, w_iconst, w_lconst, w_iadd, w_ialoads, w_call, w_istore, w_goto, w_fall, w_if, w_ifc, w_i2l, w_lcmp, w_zreturn, x_lald isA_316x, len_316x, cI, Int.reduceToNat, Option.toList, List.getElem?_cons_zero, List.getElem?_cons_succ, List.set_cons_zero, List.set_cons_succ, List.cons_append, List.nil_append, List.replicate_succ, List.replicate_zero, List.take_succ_cons, List.take_zero, List.drop_succ_cons, List.drop_zero, List.reverse_cons, List.reverse_nil, List.length_cons, List.length_nil, Option.toList, true_and, and_true, eq_self, ↓reduceIte, not_true_eq_false, not_false_eq_true, true_or, or_true, List.append_eq]
  refine ⟨⟨by omega, by omega⟩, ?_⟩
  refine lr (d + 10) _ (fun T b r2 th en p => ?_)
  obtain ⟨p1, p2⟩ := p
  simp only [w_aload, w_iload, w_iconst, w_lconst, w_iadd, w_ialoads, w_call, w_istore, w_goto, w_fall, w_if, w_ifc, w_i2l, w_lcmp, w_zreturn, x_lald isA_316x, len_316x, cI, Int.reduceToNat, Option.toList, List.getElem?_cons_zero, List.getElem?_cons_succ, List.set_cons_zero, List.set_cons_succ, List.cons_append, List.nil_append, List.replicate_succ, List.replicate_zero, List.take_succ_cons, List.take_zero, List.drop_succ_cons, List.drop_zero, List.reverse_cons, List.reverse_nil, List.length_cons, List.length_nil, Option.toList, true_and, and_true, eq_self, ↓reduceIte, not_true_eq_false, not_false_eq_true, true_or, or_true, List.append_eq]
  refine ⟨⟨by omega, by omega⟩, ?_⟩
  refine q_199 (d := d + 79) ?_
  simp only [w_aload, w_iload, w_iconst, w_lconst, w_iadd, w_ialoads, w_call, w_istore, w_goto, w_fall, w_if, w_ifc, w_i2l, w_lcmp, w_zreturn, x_lald isA_316x, len_316x, cI, Int.reduceToNat, Option.toList, List.getElem?_cons_zero, List.getElem?_cons_succ, List.set_cons_zero, List.set_cons_succ, List.cons_append, List.nil_append, List.replicate_succ, List.replicate_zero, List.take_succ_cons, List.take_zero, List.drop_succ_cons, List.drop_zero, List.reverse_cons, List.reverse_nil, List.length_cons, List.length_nil, Option.toList, true_and, and_true, eq_self, ↓reduceIte, not_true_eq_false, not_false_eq_true, true_or, or_true, List.append_eq]
  have e7 : T 300 0 = c := en.2.2.trans p1
  refine ⟨Or.inr e7, fun _ => ?_, fun w => absurd e7 w⟩
  rw [AtL.eq kl_1583]
  simp only [w_aload, w_iload, w_iconst, w_lconst, w_iadd, w_ialoads, w_call, w_istore, w_goto, w_fall, w_if, w_ifc, w_i2l, w_lcmp, w_zreturn, x_lald isA_316x, len_316x, cI, Int.reduceToNat, Option.toList, List.getElem?_cons_zero, List.getElem?_cons_succ, List.set_cons_zero, List.set_cons_succ, List.cons_append, List.nil_append, List.replicate_succ, List.replicate_zero, List.take_succ_cons, List.take_zero, List.drop_succ_cons, List.drop_zero, List.reverse_cons, List.reverse_nil, List.length_cons, List.length_nil, Option.toList, true_and, and_true, eq_self, ↓reduceIte, not_true_eq_false, not_false_eq_true, true_or, or_true, List.append_eq]
  refine ⟨by unfold R32; omega, fun y => ?_, fun y => ?_⟩
  · rw [AtL.eq kl_1600]
    simp only [w_aload, w_iload, w_iconst, w_lconst, w_iadd, w_ialoads, w_call, w_istore, w_goto, w_fall, w_if, w_ifc, w_i2l, w_lcmp, w_zreturn, x_lald isA_316x, len_316x, cI, Int.reduceToNat, Option.toList, List.getElem?_cons_zero, List.getElem?_cons_succ, List.set_cons_zero, List.set_cons_succ, List.cons_append, List.nil_append, List.replicate_succ, List.replicate_zero, List.take_succ_cons, List.take_zero, List.drop_succ_cons, List.drop_zero, List.reverse_cons, List.reverse_nil, List.length_cons, List.length_nil, Option.toList, true_and, and_true, eq_self, ↓reduceIte, not_true_eq_false, not_false_eq_true, true_or, or_true, List.append_eq]
    exact hK r2 T m1 _ _ en.1 g
  · have y0 : c = 0 := by omega
    obtain ⟨q1, q2⟩ := p2 y0
    have e9 : T 316 0 = b := (congrFun en.2.1 0).trans q1
    simp only [e9, cmp_self]
    refine ⟨⟨by decide, by decide⟩, q2, ⟨R64_32 q2, R64_32 q2⟩, R32_00, fun _ => ?_, fun w => by simp at w⟩
    rw [AtL.eq kl_1600]
    simp only [w_aload, w_iload, w_iconst, w_lconst, w_iadd, w_ialoads, w_call, w_istore, w_goto, w_fall, w_if, w_ifc, w_i2l, w_lcmp, w_zreturn, x_lald isA_316x, len_316x, cI, Int.reduceToNat, Option.toList, List.getElem?_cons_zero, List.getElem?_cons_succ, List.set_cons_zero, List.set_cons_succ, List.cons_append, List.nil_append, List.replicate_succ, List.replicate_zero, List.take_succ_cons, List.take_zero, List.drop_succ_cons, List.drop_zero, List.reverse_cons, List.reverse_nil, List.length_cons, List.length_nil, Option.toList, true_and, and_true, eq_self, ↓reduceIte, not_true_eq_false, not_false_eq_true, true_or, or_true, List.append_eq]
    exact hK r2 T m1 _ _ en.1 g
theorem s_1603 (hX : tb.2.1 = strB) (hD : tb.1 2 = [vi 0, vn, vn, vn, vn, vn]) (h0 : 0 ≤ i) (h6 : i + 6 ≤ (tb.2.2.1 : Int)) (hf : ∀ j, R32 (tb.2.2.2 j)) : CASE tb (d + 80) K 1603 i := by
  intro r S m z5 z6 h hK
  rw [AtL.eq kl_1603]
  simp only [w_aload, w_iload, w_iconst, w_lconst, w_iadd, w_ialoads, w_call, w_istore, w_goto, w_fall, w_if, w_ifc, w_i2l, w_lcmp, w_zreturn, x_lald isA_316x, len_316x, cI, Int.reduceToNat, Option.toList, List.getElem?_cons_zero, List.getElem?_cons_succ, List.set_cons_zero, List.set_cons_succ, List.cons_append, List.nil_append, List.replicate_succ, List.replicate_zero, List.take_succ_cons, List.take_zero, List.drop_succ_cons, List.drop_zero, List.reverse_cons, List.reverse_nil, List.length_cons, List.length_nil, Option.toList, true_and, and_true, eq_self, ↓reduceIte, not_true_eq_false, not_false_eq_true, true_or, or_true, List.append_eq]
  refine ⟨⟨by omega, by omega⟩, ?_⟩
  refine (p_161 hX h) (d + 10) _ (fun v S1 m1 _ g nx => ?_) (fun E c S1 m1 he _ _ => by simp at he)
  simp only [w_aload, w_iload, w_iconst, w_lconst, w_iadd, w_ialoads, w_call, w_istore, w_goto, w_fall, w_if, w_ifc, w_i2l, w_lcmp, w_zreturn, x_lald isA_316x, len_316x, cI, Int.reduceToNat, Option.toList, List.getElem?_cons_zero, List.getElem?_cons_succ, List.set_cons_zero, List.set_cons_succ, List.cons_append, List.nil_append, List.replicate_succ, List.replicate_zero, List.take_succ_cons, List.take_zero, List.drop_succ_cons, List.drop_zero, List.reverse_cons, List.reverse_nil, List.length_cons, List.length_nil, Option.toList, true_and, and_true, eq_self, ↓reduceIte, not_true_eq_false, not_false_eq_true, true_or, or_true, List.append_eq]
  refine ⟨⟨by omega, by omega⟩, ?_⟩
  refine nx S1 (fun _ _ => rfl) (d + 10) _ (fun T b r2 th en p => ?_)
  simp only [w_aload, w_iload, w_iconst, w_lconst, w_iadd, w_ialoads, w_call, w_istore, w_goto, w_fall, w_if, w_ifc, w_i2l, w_lcmp, w_zreturn, x_lald isA_316x, len_316x, cI, Int.reduceToNat, Option.toList, List.getElem?_cons_zero, List.getElem?_cons_succ, List.set_cons_zero, List.set_cons_succ, List.cons_append, List.nil_append, List.replicate_succ, List.replicate_zero, List.take_succ_cons, List.take_zero, List.drop_succ_cons, List.drop_zero, List.reverse_cons, List.reverse_nil, List.length_cons, List.length_nil, Option.toList, true_and, and_true, eq_self, ↓reduceIte, not_true_eq_false, not_false_eq_true, true_or, or_true, List.append_eq]
  refine ⟨Or.inr p.2.symm, fun _ => hK r2 T m1 _ _ en.1 g, fun w => absurd p.2.symm w⟩
theorem s_1616 (hX : tb.2.1 = strB) (hD : tb.1 2 = [vi 0, vn, vn, vn, vn, vn]) (h0 : 0 ≤ i) (h6 : i + 6 ≤ (tb.2.2.1 : Int)) (hf : ∀ j, R32 (tb.2.2.2 j)) : CASE tb (d + 80) K 1616 i := by
  intro r S m z5 z6 h hK
  have h1 : 0 ≤ i + 1 ∧ i + 1 < (tb.2.2.1 : Int) := by omega
  have g1 := hf (i + 1).toNat
  obtain ⟨x1, e1⟩ : ∃ x, x = tb.2.2.2 (i + 1).toNat := ⟨_, rfl⟩
  rw [← e1] at g1
  have h2 : 0 ≤ i + 2 ∧ i + 2 < (tb.2.2.1 : Int) := by omega
  have g2 := hf (i + 2).toNat
  obtain ⟨x2, e2⟩ : ∃ x, x = tb.2.2.2 (i + 2).toNat := ⟨_, rfl⟩
  rw [← e2] at g2
  rw [AtL.eq kl_1616]
  simp only [w_aload, w_iload, w_iconst, w_lconst, w_iadd, w_ialoads, w_call, w_istore, w_goto, w_fall, w_if, w_ifc, w_i2l, w_lcmp, w_zreturn, x_lald isA_316x, len_316x, cI, Int.reduceToNat, Option.toList, List.getElem?_cons_zero, List.getElem?_cons_succ, List.set_cons_zero, List.set_cons_succ, List.cons_append, List.nil_append, List.replicate_succ, List.replicate_zero, List.take_succ_cons, List.take_zero, List.drop_succ_cons, List.drop_zero, List.reverse_cons, List.reverse_nil, List.length_cons, List.length_nil, Option.toList, true_and, and_true, eq_self, ↓reduceIte, not_true_eq_false, not_false_eq_true, true_or, or_true, List.append_eq, h1, ← e1, h2, ← e2]
  refine ⟨⟨by omega, by omega⟩, ?_⟩
  refine (y_368 (p_162 g1 g2 hX h)) (d + 8) _ (fun c S1 m1 c0 c3 g lr => ?_)
  simp only [w_aload, w_iload, w_iconst, w_lconst, w_iadd, w_ialoads, w_call, w_istore, w_goto, w_fall, w_if, w_ifc, w_i2l, w_lcmp, w_zreturn, x_lald isA_316x, len_316x, cI, Int.reduceToNat, Option.toList, List.getElem?_cons_zero, List.getElem?_cons_succ, List.set_cons_zero, List.set_cons_succ, List.cons_append, List.nil_append, List.replicate_succ, List.replicate_zero, List.take_succ_cons, List.take_zero, List.drop_succ_cons, List.drop_zero, List.reverse_cons, List.reverse_nil, List.length_cons, List.length_nil, Option.toList, true_and, and_true, eq_self, ↓reduceIte, not_true_eq_false, not_false_eq_true, true_or, or_true, List.append_eq, h1, ← e1, h2, ← e2]
  refine ⟨⟨by omega, by omega⟩, ?_⟩
  refine lr (d + 10) _ (fun T b r2 th en p => ?_)
  obtain ⟨p1, p2⟩ := p
  simp only [w_aload, w_iload, w_iconst, w_lconst, w_iadd, w_ialoads, w_call, w_istore, w_goto, w_fall, w_if, w_ifc, w_i2l, w_lcmp, w_zreturn, x_lald isA_316x, len_316x, cI, Int.reduceToNat, Option.toList, List.getElem?_cons_zero, List.getElem?_cons_succ, List.set_cons_zero, List.set_cons_succ, List.cons_append, List.nil_append, List.replicate_succ, List.replicate_zero, List.take_succ_cons, List.take_zero, List.drop_succ_cons, List.drop_zero, List.reverse_cons, List.reverse_nil, List.length_cons, List.length_nil, Option.toList, true_and, and_true, eq_self, ↓reduceIte, not_true_eq_false, not_false_eq_true, true_or, or_true, List.append_eq, h1, ← e1, h2, ← e2]
  refine ⟨⟨by omega, by omega⟩, ?_⟩
  refine q_199 (d := d + 79) ?_
  simp only [w_aload, w_iload, w_iconst, w_lconst, w_iadd, w_ialoads, w_call, w_istore, w_goto, w_fall, w_if, w_ifc, w_i2l, w_lcmp, w_zreturn, x_lald isA_316x, len_316x, cI, Int.reduceToNat, Option.toList, List.getElem?_cons_zero, List.getElem?_cons_succ, List.set_cons_zero, List.set_cons_succ, List.cons_append, List.nil_append, List.replicate_succ, List.replicate_zero, List.take_succ_cons, List.take_zero, List.drop_succ_cons, List.drop_zero, List.reverse_cons, List.reverse_nil, List.length_cons, List.length_nil, Option.toList, true_and, and_true, eq_self, ↓reduceIte, not_true_eq_false, not_false_eq_true, true_or, or_true, List.append_eq, h1, ← e1, h2, ← e2]
  have e7 : T 300 0 = c := en.2.2.trans p1
  refine ⟨Or.inr e7, fun _ => ?_, fun w => absurd e7 w⟩
  rw [AtL.eq kl_1664]
  simp only [w_aload, w_iload, w_iconst, w_lconst, w_iadd, w_ialoads, w_call, w_istore, w_goto, w_fall, w_if, w_ifc, w_i2l, w_lcmp, w_zreturn, x_lald isA_316x, len_316x, cI, Int.reduceToNat, Option.toList, List.getElem?_cons_zero, List.getElem?_cons_succ, List.set_cons_zero, List.set_cons_succ, List.cons_append, List.nil_append, List.replicate_succ, List.replicate_zero, List.take_succ_cons, List.take_zero, List.drop_succ_cons, List.drop_zero, List.reverse_cons, List.reverse_nil, List.length_cons, List.length_nil, Option.toList, true_and, and_true, eq_self, ↓reduceIte, not_true_eq_false, not_false_eq_true, true_or, or_true, List.append_eq, h1, ← e1, h2, ← e2]
  refine ⟨by unfold R32; omega, fun y => ?_, fun y => ?_⟩
  · rw [AtL.eq kl_1681]
    simp only [w_aload, w_iload, w_iconst, w_lconst, w_iadd, w_ialoads, w_call, w_istore, w_goto, w_fall, w_if, w_ifc, w_i2l, w_lcmp, w_zreturn, x_lald isA_316x, len_316x, cI, Int.reduceToNat, Option.toList, List.getElem?_cons_zero, List.getElem?_cons_succ, List.set_cons_zero, List.set_cons_succ, List.cons_append, List.nil_append, List.replicate_succ, List.replicate_zero, List.take_succ_cons, List.take_zero, List.drop_succ_cons, List.drop_zero, List.reverse_cons, List.reverse_nil, List.length_cons, List.length_nil, Option.toList, true_and, and_true, eq_self, ↓reduceIte, not_true_eq_false, not_false_eq_true, true_or, or_true, List.append_eq, h1, ← e1, h2, ← e2]
    exact hK r2 T m1 _ _ en.1 g
  · have y0 : c = 0 := by omega
    obtain ⟨q1, q2⟩ := p2 y0
    have e9 : T 316 0 = b := (congrFun en.2.1 0).trans q1
    simp only [e9, cmp_self]
    refine ⟨⟨by decide, by decide⟩, q2, ⟨R64_32 q2, R64_32 q2⟩, R32_00, fun _ => ?_, fun w => by simp at w⟩
    rw [AtL.eq kl_1681]
    simp only [w_aload, w_iload, w_iconst, w_lconst, w_iadd, w_ialoads, w_call, w_istore, w_goto, w_fall, w_if, w_ifc, w_i2l, w_lcmp, w_zreturn, x_lald isA_316x, len_316x, cI, Int.reduceToNat, Option.toList, List.getElem?_cons_zero, List.getElem?_cons_succ, List.set_cons_zero, List.set_cons_succ, List.cons_append, List.nil_append, List.replicate_succ, List.replicate_zero, List.take_succ_cons, List.take_zero, List.drop_succ_cons, List.drop_zero, List.reverse_cons, List.reverse_nil, List.length_cons, List.length_nil, Option.toList, true_and, and_true, eq_self, ↓reduceIte, not_true_eq_false, not_false_eq_true, true_or, or_true, List.append_eq, h1, ← e1, h2, ← e2]
    exact hK r2 T m1 _ _ en.1 g
theorem s_1684 (hX : tb.2.1 = strB) (hD : tb.1 2 = [vi 0, vn, vn, vn, vn, vn]) (h0 : 0 ≤ i) (h6 : i + 6 ≤ (tb.2.2.1 : Int)) (hf : ∀ j, R32 (tb.2.2.2 j)) : CASE tb (d + 80) K 1684 i := by
  intro r S m z5 z6 h hK
  have h1 : 0 ≤ i + 1 ∧ i + 1 < (tb.2.2.1 : Int) := by omega
  have g1 := hf (i + 1).toNat
  obtain ⟨x1, e1⟩ : ∃ x, x = tb.2.2.2 (i + 1).toNat := ⟨_, rfl⟩
  rw [← e1] at g1
  have h2 : 0 ≤ i + 2 ∧ i + 2 < (tb.2.2.1 : Int) := by omega
  have g2 := hf (i + 2).toNat
  obtain ⟨x2, e2⟩ : ∃ x, x = tb.2.2.2 (i + 2).toNat := ⟨_, rfl⟩
  rw [← e2] at g2
  rw [AtL.eq kl_1684]
  simp only [w_aload, w_iload, w_iconst, w_lconst, w_iadd, w_ialoads, w_call, w_istore, w_goto, w_fall, w_if, w_ifc, w_i2l, w_lcmp, w_zreturn, x_lald isA_316x, len_316x, cI, Int.reduceToNat, Option.toList, List.getElem?_cons_zero, List.getElem?_cons_succ, List.set_cons_zero, List.set_cons_succ, List.cons_append, List.nil_append, List.replicate_succ, List.replicate_zero, List.take_succ_cons, List.take_zero, List.drop_succ_cons, List.drop_zero, List.reverse_cons, List.reverse_nil, List.length_cons, List.length_nil, Option.toList, true_and, and_true, eq_self, ↓reduceIte, not_true_eq_false, not_false_eq_true, true_or, or_true, List.append_eq, h1, ← e1, h2, ← e2]
  refine ⟨⟨by omega, by omega⟩, ?_⟩
  refine (y_369 (p_163 g1 g2 hX h)) (d + 8) _ (fun c S1 m1 c0 c3 g lr => ?_)
  simp only [w_aload, w_iload, w_iconst, w_lconst, w_iadd, w_ialoads, w_call, w_istore, w_goto, w_fall, w_if, w_ifc, w_i2l, w_lcmp, w_zreturn, x_lald isA_316x, len_316x, cI, Int.reduceToNat, Option.toList, List.getElem?_cons_zero, List.getElem?_cons_succ, List.set_cons_zero, List.set_cons_succ, List.cons_append, List.nil_append, List.replicate_succ, List.replicate_zero, List.take_succ_cons, List.take_zero, List.drop_succ_cons, List.drop_zero, List.reverse_cons, List.reverse_nil, List.length_cons, List.length_nil, Option.toList, true_and, and_true, eq_self, ↓reduceIte, not_true_eq_false, not_false_eq_true, true_or, or_true, List.append_eq, h1, ← e1, h2, ← e2]
  refine ⟨⟨by omega, by omega⟩, ?_⟩
  refine lr (d + 10) _ (fun T b r2 th en p => ?_)
  obtain ⟨p1, p2⟩ := p
  simp only [w_aload, w_iload, w_iconst, w_lconst, w_iadd, w_ialoads, w_call, w_istore, w_goto, w_fall, w_if, w_ifc, w_i2l, w_lcmp, w_zreturn, x_lald isA_316x, len_316x, cI, Int.reduceToNat, Option.toList, List.getElem?_cons_zero, List.getElem?_cons_succ, List.set_cons_zero, List.set_cons_succ, List.cons_append, List.nil_append, List.replicate_succ, List.replicate_zero, List.take_succ_cons, List.take_zero, List.drop_succ_cons, List.drop_zero, List.reverse_cons, List.reverse_nil, List.length_cons, List.length_nil, Option.toList, true_and, and_true, eq_self, ↓reduceIte, not_true_eq_false, not_false_eq_true, true_or, or_true, List.append_eq, h1, ← e1, h2, ← e2]
  refine ⟨⟨by omega, by omega⟩, ?_⟩
  refine q_199 (d := d + 79) ?_
  simp only [w_aload, w_iload, w_iconst, w_lconst, w_iadd, w_ialoads, w_call, w_istore, w_goto, w_fall, w_if, w_ifc, w_i2l, w_lcmp, w_zreturn, x_lald isA_316x, len_316x, cI, Int.reduceToNat, Option.toList, List.getElem?_cons_zero, List.getElem?_cons_succ, List.set_cons_zero, List.set_cons_succ, List.cons_append, List.nil_append, List.replicate_succ, List.replicate_zero, List.take_succ_cons, List.take_zero, List.drop_succ_cons, List.drop_zero, List.reverse_cons, List.reverse_nil, List.length_cons, List.length_nil, Option.toList, true_and, and_true, eq_self, ↓reduceIte, not_true_eq_false, not_false_eq_true, true_or, or_true, List.append_eq, h1, ← e1, h2, ← e2]
  have e7 : T 300 0 = c := en.2.2.trans p1
  refine ⟨Or.inr e7, fun _ => ?_, fun w => absurd e7 w⟩
  rw [AtL.eq kl_1732]
  simp only [w_aload, w_iload, w_iconst, w_lconst, w_iadd, w_ialoads, w_call, w_istore, w_goto, w_fall, w_if, w_ifc, w_i2l, w_lcmp, w_zreturn, x_lald isA_316x, len_316x, cI, Int.reduceToNat, Option.toList, List.getElem?_cons_zero, List.getElem?_cons_succ, List.set_cons_zero, List.set_cons_succ, List.cons_append, List.nil_append, List.replicate_succ, List.replicate_zero, List.take_succ_cons, List.take_zero, List.drop_succ_cons, List.drop_zero, List.reverse_cons, List.reverse_nil, List.length_cons, List.length_nil, Option.toList, true_and, and_true, eq_self, ↓reduceIte, not_true_eq_false, not_false_eq_true, true_or, or_true, List.append_eq, h1, ← e1, h2, ← e2]
  refine ⟨by unfold R32; omega, fun y => ?_, fun y => ?_⟩
  · rw [AtL.eq kl_1756]
    simp only [w_aload, w_iload, w_iconst, w_lconst, w_iadd, w_ialoads, w_call, w_istore, w_goto, w_fall, w_if, w_ifc, w_i2l, w_lcmp, w_zreturn, x_lald isA_316x, len_316x, cI, Int.reduceToNat, Option.toList, List.getElem?_cons_zero, List.getElem?_cons_succ, List.set_cons_zero, List.set_cons_succ, List.cons_append, List.nil_append, List.replicate_succ, List.replicate_zero, List.take_succ_cons, List.take_zero, List.drop_succ_cons, List.drop_zero, List.reverse_cons, List.reverse_nil, List.length_cons, List.length_nil, Option.toList, true_and, and_true, eq_self, ↓reduceIte, not_true_eq_false, not_false_eq_true, true_or, or_true, List.append_eq, h1, ← e1, h2, ← e2]
    exact hK r2 T m1 _ _ en.1 g
  · have y0 : c = 0 := by omega
    obtain ⟨q1, q2⟩ := p2 y0
    have e9 : T 316 0 = if b = 0 then 0 else 1 := (congrFun en.2.1 0).trans q2
    have fin : ∀ x : Int, T 316 0 = x → R64 x → AtL tb (d + 80) K 1750 [vx 0, vr 0, vr 300, vr 316, vi i, vi c, vi b] [vl x, vl (T 316 0)] (X T m1) := fun x hx hx2 => by
      rw [AtL.eq kl_1750]
      simp only [w_aload, w_iload, w_iconst, w_lconst, w_iadd, w_ialoads, w_call, w_istore, w_goto, w_fall, w_if, w_ifc, w_i2l, w_lcmp, w_zreturn, x_lald isA_316x, len_316x, cI, Int.reduceToNat, Option.toList, List.getElem?_cons_zero, List.getElem?_cons_succ, List.set_cons_zero, List.set_cons_succ, List.cons_append, List.nil_append, List.replicate_succ, List.replicate_zero, List.take_succ_cons, List.take_zero, List.drop_succ_cons, List.drop_zero, List.reverse_cons, List.reverse_nil, List.length_cons, List.length_nil, Option.toList, true_and, and_true, eq_self, ↓reduceIte, not_true_eq_false, not_false_eq_true, true_or, or_true, List.append_eq, hx, cmp_self]
      refine ⟨⟨hx2, hx2⟩, R32_00, fun _ => ?_, fun w => by simp at w⟩
      rw [AtL.eq kl_1756]
      simp only [w_aload, w_iload, w_iconst, w_lconst, w_iadd, w_ialoads, w_call, w_istore, w_goto, w_fall, w_if, w_ifc, w_i2l, w_lcmp, w_zreturn, x_lald isA_316x, len_316x, cI, Int.reduceToNat, Option.toList, List.getElem?_cons_zero, List.getElem?_cons_succ, List.set_cons_zero, List.set_cons_succ, List.cons_append, List.nil_append, List.replicate_succ, List.replicate_zero, List.take_succ_cons, List.take_zero, List.drop_succ_cons, List.drop_zero, List.reverse_cons, List.reverse_nil, List.length_cons, List.length_nil, Option.toList, true_and, and_true, eq_self, ↓reduceIte, not_true_eq_false, not_false_eq_true, true_or, or_true, List.append_eq, h1, ← e1, h2, ← e2]
      exact hK r2 T m1 _ _ en.1 g
    refine ⟨⟨by decide, by decide⟩, q1, fun z => ?_, fun z => ?_⟩
    · rw [AtL.eq kl_1749]
      simp only [w_aload, w_iload, w_iconst, w_lconst, w_iadd, w_ialoads, w_call, w_istore, w_goto, w_fall, w_if, w_ifc, w_i2l, w_lcmp, w_zreturn, x_lald isA_316x, len_316x, cI, Int.reduceToNat, Option.toList, List.getElem?_cons_zero, List.getElem?_cons_succ, List.set_cons_zero, List.set_cons_succ, List.cons_append, List.nil_append, List.replicate_succ, List.replicate_zero, List.take_succ_cons, List.take_zero, List.drop_succ_cons, List.drop_zero, List.reverse_cons, List.reverse_nil, List.length_cons, List.length_nil, Option.toList, true_and, and_true, eq_self, ↓reduceIte, not_true_eq_false, not_false_eq_true, true_or, or_true, List.append_eq, h1, ← e1, h2, ← e2]
      exact fin 0 (e9.trans (if_pos z)) (by unfold R64; decide)
    · exact fin 1 (e9.trans (if_neg z)) (by unfold R64; decide)
theorem s_1759 (hX : tb.2.1 = strB) (hD : tb.1 2 = [vi 0, vn, vn, vn, vn, vn]) (h0 : 0 ≤ i) (h6 : i + 6 ≤ (tb.2.2.1 : Int)) (hf : ∀ j, R32 (tb.2.2.2 j)) : CASE tb (d + 80) K 1759 i := by
  intro r S m z5 z6 h hK
  rw [AtL.eq kl_1759]
  simp only [w_aload, w_iload, w_iconst, w_lconst, w_iadd, w_ialoads, w_call, w_istore, w_goto, w_fall, w_if, w_ifc, w_i2l, w_lcmp, w_zreturn, x_lald isA_316x, len_316x, cI, Int.reduceToNat, Option.toList, List.getElem?_cons_zero, List.getElem?_cons_succ, List.set_cons_zero, List.set_cons_succ, List.cons_append, List.nil_append, List.replicate_succ, List.replicate_zero, List.take_succ_cons, List.take_zero, List.drop_succ_cons, List.drop_zero, List.reverse_cons, List.reverse_nil, List.length_cons, List.length_nil, Option.toList, true_and, and_true, eq_self, ↓reduceIte, not_true_eq_false, not_false_eq_true, true_or, or_true, List.append_eq]
  refine ⟨⟨by omega, by omega⟩, ?_⟩
  refine (p_164 hX h) (d + 10) _ (fun v S1 m1 _ g nx => ?_) (fun E c S1 m1 he _ _ => by simp at he)
  simp only [w_aload, w_iload, w_iconst, w_lconst, w_iadd, w_ialoads, w_call, w_istore, w_goto, w_fall, w_if, w_ifc, w_i2l, w_lcmp, w_zreturn, x_lald isA_316x, len_316x, cI, Int.reduceToNat, Option.toList, List.getElem?_cons_zero, List.getElem?_cons_succ, List.set_cons_zero, List.set_cons_succ, List.cons_append, List.nil_append, List.replicate_succ, List.replicate_zero, List.take_succ_cons, List.take_zero, List.drop_succ_cons, List.drop_zero, List.reverse_cons, List.reverse_nil, List.length_cons, List.length_nil, Option.toList, true_and, and_true, eq_self, ↓reduceIte, not_true_eq_false, not_false_eq_true, true_or, or_true, List.append_eq]
  refine ⟨⟨by omega, by omega⟩, ?_⟩
  refine nx S1 (fun _ _ => rfl) (d + 10) _ (fun T b r2 th en p => ?_)
  simp only [w_aload, w_iload, w_iconst, w_lconst, w_iadd, w_ialoads, w_call, w_istore, w_goto, w_fall, w_if, w_ifc, w_i2l, w_lcmp, w_zreturn, x_lald isA_316x, len_316x, cI, Int.reduceToNat, Option.toList, List.getElem?_cons_zero, List.getElem?_cons_succ, List.set_cons_zero, List.set_cons_succ, List.cons_append, List.nil_append, List.replicate_succ, List.replicate_zero, List.take_succ_cons, List.take_zero, List.drop_succ_cons, List.drop_zero, List.reverse_cons, List.reverse_nil, List.length_cons, List.length_nil, Option.toList, true_and, and_true, eq_self, ↓reduceIte, not_true_eq_false, not_false_eq_true, true_or, or_true, List.append_eq]
  refine ⟨Or.inr p.2.symm, fun _ => hK r2 T m1 _ _ en.1 g, fun w => absurd p.2.symm w⟩
theorem s_1772 (hX : tb.2.1 = strB) (hD : tb.1 2 = [vi 0, vn, vn, vn, vn, vn]) (h0 : 0 ≤ i) (h6 : i + 6 ≤ (tb.2.2.1 : Int)) (hf : ∀ j, R32 (tb.2.2.2 j)) : CASE tb (d + 80) K 1772 i := by
  intro r S m z5 z6 h hK
  have h1 : 0 ≤ i + 1 ∧ i + 1 < (tb.2.2.1 : Int) := by omega
  have g1 := hf (i + 1).toNat
  obtain ⟨x1, e1⟩ : ∃ x, x = tb.2.2.2 (i + 1).toNat := ⟨_, rfl⟩
  rw [← e1] at g1
  have h2 : 0 ≤ i + 2 ∧ i + 2 < (tb.2.2.1 : Int) := by omega
  have g2 := hf (i + 2).toNat
  obtain ⟨x2, e2⟩ : ∃ x, x = tb.2.2.2 (i + 2).toNat := ⟨_, rfl⟩
  rw [← e2] at g2
  have h3 : 0 ≤ i + 3 ∧ i + 3 < (tb.2.2.1 : Int) := by omega
  have g3 := hf (i + 3).toNat
  obtain ⟨x3, e3⟩ : ∃ x, x = tb.2.2.2 (i + 3).toNat := ⟨_, rfl⟩
  rw [← e3] at g3
  rw [AtL.eq kl_1772]
  simp only [w_aload, w_iload, w_iconst, w_lconst, w_iadd, w_ialoads, w_call, w_istore, w_goto, w_fall, w_if, w_ifc, w_i2l, w_lcmp, w_zreturn, x_lald isA_316x, len_316x, cI, Int.reduceToNat, Option.toList, List.getElem?_cons_zero, List.getElem?_cons_succ, List.set_cons_zero, List.set_cons_succ, List.cons_append, List.nil_append, List.replicate_succ, List.replicate_zero, List.take_succ_cons, List.take_zero, List.drop_succ_cons, List.drop_zero, List.reverse_cons, List.reverse_nil, List.length_cons, List.length_nil, Option.toList, true_and, and_true, eq_self, ↓reduceIte, not_true_eq_false, not_false_eq_true, true_or, or_true, List.append_eq, h1, ← e1, h2, ← e2, h3, ← e3]
  refine ⟨⟨by omega, by omega⟩, ?_⟩
  refine (y_370 (p_165 g1 g2 g3 hX h)) (d + 8) _ (fun c S1 m1 c0 c3 g lr => ?_)
  simp only [w_aload, w_iload, w_iconst, w_lconst, w_iadd, w_ialoads, w_call, w_istore, w_goto, w_fall, w_if, w_ifc, w_i2l, w_lcmp, w_zreturn, x_lald isA_316x, len_316x, cI, Int.reduceToNat, Option.toList, List.getElem?_cons_zero, List.getElem?_cons_succ, List.set_cons_zero, List.set_cons_succ, List.cons_append, List.nil_append, List.replicate_succ, List.replicate_zero, List.take_succ_cons, List.take_zero, List.drop_succ_cons, List.drop_zero, List.reverse_cons, List.reverse_nil, List.length_cons, List.length_nil, Option.toList, true_and, and_true, eq_self, ↓reduceIte, not_true_eq_false, not_false_eq_true, true_or, or_true, List.append_eq, h1, ← e1, h2, ← e2, h3, ← e3]
  refine ⟨⟨by omega, by omega⟩, ?_⟩
  refine lr (d + 10) _ (fun T b r2 th en p => ?_)
  obtain ⟨p1, p2⟩ := p
  simp only [w_aload, w_iload, w_iconst, w_lconst, w_iadd, w_ialoads, w_call, w_istore, w_goto, w_fall, w_if, w_ifc, w_i2l, w_lcmp, w_zreturn, x_lald isA_316x, len_316x, cI, Int.reduceToNat, Option.toList, List.getElem?_cons_zero, List.getElem?_cons_succ, List.set_cons_zero, List.set_cons_succ, List.cons_append, List.nil_append, List.replicate_succ, List.replicate_zero, List.take_succ_cons, List.take_zero, List.drop_succ_cons, List.drop_zero, List.reverse_cons, List.reverse_nil, List.length_cons, List.length_nil, Option.toList, true_and, and_true, eq_self, ↓reduceIte, not_true_eq_false, not_false_eq_true, true_or, or_true, List.append_eq, h1, ← e1, h2, ← e2, h3, ← e3]
  refine ⟨⟨by omega, by omega⟩, ?_⟩
  refine q_199 (d := d + 79) ?_
  simp only [w_aload, w_iload, w_iconst, w_lconst, w_iadd, w_ialoads, w_call, w_istore, w_goto, w_fall, w_if, w_ifc, w_i2l, w_lcmp, w_zreturn, x_lald isA_316x, len_316x, cI, Int.reduceToNat, Option.toList, List.getElem?_cons_zero, List.getElem?_cons_succ, List.set_cons_zero, List.set_cons_succ, List.cons_append, List.nil_append, List.replicate_succ, List.replicate_zero, List.take_succ_cons, List.take_zero, List.drop_succ_cons, List.drop_zero, List.reverse_cons, List.reverse_nil, List.length_cons, List.length_nil, Option.toList, true_and, and_true, eq_self, ↓reduceIte, not_true_eq_false, not_false_eq_true, true_or, or_true, List.append_eq, h1, ← e1, h2, ← e2, h3, ← e3]
  have e7 : T 300 0 = c := en.2.2.trans p1
  refine ⟨Or.inr e7, fun _ => ?_, fun w => absurd e7 w⟩
  rw [AtL.eq kl_1832]
  simp only [w_aload, w_iload, w_iconst, w_lconst, w_iadd, w_ialoads, w_call, w_istore, w_goto, w_fall, w_if, w_ifc, w_i2l, w_lcmp, w_zreturn, x_lald isA_316x, len_316x, cI, Int.reduceToNat, Option.toList, List.getElem?_cons_zero, List.getElem?_cons_succ, List.set_cons_zero, List.set_cons_succ, List.cons_append, List.nil_append, List.replicate_succ, List.replicate_zero, List.take_succ_cons, List.take_zero, List.drop_succ_cons, List.drop_zero, List.reverse_cons, List.reverse_nil, List.length_cons, List.length_nil, Option.toList, true_and, and_true, eq_self, ↓reduceIte, not_true_eq_false, not_false_eq_true, true_or, or_true, List.append_eq, h1, ← e1, h2, ← e2, h3, ← e3]
  refine ⟨by unfold R32; omega, fun y => ?_, fun y => ?_⟩
  · rw [AtL.eq kl_1849]
    simp only [w_aload, w_iload, w_iconst, w_lconst, w_iadd, w_ialoads, w_call, w_istore, w_goto, w_fall, w_if, w_ifc, w_i2l, w_lcmp, w_zreturn, x_lald isA_316x, len_316x, cI, Int.reduceToNat, Option.toList, List.getElem?_cons_zero, List.getElem?_cons_succ, List.set_cons_zero, List.set_cons_succ, List.cons_append, List.nil_append, List.replicate_succ, List.replicate_zero, List.take_succ_cons, List.take_zero, List.drop_succ_cons, List.drop_zero, List.reverse_cons, List.reverse_nil, List.length_cons, List.length_nil, Option.toList, true_and, and_true, eq_self, ↓reduceIte, not_true_eq_false, not_false_eq_true, true_or, or_true, List.append_eq, h1, ← e1, h2, ← e2, h3, ← e3]
    exact hK r2 T m1 _ _ en.1 g
  · have y0 : c = 0 := by omega
    obtain ⟨q1, q2⟩ := p2 y0
    have e9 : T 316 0 = b := (congrFun en.2.1 0).trans q1
    simp only [e9, cmp_self]
    refine ⟨⟨by decide, by decide⟩, q2, ⟨R64_32 q2, R64_32 q2⟩, R32_00, fun _ => ?_, fun w => by simp at w⟩
    rw [AtL.eq kl_1849]
    simp only [w_aload, w_iload, w_iconst, w_lconst, w_iadd, w_ialoads, w_call, w_istore, w_goto, w_fall, w_if, w_ifc, w_i2l, w_lcmp, w_zreturn, x_lald isA_316x, len_316x, cI, Int.reduceToNat, Option.toList, List.getElem?_cons_zero, List.getElem?_cons_succ, List.set_cons_zero, List.set_cons_succ, List.cons_append, List.nil_append, List.replicate_succ, List.replicate_zero, List.take_succ_cons, List.take_zero, List.drop_succ_cons, List.drop_zero, List.reverse_cons, List.reverse_nil, List.length_cons, List.length_nil, Option.toList, true_and, and_true, eq_self, ↓reduceIte, not_true_eq_false, not_false_eq_true, true_or, or_true, List.append_eq, h1, ← e1, h2, ← e2, h3, ← e3]
    exact hK r2 T m1 _ _ en.1 g
theorem s_1852 (hX : tb.2.1 = strB) (hD : tb.1 2 = [vi 0, vn, vn, vn, vn, vn]) (h0 : 0 ≤ i) (h6 : i + 6 ≤ (tb.2.2.1 : Int)) (hf : ∀ j, R32 (tb.2.2.2 j)) : CASE tb (d + 80) K 1852 i := by
  intro r S m z5 z6 h hK
  rw [AtL.eq kl_1852]
  simp only [w_aload, w_iload, w_iconst, w_lconst, w_iadd, w_ialoads, w_call, w_istore, w_goto, w_fall, w_if, w_ifc, w_i2l, w_lcmp, w_zreturn, x_lald isA_316x, len_316x, cI, Int.reduceToNat, Option.toList, List.getElem?_cons_zero, List.getElem?_cons_succ, List.set_cons_zero, List.set_cons_succ, List.cons_append, List.nil_append, List.replicate_succ, List.replicate_zero, List.take_succ_cons, List.take_zero, List.drop_succ_cons, List.drop_zero, List.reverse_cons, List.reverse_nil, List.length_cons, List.length_nil, Option.toList, true_and, and_true, eq_self, ↓reduceIte, not_true_eq_false, not_false_eq_true, true_or, or_true, List.append_eq]
  refine ⟨⟨by omega, by omega⟩, ?_⟩
  refine (p_169 hX h) (d + 10) _ (fun v S1 m1 _ g nx => ?_) (fun E c S1 m1 he _ _ => by simp at he)
  simp only [w_aload, w_iload, w_iconst, w_lconst, w_iadd, w_ialoads, w_call, w_istore, w_goto, w_fall, w_if, w_ifc, w_i2l, w_lcmp, w_zreturn, x_lald isA_316x, len_316x, cI, Int.reduceToNat, Option.toList, List.getElem?_cons_zero, List.getElem?_cons_succ, List.set_cons_zero, List.set_cons_succ, List.cons_append, List.nil_append, List.replicate_succ, List.replicate_zero, List.take_succ_cons, List.take_zero, List.drop_succ_cons, List.drop_zero, List.reverse_cons, List.reverse_nil, List.length_cons, List.length_nil, Option.toList, true_and, and_true, eq_self, ↓reduceIte, not_true_eq_false, not_false_eq_true, true_or, or_true, List.append_eq]
  refine ⟨⟨by omega, by omega⟩, ?_⟩
  refine nx S1 (fun _ _ => rfl) (d + 10) _ (fun T b r2 th en p => ?_)
  simp only [w_aload, w_iload, w_iconst, w_lconst, w_iadd, w_ialoads, w_call, w_istore, w_goto, w_fall, w_if, w_ifc, w_i2l, w_lcmp, w_zreturn, x_lald isA_316x, len_316x, cI, Int.reduceToNat, Option.toList, List.getElem?_cons_zero, List.getElem?_cons_succ, List.set_cons_zero, List.set_cons_succ, List.cons_append, List.nil_append, List.replicate_succ, List.replicate_zero, List.take_succ_cons, List.take_zero, List.drop_succ_cons, List.drop_zero, List.reverse_cons, List.reverse_nil, List.length_cons, List.length_nil, Option.toList, true_and, and_true, eq_self, ↓reduceIte, not_true_eq_false, not_false_eq_true, true_or, or_true, List.append_eq]
  refine ⟨Or.inr p.2.symm, fun _ => hK r2 T m1 _ _ en.1 g, fun w => absurd p.2.symm w⟩
theorem s_1865 (hX : tb.2.1 = strB) (hD : tb.1 2 = [vi 0, vn, vn, vn, vn, vn]) (h0 : 0 ≤ i) (h6 : i + 6 ≤ (tb.2.2.1 : Int)) (hf : ∀ j, R32 (tb.2.2.2 j)) : CASE tb (d + 80) K 1865 i := by
  intro r S m z5 z6 h hK
  rw [AtL.eq kl_1865]
  simp only [w_aload, w_iload, w_iconst, w_lconst, w_iadd, w_ialoads, w_call, w_istore, w_goto, w_fall, w_if, w_ifc, w_i2l, w_lcmp, w_zreturn, x_lald isA_316x, len_316x, cI, Int.reduceToNat, Option.toList, List.getElem?_cons_zero, List.getElem?_cons_succ, List.set_cons_zero, List.set_cons_succ, List.cons_append, List.nil_append, List.replicate_succ, List.replicate_zero, List.take_succ_cons, List.take_zero, List.drop_succ_cons, List.drop_zero, List.reverse_cons, List.reverse_nil, List.length_cons, List.length_nil, Option.toList, true_and, and_true, eq_self, ↓reduceIte, not_true_eq_false, not_false_eq_true, true_or, or_true, List.append_eq]
  refine ⟨⟨by omega, by omega⟩, ?_⟩
  refine (p_170 hX h) (d + 10) _ (fun v S1 m1 _ g nx => ?_) (fun E c S1 m1 he _ _ => by simp at he)
  simp only [w_aload, w_iload, w_iconst, w_lconst, w_iadd, w_ialoads, w_call, w_istore, w_goto, w_fall, w_if, w_ifc, w_i2l, w_lcmp, w_zreturn, x_lald isA_316x, len_316x, cI, Int.reduceToNat, Option.toList, List.getElem?_cons_zero, List.getElem?_cons_succ, List.set_cons_zero, List.set_cons_succ, List.cons_append, List.nil_append, List.replicate_succ, List.replicate_zero, List.take_succ_cons, List.take_zero, List.drop_succ_cons, List.drop_zero, List.reverse_cons, List.reverse_nil, List.length_cons, List.length_nil, Option.toList, true_and, and_true, eq_self, ↓reduceIte, not_true_eq_false, not_false_eq_true, true_or, or_true, List.append_eq]
  refine ⟨⟨by omega, by omega⟩, ?_⟩
  refine nx S1 (fun _ _ => rfl) (d + 10) _ (fun T b r2 th en p => ?_)
  simp only [w_aload, w_iload, w_iconst, w_lconst, w_iadd, w_ialoads, w_call, w_istore, w_goto, w_fall, w_if, w_ifc, w_i2l, w_lcmp, w_zreturn, x_lald isA_316x, len_316x, cI, Int.reduceToNat, Option.toList, List.getElem?_cons_zero, List.getElem?_cons_succ, List.set_cons_zero, List.set_cons_succ, List.cons_append, List.nil_append, List.replicate_succ, List.replicate_zero, List.take_succ_cons, List.take_zero, List.drop_succ_cons, List.drop_zero, List.reverse_cons, List.reverse_nil, List.length_cons, List.length_nil, Option.toList, true_and, and_true, eq_self, ↓reduceIte, not_true_eq_false, not_false_eq_true, true_or, or_true, List.append_eq]
  refine ⟨Or.inr p.2.symm, fun _ => hK r2 T m1 _ _ en.1 g, fun w => absurd p.2.symm w⟩
theorem s_1878 (hX : tb.2.1 = strB) (hD : tb.1 2 = [vi 0, vn, vn, vn, vn, vn]) (h0 : 0 ≤ i) (h6 : i + 6 ≤ (tb.2.2.1 : Int)) (hf : ∀ j, R32 (tb.2.2.2 j)) : CASE tb (d + 80) K 1878 i := by
  intro r S m z5 z6 h hK
  rw [AtL.eq kl_1878]
  simp only [w_aload, w_iload, w_iconst, w_lconst, w_iadd, w_ialoads, w_call, w_istore, w_goto, w_fall, w_if, w_ifc, w_i2l, w_lcmp, w_zreturn, x_lald isA_316x, len_316x, cI, Int.reduceToNat, Option.toList, List.getElem?_cons_zero, List.getElem?_cons_succ, List.set_cons_zero, List.set_cons_succ, List.cons_append, List.nil_append, List.replicate_succ, List.replicate_zero, List.take_succ_cons, List.take_zero, List.drop_succ_cons, List.drop_zero, List.reverse_cons, List.reverse_nil, List.length_cons, List.length_nil, Option.toList, true_and, and_true, eq_self, ↓reduceIte, not_true_eq_false, not_false_eq_true, true_or, or_true, List.append_eq]
  refine ⟨⟨by omega, by omega⟩, ?_⟩
  refine (p_171 hX h) (d + 10) _ (fun v S1 m1 _ g nx => ?_) (fun E c S1 m1 he _ _ => by simp at he)
  simp only [w_aload, w_iload, w_iconst, w_lconst, w_iadd, w_ialoads, w_call, w_istore, w_goto, w_fall, w_if, w_ifc, w_i2l, w_lcmp, w_zreturn, x_lald isA_316x, len_316x, cI, Int.reduceToNat, Option.toList, List.getElem?_cons_zero, List.getElem?_cons_succ, List.set_cons_zero, List.set_cons_succ, List.cons_append, List.nil_append, List.replicate_succ, List.replicate_zero, List.take_succ_cons, List.take_zero, List.drop_succ_cons, List.drop_zero, List.reverse_cons, List.reverse_nil, List.length_cons, List.length_nil, Option.toList, true_and, and_true, eq_self, ↓reduceIte, not_true_eq_false, not_false_eq_true, true_or, or_true, List.append_eq]
  refine ⟨⟨by omega, by omega⟩, ?_⟩
  refine nx S1 (fun _ _ => rfl) (d + 10) _ (fun T b r2 th en p => ?_)
  simp only [w_aload, w_iload, w_iconst, w_lconst, w_iadd, w_ialoads, w_call, w_istore, w_goto, w_fall, w_if, w_ifc, w_i2l, w_lcmp, w_zreturn, x_lald isA_316x, len_316x, cI, Int.reduceToNat, Option.toList, List.getElem?_cons_zero, List.getElem?_cons_succ, List.set_cons_zero, List.set_cons_succ, List.cons_append, List.nil_append, List.replicate_succ, List.replicate_zero, List.take_succ_cons, List.take_zero, List.drop_succ_cons, List.drop_zero, List.reverse_cons, List.reverse_nil, List.length_cons, List.length_nil, Option.toList, true_and, and_true, eq_self, ↓reduceIte, not_true_eq_false, not_false_eq_true, true_or, or_true, List.append_eq]
  refine ⟨Or.inr p.2.symm, fun _ => hK r2 T m1 _ _ en.1 g, fun w => absurd p.2.symm w⟩
theorem s_1891 (hX : tb.2.1 = strB) (hD : tb.1 2 = [vi 0, vn, vn, vn, vn, vn]) (h0 : 0 ≤ i) (h6 : i + 6 ≤ (tb.2.2.1 : Int)) (hf : ∀ j, R32 (tb.2.2.2 j)) : CASE tb (d + 80) K 1891 i := by
  intro r S m z5 z6 h hK
  rw [AtL.eq kl_1891]
  simp only [w_aload, w_iload, w_iconst, w_lconst, w_iadd, w_ialoads, w_call, w_istore, w_goto, w_fall, w_if, w_ifc, w_i2l, w_lcmp, w_zreturn, x_lald isA_316x, len_316x, cI, Int.reduceToNat, Option.toList, List.getElem?_cons_zero, List.getElem?_cons_succ, List.set_cons_zero, List.set_cons_succ, List.cons_append, List.nil_append, List.replicate_succ, List.replicate_zero, List.take_succ_cons, List.take_zero, List.drop_succ_cons, List.drop_zero, List.reverse_cons, List.reverse_nil, List.length_cons, List.length_nil, Option.toList, true_and, and_true, eq_self, ↓reduceIte, not_true_eq_false, not_false_eq_true, true_or, or_true, List.append_eq]
  refine ⟨⟨by omega, by omega⟩, ?_⟩
  refine (p_172 hX h) (d + 10) _ (fun v S1 m1 _ g nx => ?_) (fun E c S1 m1 he _ _ => by simp at he)
  simp only [w_aload, w_iload, w_iconst, w_lconst, w_iadd, w_ialoads, w_call, w_istore, w_goto, w_fall, w_if, w_ifc, w_i2l, w_lcmp, w_zreturn, x_lald isA_316x, len_316x, cI, Int.reduceToNat, Option.toList, List.getElem?_cons_zero, List.getElem?_cons_succ, List.set_cons_zero, List.set_cons_succ, List.cons_append, List.nil_append, List.replicate_succ, List.replicate_zero, List.take_succ_cons, List.take_zero, List.drop_succ_cons, List.drop_zero, List.reverse_cons, List.reverse_nil, List.length_cons, List.length_nil, Option.toList, true_and, and_true, eq_self, ↓reduceIte, not_true_eq_false, not_false_eq_true, true_or, or_true, List.append_eq]
  refine ⟨⟨by omega, by omega⟩, ?_⟩
  refine nx S1 (fun _ _ => rfl) (d + 10) _ (fun T b r2 th en p => ?_)
  simp only [w_aload, w_iload, w_iconst, w_lconst, w_iadd, w_ialoads, w_call, w_istore, w_goto, w_fall, w_if, w_ifc, w_i2l, w_lcmp, w_zreturn, x_lald isA_316x, len_316x, cI, Int.reduceToNat, Option.toList, List.getElem?_cons_zero, List.getElem?_cons_succ, List.set_cons_zero, List.set_cons_succ, List.cons_append, List.nil_append, List.replicate_succ, List.replicate_zero, List.take_succ_cons, List.take_zero, List.drop_succ_cons, List.drop_zero, List.reverse_cons, List.reverse_nil, List.length_cons, List.length_nil, Option.toList, true_and, and_true, eq_self, ↓reduceIte, not_true_eq_false, not_false_eq_true, true_or, or_true, List.append_eq]
  refine ⟨Or.inr p.2.symm, fun _ => hK r2 T m1 _ _ en.1 g, fun w => absurd p.2.symm w⟩
theorem s_1904 (hX : tb.2.1 = strB) (hD : tb.1 2 = [vi 0, vn, vn, vn, vn, vn]) (h0 : 0 ≤ i) (h6 : i + 6 ≤ (tb.2.2.1 : Int)) (hf : ∀ j, R32 (tb.2.2.2 j)) : CASE tb (d + 80) K 1904 i := by
  intro r S m z5 z6 h hK
  rw [AtL.eq kl_1904]
  simp only [w_aload, w_iload, w_iconst, w_lconst, w_iadd, w_ialoads, w_call, w_istore, w_goto, w_fall, w_if, w_ifc, w_i2l, w_lcmp, w_zreturn, x_lald isA_316x, len_316x, cI, Int.reduceToNat, Option.toList, List.getElem?_cons_zero, List.getElem?_cons_succ, List.set_cons_zero, List.set_cons_succ, List.cons_append, List.nil_append, List.replicate_succ, List.replicate_zero, List.take_succ_cons, List.take_zero, List.drop_succ_cons, List.drop_zero, List.reverse_cons, List.reverse_nil, List.length_cons, List.length_nil, Option.toList, true_and, and_true, eq_self, ↓reduceIte, not_true_eq_false, not_false_eq_true, true_or, or_true, List.append_eq]
  refine ⟨⟨by omega, by omega⟩, ?_⟩
  refine (p_173 hX h) (d + 10) _ (fun v S1 m1 _ g nx => ?_) (fun E c S1 m1 he _ _ => by simp at he)
  simp only [w_aload, w_iload, w_iconst, w_lconst, w_iadd, w_ialoads, w_call, w_istore, w_goto, w_fall, w_if, w_ifc, w_i2l, w_lcmp, w_zreturn, x_lald isA_316x, len_316x, cI, Int.reduceToNat, Option.toList, List.getElem?_cons_zero, List.getElem?_cons_succ, List.set_cons_zero, List.set_cons_succ, List.cons_append, List.nil_append, List.replicate_succ, List.replicate_zero, List.take_succ_cons, List.take_zero, List.drop_succ_cons, List.drop_zero, List.reverse_cons, List.reverse_nil, List.length_cons, List.length_nil, Option.toList, true_and, and_true, eq_self, ↓reduceIte, not_true_eq_false, not_false_eq_true, true_or, or_true, List.append_eq]
  refine ⟨⟨by omega, by omega⟩, ?_⟩
  refine nx S1 (fun _ _ => rfl) (d + 10) _ (fun T b r2 th en p => ?_)
  simp only [w_aload, w_iload, w_iconst, w_lconst, w_iadd, w_ialoads, w_call, w_istore, w_goto, w_fall, w_if, w_ifc, w_i2l, w_lcmp, w_zreturn, x_lald isA_316x, len_316x, cI, Int.reduceToNat, Option.toList, List.getElem?_cons_zero, List.getElem?_cons_succ, List.set_cons_zero, List.set_cons_succ, List.cons_append, List.nil_append, List.replicate_succ, List.replicate_zero, List.take_succ_cons, List.take_zero, List.drop_succ_cons, List.drop_zero, List.reverse_cons, List.reverse_nil, List.length_cons, List.length_nil, Option.toList, true_and, and_true, eq_self, ↓reduceIte, not_true_eq_false, not_false_eq_true, true_or, or_true, List.append_eq]
  refine ⟨Or.inr p.2.symm, fun _ => hK r2 T m1 _ _ en.1 g, fun w => absurd p.2.symm w⟩
theorem s_1917 (hX : tb.2.1 = strB) (hD : tb.1 2 = [vi 0, vn, vn, vn, vn, vn]) (h0 : 0 ≤ i) (h6 : i + 6 ≤ (tb.2.2.1 : Int)) (hf : ∀ j, R32 (tb.2.2.2 j)) : CASE tb (d + 80) K 1917 i := by
  intro r S m z5 z6 h hK
  rw [AtL.eq kl_1917]
  simp only [w_aload, w_iload, w_iconst, w_lconst, w_iadd, w_ialoads, w_call, w_istore, w_goto, w_fall, w_if, w_ifc, w_i2l, w_lcmp, w_zreturn, x_lald isA_316x, len_316x, cI, Int.reduceToNat, Option.toList, List.getElem?_cons_zero, List.getElem?_cons_succ, List.set_cons_zero, List.set_cons_succ, List.cons_append, List.nil_append, List.replicate_succ, List.replicate_zero, List.take_succ_cons, List.take_zero, List.drop_succ_cons, List.drop_zero, List.reverse_cons, List.reverse_nil, List.length_cons, List.length_nil, Option.toList, true_and, and_true, eq_self, ↓reduceIte, not_true_eq_false, not_false_eq_true, true_or, or_true, List.append_eq]
  refine ⟨⟨by omega, by omega⟩, ?_⟩
  refine (p_174 hX h) (d + 10) _ (fun v S1 m1 _ g nx => ?_) (fun E c S1 m1 he _ _ => by simp at he)
  simp only [w_aload, w_iload, w_iconst, w_lconst, w_iadd, w_ialoads, w_call, w_istore, w_goto, w_fall, w_if, w_ifc, w_i2l, w_lcmp, w_zreturn, x_lald isA_316x, len_316x, cI, Int.reduceToNat, Option.toList, List.getElem?_cons_zero, List.getElem?_cons_succ, List.set_cons_zero, List.set_cons_succ, List.cons_append, List.nil_append, List.replicate_succ, List.replicate_zero, List.take_succ_cons, List.take_zero, List.drop_succ_cons, List.drop_zero, List.reverse_cons, List.reverse_nil, List.length_cons, List.length_nil, Option.toList, true_and, and_true, eq_self, ↓reduceIte, not_true_eq_false, not_false_eq_true, true_or, or_true, List.append_eq]
  refine ⟨⟨by omega, by omega⟩, ?_⟩
  refine nx S1 (fun _ _ => rfl) (d + 10) _ (fun T b r2 th en p => ?_)
  simp only [w_aload, w_iload, w_iconst, w_lconst, w_iadd, w_ialoads, w_call, w_istore, w_goto, w_fall, w_if, w_ifc, w_i2l, w_lcmp, w_zreturn, x_lald isA_316x, len_316x, cI, Int.reduceToNat, Option.toList, List.getElem?_cons_zero, List.getElem?_cons_succ, List.set_cons_zero, List.set_cons_succ, List.cons_append, List.nil_append, List.replicate_succ, List.replicate_zero, List.take_succ_cons, List.take_zero, List.drop_succ_cons, List.drop_zero, List.reverse_cons, List.reverse_nil, List.length_cons, List.length_nil, Option.toList, true_and, and_true, eq_self, ↓reduceIte, not_true_eq_false, not_false_eq_true, true_or, or_true, List.append_eq]
  refine ⟨Or.inr p.2.symm, fun _ => hK r2 T m1 _ _ en.1 g, fun w => absurd p.2.symm w⟩
theorem s_1930 (hX : tb.2.1 = strB) (hD : tb.1 2 = [vi 0, vn, vn, vn, vn, vn]) (h0 : 0 ≤ i) (h6 : i + 6 ≤ (tb.2.2.1 : Int)) (hf : ∀ j, R32 (tb.2.2.2 j)) : CASE tb (d + 80) K 1930 i := by
  intro r S m z5 z6 h hK
  have h1 : 0 ≤ i + 1 ∧ i + 1 < (tb.2.2.1 : Int) := by omega
  have g1 := hf (i + 1).toNat
  obtain ⟨x1, e1⟩ : ∃ x, x = tb.2.2.2 (i + 1).toNat := ⟨_, rfl⟩
  rw [← e1] at g1
  rw [AtL.eq kl_1930]
  simp only [w_aload, w_iload, w_iconst, w_lconst, w_iadd, w_ialoads, w_call, w_istore, w_goto, w_fall, w_if, w_ifc, w_i2l, w_lcmp, w_zreturn, x_lald isA_316x, len_316x, cI, Int.reduceToNat, Option.toList, List.getElem?_cons_zero, List.getElem?_cons_succ, List.set_cons_zero, List.set_cons_succ, List.cons_append, List.nil_append, List.replicate_succ, List.replicate_zero, List.take_succ_cons, List.take_zero, List.drop_succ_cons, List.drop_zero, List.reverse_cons, List.reverse_nil, List.length_cons, List.length_nil, Option.toList, true_and, and_true, eq_self, ↓reduceIte, not_true_eq_false, not_false_eq_true, true_or, or_true, List.append_eq, h1, ← e1]
  refine ⟨⟨by omega, by omega⟩, ?_⟩
  refine (y_371 (p_166 g1 hX h)) (d + 8) _ (fun c S1 m1 c0 c3 g lr => ?_)
  simp only [w_aload, w_iload, w_iconst, w_lconst, w_iadd, w_ialoads, w_call, w_istore, w_goto, w_fall, w_if, w_ifc, w_i2l, w_lcmp, w_zreturn, x_lald isA_316x, len_316x, cI, Int.reduceToNat, Option.toList, List.getElem?_cons_zero, List.getElem?_cons_succ, List.set_cons_zero, List.set_cons_succ, List.cons_append, List.nil_append, List.replicate_succ, List.replicate_zero, List.take_succ_cons, List.take_zero, List.drop_succ_cons, List.drop_zero, List.reverse_cons, List.reverse_nil, List.length_cons, List.length_nil, Option.toList, true_and, and_true, eq_self, ↓reduceIte, not_true_eq_false, not_false_eq_true, true_or, or_true, List.append_eq, h1, ← e1]
  refine ⟨⟨by omega, by omega⟩, ?_⟩
  refine lr (d + 10) _ (fun T b r2 th en p => ?_)
  obtain ⟨p1, p2⟩ := p
  simp only [w_aload, w_iload, w_iconst, w_lconst, w_iadd, w_ialoads, w_call, w_istore, w_goto, w_fall, w_if, w_ifc, w_i2l, w_lcmp, w_zreturn, x_lald isA_316x, len_316x, cI, Int.reduceToNat, Option.toList, List.getElem?_cons_zero, List.getElem?_cons_succ, List.set_cons_zero, List.set_cons_succ, List.cons_append, List.nil_append, List.replicate_succ, List.replicate_zero, List.take_succ_cons, List.take_zero, List.drop_succ_cons, List.drop_zero, List.reverse_cons, List.reverse_nil, List.length_cons, List.length_nil, Option.toList, true_and, and_true, eq_self, ↓reduceIte, not_true_eq_false, not_false_eq_true, true_or, or_true, List.append_eq, h1, ← e1]
  refine ⟨⟨by omega, by omega⟩, ?_⟩
  refine q_199 (d := d + 79) ?_
  simp only [w_aload, w_iload, w_iconst, w_lconst, w_iadd, w_ialoads, w_call, w_istore, w_goto, w_fall, w_if, w_ifc, w_i2l, w_lcmp, w_zreturn, x_lald isA_316x, len_316x, cI, Int.reduceToNat, Option.toList, List.getElem?_cons_zero, List.getElem?_cons_succ, List.set_cons_zero, List.set_cons_succ, List.cons_append, List.nil_append, List.replicate_succ, List.replicate_zero, List.take_succ_cons, List.take_zero, List.drop_succ_cons, List.drop_zero, List.reverse_cons, List.reverse_nil, List.length_cons, List.length_nil, Option.toList, true_and, and_true, eq_self, ↓reduceIte, not_true_eq_false, not_false_eq_true, true_or, or_true, List.append_eq, h1, ← e1]
  have e7 : T 300 0 = c := en.2.2.trans p1
  refine ⟨Or.inr e7, fun _ => ?_, fun w => absurd e7 w⟩
  rw [AtL.eq kl_1966]
  simp only [w_aload, w_iload, w_iconst, w_lconst, w_iadd, w_ialoads, w_call, w_istore, w_goto, w_fall, w_if, w_ifc, w_i2l, w_lcmp, w_zreturn, x_lald isA_316x, len_316x, cI, Int.reduceToNat, Option.toList, List.getElem?_cons_zero, List.getElem?_cons_succ, List.set_cons_zero, List.set_cons_succ, List.cons_append, List.nil_append, List.replicate_succ, List.replicate_zero, List.take_succ_cons, List.take_zero, List.drop_succ_cons, List.drop_zero, List.reverse_cons, List.reverse_nil, List.length_cons, List.length_nil, Option.toList, true_and, and_true, eq_self, ↓reduceIte, not_true_eq_false, not_false_eq_true, true_or, or_true, List.append_eq, h1, ← e1]
  refine ⟨by unfold R32; omega, fun y => ?_, fun y => ?_⟩
  · rw [AtL.eq kl_1983]
    simp only [w_aload, w_iload, w_iconst, w_lconst, w_iadd, w_ialoads, w_call, w_istore, w_goto, w_fall, w_if, w_ifc, w_i2l, w_lcmp, w_zreturn, x_lald isA_316x, len_316x, cI, Int.reduceToNat, Option.toList, List.getElem?_cons_zero, List.getElem?_cons_succ, List.set_cons_zero, List.set_cons_succ, List.cons_append, List.nil_append, List.replicate_succ, List.replicate_zero, List.take_succ_cons, List.take_zero, List.drop_succ_cons, List.drop_zero, List.reverse_cons, List.reverse_nil, List.length_cons, List.length_nil, Option.toList, true_and, and_true, eq_self, ↓reduceIte, not_true_eq_false, not_false_eq_true, true_or, or_true, List.append_eq, h1, ← e1]
    exact hK r2 T m1 _ _ en.1 g
  · have y0 : c = 0 := by omega
    obtain ⟨q1, q2⟩ := p2 y0
    have e9 : T 316 0 = b := (congrFun en.2.1 0).trans q1
    simp only [e9, cmp_self]
    refine ⟨⟨by decide, by decide⟩, q2, ⟨R64_32 q2, R64_32 q2⟩, R32_00, fun _ => ?_, fun w => by simp at w⟩
    rw [AtL.eq kl_1983]
    simp only [w_aload, w_iload, w_iconst, w_lconst, w_iadd, w_ialoads, w_call, w_istore, w_goto, w_fall, w_if, w_ifc, w_i2l, w_lcmp, w_zreturn, x_lald isA_316x, len_316x, cI, Int.reduceToNat, Option.toList, List.getElem?_cons_zero, List.getElem?_cons_succ, List.set_cons_zero, List.set_cons_succ, List.cons_append, List.nil_append, List.replicate_succ, List.replicate_zero, List.take_succ_cons, List.take_zero, List.drop_succ_cons, List.drop_zero, List.reverse_cons, List.reverse_nil, List.length_cons, List.length_nil, Option.toList, true_and, and_true, eq_self, ↓reduceIte, not_true_eq_false, not_false_eq_true, true_or, or_true, List.append_eq, h1, ← e1]
    exact hK r2 T m1 _ _ en.1 g
theorem s_1986 (hX : tb.2.1 = strB) (hD : tb.1 2 = [vi 0, vn, vn, vn, vn, vn]) (h0 : 0 ≤ i) (h6 : i + 6 ≤ (tb.2.2.1 : Int)) (hf : ∀ j, R32 (tb.2.2.2 j)) : CASE tb (d + 80) K 1986 i := by
  intro r S m z5 z6 h hK
  have h1 : 0 ≤ i + 1 ∧ i + 1 < (tb.2.2.1 : Int) := by omega
  have g1 := hf (i + 1).toNat
  obtain ⟨x1, e1⟩ : ∃ x, x = tb.2.2.2 (i + 1).toNat := ⟨_, rfl⟩
  rw [← e1] at g1
  have h2 : 0 ≤ i + 2 ∧ i + 2 < (tb.2.2.1 : Int) := by omega
  have g2 := hf (i + 2).toNat
  obtain ⟨x2, e2⟩ : ∃ x, x = tb.2.2.2 (i + 2).toNat := ⟨_, rfl⟩
  rw [← e2] at g2
  rw [AtL.eq kl_1986]
  simp only [w_aload, w_iload, w_iconst, w_lconst, w_iadd, w_ialoads, w_call, w_istore, w_goto, w_fall, w_if, w_ifc, w_i2l, w_lcmp, w_zreturn, x_lald isA_316x, len_316x, cI, Int.reduceToNat, Option.toList, List.getElem?_cons_zero, List.getElem?_cons_succ, List.set_cons_zero, List.set_cons_succ, List.cons_append, List.nil_append, List.replicate_succ, List.replicate_zero, List.take_succ_cons, List.take_zero, List.drop_succ_cons, List.drop_zero, List.reverse_cons, List.reverse_nil, List.length_cons, List.length_nil, Option.toList, true_and, and_true, eq_self, ↓reduceIte, not_true_eq_false, not_false_eq_true, true_or, or_true, List.append_eq, h1, ← e1, h2, ← e2]
  refine ⟨⟨by omega, by omega⟩, ?_⟩
  refine (y_372 (p_175 g1 g2 hX h)) (d + 8) _ (fun c S1 m1 c0 c3 g lr => ?_)
  simp only [w_aload, w_iload, w_iconst, w_lconst, w_iadd, w_ialoads, w_call, w_istore, w_goto, w_fall, w_if, w_ifc, w_i2l, w_lcmp, w_zreturn, x_lald isA_316x, len_316x, cI, Int.reduceToNat, Option.toList, List.getElem?_cons_zero, List.getElem?_cons_succ, List.set_cons_zero, List.set_cons_succ, List.cons_append, List.nil_append, List.replicate_succ, List.replicate_zero, List.take_succ_cons, List.take_zero, List.drop_succ_cons, List.drop_zero, List.reverse_cons, List.reverse_nil, List.length_cons, List.length_nil, Option.toList, true_and, and_true, eq_self, ↓reduceIte, not_true_eq_false, not_false_eq_true, true_or, or_true, List.append_eq, h1, ← e1, h2, ← e2]
  refine ⟨⟨by omega, by omega⟩, ?_⟩
  refine lr (d + 10) _ (fun T b r2 th en p => ?_)
  obtain ⟨p1, p2⟩ := p
  simp only [w_aload, w_iload, w_iconst, w_lconst, w_iadd, w_ialoads, w_call, w_istore, w_goto, w_fall, w_if, w_ifc, w_i2l, w_lcmp, w_zreturn, x_lald isA_316x, len_316x, cI, Int.reduceToNat, Option.toList, List.getElem?_cons_zero, List.getElem?_cons_succ, List.set_cons_zero, List.set_cons_succ, List.cons_append, List.nil_append, List.replicate_succ, List.replicate_zero, List.take_succ_cons, List.take_zero, List.drop_succ_cons, List.drop_zero, List.reverse_cons, List.reverse_nil, List.length_cons, List.length_nil, Option.toList, true_and, and_true, eq_self, ↓reduceIte, not_true_eq_false, not_false_eq_true, true_or, or_true, List.append_eq, h1, ← e1, h2, ← e2]
  refine ⟨⟨by omega, by omega⟩, ?_⟩
  refine q_199 (d := d + 79) ?_
  simp only [w_aload, w_iload, w_iconst, w_lconst, w_iadd, w_ialoads, w_call, w_istore, w_goto, w_fall, w_if, w_ifc, w_i2l, w_lcmp, w_zreturn, x_lald isA_316x, len_316x, cI, Int.reduceToNat, Option.toList, List.getElem?_cons_zero, List.getElem?_cons_succ, List.set_cons_zero, List.set_cons_succ, List.cons_append, List.nil_append, List.replicate_succ, List.replicate_zero, List.take_succ_cons, List.take_zero, List.drop_succ_cons, List.drop_zero, List.reverse_cons, List.reverse_nil, List.length_cons, List.length_nil, Option.toList, true_and, and_true, eq_self, ↓reduceIte, not_true_eq_false, not_false_eq_true, true_or, or_true, List.append_eq, h1, ← e1, h2, ← e2]
  have e7 : T 300 0 = c := en.2.2.trans p1
  refine ⟨Or.inr e7, fun _ => ?_, fun w => absurd e7 w⟩
  rw [AtL.eq kl_2034]
  simp only [w_aload, w_iload, w_iconst, w_lconst, w_iadd, w_ialoads, w_call, w_istore, w_goto, w_fall, w_if, w_ifc, w_i2l, w_lcmp, w_zreturn, x_lald isA_316x, len_316x, cI, Int.reduceToNat, Option.toList, List.getElem?_cons_zero, List.getElem?_cons_succ, List.set_cons_zero, List.set_cons_succ, List.cons_append, List.nil_append, List.replicate_succ, List.replicate_zero, List.take_succ_cons, List.take_zero, List.drop_succ_cons, List.drop_zero, List.reverse_cons, List.reverse_nil, List.length_cons, List.length_nil, Option.toList, true_and, and_true, eq_self, ↓reduceIte, not_true_eq_false, not_false_eq_true, true_or, or_true, List.append_eq, h1, ← e1, h2, ← e2]
  refine ⟨by unfold R32; omega, fun y => ?_, fun y => ?_⟩
  · rw [AtL.eq kl_2051]
    simp only [w_aload, w_iload, w_iconst, w_lconst, w_iadd, w_ialoads, w_call, w_istore, w_goto, w_fall, w_if, w_ifc, w_i2l, w_lcmp, w_zreturn, x_lald isA_316x, len_316x, cI, Int.reduceToNat, Option.toList, List.getElem?_cons_zero, List.getElem?_cons_succ, List.set_cons_zero, List.set_cons_succ, List.cons_append, List.nil_append, List.replicate_succ, List.replicate_zero, List.take_succ_cons, List.take_zero, List.drop_succ_cons, List.drop_zero, List.reverse_cons, List.reverse_nil, List.length_cons, List.length_nil, Option.toList, true_and, and_true, eq_self, ↓reduceIte, not_true_eq_false, not_false_eq_true, true_or, or_true, List.append_eq, h1, ← e1, h2, ← e2]
    exact hK r2 T m1 _ _ en.1 g
  · have y0 : c = 0 := by omega
    obtain ⟨q1, q2⟩ := p2 y0
    have e9 : T 316 0 = b := (congrFun en.2.1 0).trans q1
    simp only [e9, cmp_self]
    refine ⟨⟨by decide, by decide⟩, q2, ⟨R64_32 q2, R64_32 q2⟩, R32_00, fun _ => ?_, fun w => by simp at w⟩
    rw [AtL.eq kl_2051]
    simp only [w_aload, w_iload, w_iconst, w_lconst, w_iadd, w_ialoads, w_call, w_istore, w_goto, w_fall, w_if, w_ifc, w_i2l, w_lcmp, w_zreturn, x_lald isA_316x, len_316x, cI, Int.reduceToNat, Option.toList, List.getElem?_cons_zero, List.getElem?_cons_succ, List.set_cons_zero, List.set_cons_succ, List.cons_append, List.nil_append, List.replicate_succ, List.replicate_zero, List.take_succ_cons, List.take_zero, List.drop_succ_cons, List.drop_zero, List.reverse_cons, List.reverse_nil, List.length_cons, List.length_nil, Option.toList, true_and, and_true, eq_self, ↓reduceIte, not_true_eq_false, not_false_eq_true, true_or, or_true, List.append_eq, h1, ← e1, h2, ← e2]
    exact hK r2 T m1 _ _ en.1 g
theorem s_2054 (hX : tb.2.1 = strB) (hD : tb.1 2 = [vi 0, vn, vn, vn, vn, vn]) (h0 : 0 ≤ i) (h6 : i + 6 ≤ (tb.2.2.1 : Int)) (hf : ∀ j, R32 (tb.2.2.2 j)) : CASE tb (d + 80) K 2054 i := by
  intro r S m z5 z6 h hK
  have h1 : 0 ≤ i + 1 ∧ i + 1 < (tb.2.2.1 : Int) := by omega
  have g1 := hf (i + 1).toNat
  obtain ⟨x1, e1⟩ : ∃ x, x = tb.2.2.2 (i + 1).toNat := ⟨_, rfl⟩
  rw [← e1] at g1
  have h2 : 0 ≤ i + 2 ∧ i + 2 < (tb.2.2.1 : Int) := by omega
  have g2 := hf (i + 2).toNat
  obtain ⟨x2, e2⟩ : ∃ x, x = tb.2.2.2 (i + 2).toNat := ⟨_, rfl⟩
  rw [← e2] at g2
  rw [AtL.eq kl_2054]
  simp only [w_aload, w_iload, w_iconst, w_lconst, w_iadd, w_ialoads, w_call, w_istore, w_goto, w_fall, w_if, w_ifc, w_i2l, w_lcmp, w_zreturn, x_lald isA_316x, len_316x, cI, Int.reduceToNat, Option.toList, List.getElem?_cons_zero, List.getElem?_cons_succ, List.set_cons_zero, List.set_cons_succ, List.cons_append, List.nil_append, List.replicate_succ, List.replicate_zero, List.take_succ_cons, List.take_zero, List.drop_succ_cons, List.drop_zero, List.reverse_cons, List.reverse_nil, List.length_cons, List.length_nil, Option.toList, true_and, and_true, eq_self, ↓reduceIte, not_true_eq_false, not_false_eq_true, true_or, or_true, List.append_eq, h1, ← e1, h2, ← e2]
  refine ⟨⟨by omega, by omega⟩, ?_⟩
  refine (y_373 (p_177 g1 g2 hX h)) (d + 8) _ (fun c S1 m1 c0 c3 g lr => ?_)
  simp only [w_aload, w_iload, w_iconst, w_lconst, w_iadd, w_ialoads, w_call, w_istore, w_goto, w_fall, w_if, w_ifc, w_i2l, w_lcmp, w_zreturn, x_lald isA_316x, len_316x, cI, Int.reduceToNat, Option.toList, List.getElem?_cons_zero, List.getElem?_cons_succ, List.set_cons_zero, List.set_cons_succ, List.cons_append, List.nil_append, List.replicate_succ, List.replicate_zero, List.take_succ_cons, List.take_zero, List.drop_succ_cons, List.drop_zero, List.reverse_cons, List.reverse_nil, List.length_cons, List.length_nil, Option.toList, true_and, and_true, eq_self, ↓reduceIte, not_true_eq_false, not_false_eq_true, true_or, or_true, List.append_eq, h1, ← e1, h2, ← e2]
  refine ⟨⟨by omega, by omega⟩, ?_⟩
  refine lr (d + 10) _ (fun T b r2 th en p => ?_)
  obtain ⟨p1, p2⟩ := p
  simp only [w_aload, w_iload, w_iconst, w_lconst, w_iadd, w_ialoads, w_call, w_istore, w_goto, w_fall, w_if, w_ifc, w_i2l, w_lcmp, w_zreturn, x_lald isA_316x, len_316x, cI, Int.reduceToNat, Option.toList, List.getElem?_cons_zero, List.getElem?_cons_succ, List.set_cons_zero, List.set_cons_succ, List.cons_append, List.nil_append, List.replicate_succ, List.replicate_zero, List.take_succ_cons, List.take_zero, List.drop_succ_cons, List.drop_zero, List.reverse_cons, List.reverse_nil, List.length_cons, List.length_nil, Option.toList, true_and, and_true, eq_self, ↓reduceIte, not_true_eq_false, not_false_eq_true, true_or, or_true, List.append_eq, h1, ← e1, h2, ← e2]
  refine ⟨⟨by omega, by omega⟩, ?_⟩
  refine q_199 (d := d + 79) ?_
  simp only [w_aload, w_iload, w_iconst, w_lconst, w_iadd, w_ialoads, w_call, w_istore, w_goto, w_fall, w_if, w_ifc, w_i2l, w_lcmp, w_zreturn, x_lald isA_316x, len_316x, cI, Int.reduceToNat, Option.toList, List.getElem?_cons_zero, List.getElem?_cons_succ, List.set_cons_zero, List.set_cons_succ, List.cons_append, List.nil_append, List.replicate_succ, List.replicate_zero, List.take_succ_cons, List.take_zero, List.drop_succ_cons, List.drop_zero, List.reverse_cons, List.reverse_nil, List.length_cons, List.length_nil, Option.toList, true_and, and_true, eq_self, ↓reduceIte, not_true_eq_false, not_false_eq_true, true_or, or_true, List.append_eq, h1, ← e1, h2, ← e2]
  have e7 : T 300 0 = c := en.2.2.trans p1
  refine ⟨Or.inr e7, fun _ => ?_, fun w => absurd e7 w⟩
  rw [AtL.eq kl_2102]
  simp only [w_aload, w_iload, w_iconst, w_lconst, w_iadd, w_ialoads, w_call, w_istore, w_goto, w_fall, w_if, w_ifc, w_i2l, w_lcmp, w_zreturn, x_lald isA_316x, len_316x, cI, Int.reduceToNat, Option.toList, List.getElem?_cons_zero, List.getElem?_cons_succ, List.set_cons_zero, List.set_cons_succ, List.cons_append, List.nil_append, List.replicate_succ, List.replicate_zero, List.take_succ_cons, List.take_zero, List.drop_succ_cons, List.drop_zero, List.reverse_cons, List.reverse_nil, List.length_cons, List.length_nil, Option.toList, true_and, and_true, eq_self, ↓reduceIte, not_true_eq_false, not_false_eq_true, true_or, or_true, List.append_eq, h1, ← e1, h2, ← e2]
  refine ⟨by unfold R32; omega, fun y => ?_, fun y => ?_⟩
  · rw [AtL.eq kl_2119]
    simp only [w_aload, w_iload, w_iconst, w_lconst, w_iadd, w_ialoads, w_call, w_istore, w_goto, w_fall, w_if, w_ifc, w_i2l, w_lcmp, w_zreturn, x_lald isA_316x, len_316x, cI, Int.reduceToNat, Option.toList, List.getElem?_cons_zero, List.getElem?_cons_succ, List.set_cons_zero, List.set_cons_succ, List.cons_append, List.nil_append, List.replicate_succ, List.replicate_zero, List.take_succ_cons, List.take_zero, List.drop_succ_cons, List.drop_zero, List.reverse_cons, List.reverse_nil, List.length_cons, List.length_nil, Option.toList, true_and, and_true, eq_self, ↓reduceIte, not_true_eq_false, not_false_eq_true, true_or, or_true, List.append_eq, h1, ← e1, h2, ← e2]
    exact hK r2 T m1 _ _ en.1 g
  · have y0 : c = 0 := by omega
    obtain ⟨q1, q2⟩ := p2 y0
    have e9 : T 316 0 = b := (congrFun en.2.1 0).trans q1
    simp only [e9, cmp_self]
    refine ⟨⟨by decide, by decide⟩, q2, ⟨R64_32 q2, R64_32 q2⟩, R32_00, fun _ => ?_, fun w => by simp at w⟩
    rw [AtL.eq kl_2119]
    simp only [w_aload, w_iload, w_iconst, w_lconst, w_iadd, w_ialoads, w_call, w_istore, w_goto, w_fall, w_if, w_ifc, w_i2l, w_lcmp, w_zreturn, x_lald isA_316x, len_316x, cI, Int.reduceToNat, Option.toList, List.getElem?_cons_zero, List.getElem?_cons_succ, List.set_cons_zero, List.set_cons_succ, List.cons_append, List.nil_append, List.replicate_succ, List.replicate_zero, List.take_succ_cons, List.take_zero, List.drop_succ_cons, List.drop_zero, List.reverse_cons, List.reverse_nil, List.length_cons, List.length_nil, Option.toList, true_and, and_true, eq_self, ↓reduceIte, not_true_eq_false, not_false_eq_true, true_or, or_true, List.append_eq, h1, ← e1, h2, ← e2]
    exact hK r2 T m1 _ _ en.1 g
theorem s_2122 (hX : tb.2.1 = strB) (hD : tb.1 2 = [vi 0, vn, vn, vn, vn, vn]) (h0 : 0 ≤ i) (h6 : i + 6 ≤ (tb.2.2.1 : Int)) (hf : ∀ j, R32 (tb.2.2.2 j)) : CASE tb (d + 80) K 2122 i := by
  intro r S m z5 z6 h hK
  have h1 : 0 ≤ i + 1 ∧ i + 1 < (tb.2.2.1 : Int) := by omega
  have g1 := hf (i + 1).toNat
  obtain ⟨x1, e1⟩ : ∃ x, x = tb.2.2.2 (i + 1).toNat := ⟨_, rfl⟩
  rw [← e1] at g1
  have h2 : 0 ≤ i + 2 ∧ i + 2 < (tb.2.2.1 : Int) := by omega
  have g2 := hf (i + 2).toNat
  obtain ⟨x2, e2⟩ : ∃ x, x = tb.2.2.2 (i + 2).toNat := ⟨_, rfl⟩
  rw [← e2] at g2
  rw [AtL.eq kl_2122]
  simp only [w_aload, w_iload, w_iconst, w_lconst, w_iadd, w_ialoads, w_call, w_istore, w_goto, w_fall, w_if, w_ifc, w_i2l, w_lcmp, w_zreturn, x_lald isA_316x, len_316x, cI, Int.reduceToNat, Option.toList, List.getElem?_cons_zero, List.getElem?_cons_succ, List.set_cons_zero, List.set_cons_succ, List.cons_append, List.nil_append, List.replicate_succ, List.replicate_zero, List.take_succ_cons, List.take_zero, List.drop_succ_cons, List.drop_zero, List.reverse_cons, List.reverse_nil, List.length_cons, List.length_nil, Option.toList, true_and, and_true, eq_self, ↓reduceIte, not_true_eq_false, not_false_eq_true, true_or, or_true, List.append_eq, h1, ← e1, h2, ← e2]
  refine ⟨⟨by omega, by omega⟩, ?_⟩
  refine (y_374 (p_180 g1 g2 hX h)) (d + 8) _ (fun c S1 m1 c0 c3 g lr => ?_)
  simp only [w_aload, w_iload, w_iconst, w_lconst, w_iadd, w_ialoads, w_call, w_istore, w_goto, w_fall, w_if, w_ifc, w_i2l, w_lcmp, w_zreturn, x_lald isA_316x, len_316x, cI, Int.reduceToNat, Option.toList, List.getElem?_cons_zero, List.getElem?_cons_succ, List.set_cons_zero, List.set_cons_succ, List.cons_append, List.nil_append, List.replicate_succ, List.replicate_zero, List.take_succ_cons, List.take_zero, List.drop_succ_cons, List.drop_zero, List.reverse_cons, List.reverse_nil, List.length_cons, List.length_nil, Option.toList, true_and, and_true, eq_self, ↓reduceIte, not_true_eq_false, not_false_eq_true, true_or, or_true, List.append_eq, h1, ← e1, h2, ← e2]
  refine ⟨⟨by omega, by omega⟩, ?_⟩
  refine lr (d + 10) _ (fun T b r2 th en p => ?_)
  obtain ⟨p1, p2⟩ := p
  simp only [w_aload, w_iload, w_iconst, w_lconst, w_iadd, w_ialoads, w_call, w_istore, w_goto, w_fall, w_if, w_ifc, w_i2l, w_lcmp, w_zreturn, x_lald isA_316x, len_316x, cI, Int.reduceToNat, Option.toList, List.getElem?_cons_zero, List.getElem?_cons_succ, List.set_cons_zero, List.set_cons_succ, List.cons_append, List.nil_append, List.replicate_succ, List.replicate_zero, List.take_succ_cons, List.take_zero, List.drop_succ_cons, List.drop_zero, List.reverse_cons, List.reverse_nil, List.length_cons, List.length_nil, Option.toList, true_and, and_true, eq_self, ↓reduceIte, not_true_eq_false, not_false_eq_true, true_or, or_true, List.append_eq, h1, ← e1, h2, ← e2]
  refine ⟨⟨by omega, by omega⟩, ?_⟩
  refine q_199 (d := d + 79) ?_
  simp only [w_aload, w_iload, w_iconst, w_lconst, w_iadd, w_ialoads, w_call, w_istore, w_goto, w_fall, w_if, w_ifc, w_i2l, w_lcmp, w_zreturn, x_lald isA_316x, len_316x, cI, Int.reduceToNat, Option.toList, List.getElem?_cons_zero, List.getElem?_cons_succ, List.set_cons_zero, List.set_cons_succ, List.cons_append, List.nil_append, List.replicate_succ, List.replicate_zero, List.take_succ_cons, List.take_zero, List.drop_succ_cons, List.drop_zero, List.reverse_cons, List.reverse_nil, List.length_cons, List.length_nil, Option.toList, true_and, and_true, eq_self, ↓reduceIte, not_true_eq_false, not_false_eq_true, true_or, or_true, List.append_eq, h1, ← e1, h2, ← e2]
  have e7 : T 300 0 = c := en.2.2.trans p1
  refine ⟨Or.inr e7, fun _ => ?_, fun w => absurd e7 w⟩
  rw [AtL.eq kl_2170]
  simp only [w_aload, w_iload, w_iconst, w_lconst, w_iadd, w_ialoads, w_call, w_istore, w_goto, w_fall, w_if, w_ifc, w_i2l, w_lcmp, w_zreturn, x_lald isA_316x, len_316x, cI, Int.reduceToNat, Option.toList, List.getElem?_cons_zero, List.getElem?_cons_succ, List.set_cons_zero, List.set_cons_succ, List.cons_append, List.nil_append, List.replicate_succ, List.replicate_zero, List.take_succ_cons, List.take_zero, List.drop_succ_cons, List.drop_zero, List.reverse_cons, List.reverse_nil, List.length_cons, List.length_nil, Option.toList, true_and, and_true, eq_self, ↓reduceIte, not_true_eq_false, not_false_eq_true, true_or, or_true, List.append_eq, h1, ← e1, h2, ← e2]
  refine ⟨by unfold R32; omega, fun y => ?_, fun y => ?_⟩
  · rw [AtL.eq kl_2187]
    simp only [w_aload, w_iload, w_iconst, w_lconst, w_iadd, w_ialoads, w_call, w_istore, w_goto, w_fall, w_if, w_ifc, w_i2l, w_lcmp, w_zreturn, x_lald isA_316x, len_316x, cI, Int.reduceToNat, Option.toList, List.getElem?_cons_zero, List.getElem?_cons_succ, List.set_cons_zero, List.set_cons_succ, List.cons_append, List.nil_append, List.replicate_succ, List.replicate_zero, List.take_succ_cons, List.take_zero, List.drop_succ_cons, List.drop_zero, List.reverse_cons, List.reverse_nil, List.length_cons, List.length_nil, Option.toList, true_and, and_true, eq_self, ↓reduceIte, not_true_eq_false, not_false_eq_true, true_or, or_true, List.append_eq, h1, ← e1, h2, ← e2]
    exact hK r2 T m1 _ _ en.1 g
  · have y0 : c = 0 := by omega
    obtain ⟨q1, q2⟩ := p2 y0
    have e9 : T 316 0 = b := (congrFun en.2.1 0).trans q1
    simp only [e9, cmp_self]
    refine ⟨⟨by decide, by decide⟩, q2, ⟨R64_32 q2, R64_32 q2⟩, R32_00, fun _ => ?_, fun w => by simp at w⟩
    rw [AtL.eq kl_2187]
    simp only [w_aload, w_iload, w_iconst, w_lconst, w_iadd, w_ialoads, w_call, w_istore, w_goto, w_fall, w_if, w_ifc, w_i2l, w_lcmp, w_zreturn, x_lald isA_316x, len_316x, cI, Int.reduceToNat, Option.toList, List.getElem?_cons_zero, List.getElem?_cons_succ, List.set_cons_zero, List.set_cons_succ, List.cons_append, List.nil_append, List.replicate_succ, List.replicate_zero, List.take_succ_cons, List.take_zero, List.drop_succ_cons, List.drop_zero, List.reverse_cons, List.reverse_nil, List.length_cons, List.length_nil, Option.toList, true_and, and_true, eq_self, ↓reduceIte, not_true_eq_false, not_false_eq_true, true_or, or_true, List.append_eq, h1, ← e1, h2, ← e2]
    exact hK r2 T m1 _ _ en.1 g
theorem s_2190 (hX : tb.2.1 = strB) (hD : tb.1 2 = [vi 0, vn, vn, vn, vn, vn]) (h0 : 0 ≤ i) (h6 : i + 6 ≤ (tb.2.2.1 : Int)) (hf : ∀ j, R32 (tb.2.2.2 j)) : CASE tb (d + 80) K 2190 i := by
  intro r S m z5 z6 h hK
  have h1 : 0 ≤ i + 1 ∧ i + 1 < (tb.2.2.1 : Int) := by omega
  have g1 := hf (i + 1).toNat
  obtain ⟨x1, e1⟩ : ∃ x, x = tb.2.2.2 (i + 1).toNat := ⟨_, rfl⟩
  rw [← e1] at g1
  rw [AtL.eq kl_2190]
  simp only [w_aload, w_iload, w_iconst, w_lconst, w_iadd, w_ialoads, w_call, w_istore, w_goto, w_fall, w_if, w_ifc, w_i2l, w_lcmp, w_zreturn, x_lald isA_316x, len_316x, cI, Int.reduceToNat, Option.toList, List.getElem?_cons_zero, List.getElem?_cons_succ, List.set_cons_zero, List.set_cons_succ, List.cons_append, List.nil_append, List.replicate_succ, List.replicate_zero, List.take_succ_cons, List.take_zero, List.drop_succ_cons, List.drop_zero, List.reverse_cons, List.reverse_nil, List.length_cons, List.length_nil, Option.toList, true_and, and_true, eq_self, ↓reduceIte, not_true_eq_false, not_false_eq_true, true_or, or_true, List.append_eq, h1, ← e1]
  refine ⟨⟨by omega, by omega⟩, ?_⟩
  refine (y_375 (p_181 g1 hX h)) (d + 8) _ (fun c S1 m1 c0 c3 g lr => ?_)
  simp only [w_aload, w_iload, w_iconst, w_lconst, w_iadd, w_ialoads, w_call, w_istore, w_goto, w_fall, w_if, w_ifc, w_i2l, w_lcmp, w_zreturn, x_lald isA_316x, len_316x, cI, Int.reduceToNat, Option.toList, List.getElem?_cons_zero, List.getElem?_cons_succ, List.set_cons_zero, List.set_cons_succ, List.cons_append, List.nil_append, List.replicate_succ, List.replicate_zero, List.take_succ_cons, List.take_zero, List.drop_succ_cons, List.drop_zero, List.reverse_cons, List.reverse_nil, List.length_cons, List.length_nil, Option.toList, true_and, and_true, eq_self, ↓reduceIte, not_true_eq_false, not_false_eq_true, true_or, or_true, List.append_eq, h1, ← e1]
  refine ⟨⟨by omega, by omega⟩, ?_⟩
  refine lr (d + 10) _ (fun T b r2 th en p => ?_)
  obtain ⟨p1, p2⟩ := p
  simp only [w_aload, w_iload, w_iconst, w_lconst, w_iadd, w_ialoads, w_call, w_istore, w_goto, w_fall, w_if, w_ifc, w_i2l, w_lcmp, w_zreturn, x_lald isA_316x, len_316x, cI, Int.reduceToNat, Option.toList, List.getElem?_cons_zero, List.getElem?_cons_succ, List.set_cons_zero, List.set_cons_succ, List.cons_append, List.nil_append, List.replicate_succ, List.replicate_zero, List.take_succ_cons, List.take_zero, List.drop_succ_cons, List.drop_zero, List.reverse_cons, List.reverse_nil, List.length_cons, List.length_nil, Option.toList, true_and, and_true, eq_self, ↓reduceIte, not_true_eq_false, not_false_eq_true, true_or, or_true, List.append_eq, h1, ← e1]
  refine ⟨⟨by omega, by omega⟩, ?_⟩
  refine q_199 (d := d + 79) ?_
  simp only [w_aload, w_iload, w_iconst, w_lconst, w_iadd, w_ialoads, w_call, w_istore, w_goto, w_fall, w_if, w_ifc, w_i2l, w_lcmp, w_zreturn, x_lald isA_316x, len_316x, cI, Int.reduceToNat, Option.toList, List.getElem?_cons_zero, List.getElem?_cons_succ, List.set_cons_zero, List.set_cons_succ, List.cons_append, List.nil_append, List.replicate_succ, List.replicate_zero, List.take_succ_cons, List.take_zero, List.drop_succ_cons, List.drop_zero, List.reverse_cons, List.reverse_nil, List.length_cons, List.length_nil, Option.toList, true_and, and_true, eq_self, ↓reduceIte, not_true_eq_false, not_false_eq_true, true_or, or_true, List.append_eq, h1, ← e1]
  have e7 : T 300 0 = c := en.2.2.trans p1
  refine ⟨Or.inr e7, fun _ => ?_, fun w => absurd e7 w⟩
  rw [AtL.eq kl_2226]
  simp only [w_aload, w_iload, w_iconst, w_lconst, w_iadd, w_ialoads, w_call, w_istore, w_goto, w_fall, w_if, w_ifc, w_i2l, w_lcmp, w_zreturn, x_lald isA_316x, len_316x, cI, Int.reduceToNat, Option.toList, List.getElem?_cons_zero, List.getElem?_cons_succ, List.set_cons_zero, List.set_cons_succ, List.cons_append, List.nil_append, List.replicate_succ, List.replicate_zero, List.take_succ_cons, List.take_zero, List.drop_succ_cons, List.drop_zero, List.reverse_cons, List.reverse_nil, List.length_cons, List.length_nil, Option.toList, true_and, and_true, eq_self, ↓reduceIte, not_true_eq_false, not_false_eq_true, true_or, or_true, List.append_eq, h1, ← e1]
  refine ⟨by unfold R32; omega, fun y => ?_, fun y => ?_⟩
  · rw [AtL.eq kl_2243]
    simp only [w_aload, w_iload, w_iconst, w_lconst, w_iadd, w_ialoads, w_call, w_istore, w_goto, w_fall, w_if, w_ifc, w_i2l, w_lcmp, w_zreturn, x_lald isA_316x, len_316x, cI, Int.reduceToNat, Option.toList, List.getElem?_cons_zero, List.getElem?_cons_succ, List.set_cons_zero, List.set_cons_succ, List.cons_append, List.nil_append, List.replicate_succ, List.replicate_zero, List.take_succ_cons, List.take_zero, List.drop_succ_cons, List.drop_zero, List.reverse_cons, List.reverse_nil, List.length_cons, List.length_nil, Option.toList, true_and, and_true, eq_self, ↓reduceIte, not_true_eq_false, not_false_eq_true, true_or, or_true, List.append_eq, h1, ← e1]
    exact hK r2 T m1 _ _ en.1 g
  · have y0 : c = 0 := by omega
    obtain ⟨q1, q2⟩ := p2 y0
    have e9 : T 316 0 = b := (congrFun en.2.1 0).trans q1
    simp only [e9, cmp_self]
    refine ⟨⟨by decide, by decide⟩, q2, ⟨R64_32 q2, R64_32 q2⟩, R32_00, fun _ => ?_, fun w => by simp at w⟩
    rw [AtL.eq kl_2243]
    simp only [w_aload, w_iload, w_iconst, w_lconst, w_iadd, w_ialoads, w_call, w_istore, w_goto, w_fall, w_if, w_ifc, w_i2l, w_lcmp, w_zreturn, x_lald isA_316x, len_316x, cI, Int.reduceToNat, Option.toList, List.getElem?_cons_zero, List.getElem?_cons_succ, List.set_cons_zero, List.set_cons_succ, List.cons_append, List.nil_append, List.replicate_succ, List.replicate_zero, List.take_succ_cons, List.take_zero, List.drop_succ_cons, List.drop_zero, List.reverse_cons, List.reverse_nil, List.length_cons, List.length_nil, Option.toList, true_and, and_true, eq_self, ↓reduceIte, not_true_eq_false, not_false_eq_true, true_or, or_true, List.append_eq, h1, ← e1]
    exact hK r2 T m1 _ _ en.1 g
theorem s_2246 (hX : tb.2.1 = strB) (hD : tb.1 2 = [vi 0, vn, vn, vn, vn, vn]) (h0 : 0 ≤ i) (h6 : i + 6 ≤ (tb.2.2.1 : Int)) (hf : ∀ j, R32 (tb.2.2.2 j)) : CASE tb (d + 80) K 2246 i := by
  intro r S m z5 z6 h hK
  have h1 : 0 ≤ i + 1 ∧ i + 1 < (tb.2.2.1 : Int) := by omega
  have g1 := hf (i + 1).toNat
  obtain ⟨x1, e1⟩ : ∃ x, x = tb.2.2.2 (i + 1).toNat := ⟨_, rfl⟩
  rw [← e1] at g1
  rw [AtL.eq kl_2246]
  simp only [w_aload, w_iload, w_iconst, w_lconst, w_iadd, w_ialoads, w_call, w_istore, w_goto, w_fall, w_if, w_ifc, w_i2l, w_lcmp, w_zreturn, x_lald isA_316x, len_316x, cI, Int.reduceToNat, Option.toList, List.getElem?_cons_zero, List.getElem?_cons_succ, List.set_cons_zero, List.set_cons_succ, List.cons_append, List.nil_append, List.replicate_succ, List.replicate_zero, List.take_succ_cons, List.take_zero, List.drop_succ_cons, List.drop_zero, List.reverse_cons, List.reverse_nil, List.length_cons, List.length_nil, Option.toList, true_and, and_true, eq_self, ↓reduceIte, not_true_eq_false, not_false_eq_true, true_or, or_true, List.append_eq, h1, ← e1]
  by_cases z : x1 = 0
  · refine ⟨g1, fun y => ?_, fun y => absurd z y⟩
    rw [AtL.eq kl_2260]
    simp only [w_aload, w_iload, w_iconst, w_lconst, w_iadd, w_ialoads, w_call, w_istore, w_goto, w_fall, w_if, w_ifc, w_i2l, w_lcmp, w_zreturn, x_lald isA_316x, len_316x, cI, Int.reduceToNat, Option.toList, List.getElem?_cons_zero, List.getElem?_cons_succ, List.set_cons_zero, List.set_cons_succ, List.cons_append, List.nil_append, List.replicate_succ, List.replicate_zero, List.take_succ_cons, List.take_zero, List.drop_succ_cons, List.drop_zero, List.reverse_cons, List.reverse_nil, List.length_cons, List.length_nil, Option.toList, true_and, and_true, eq_self, ↓reduceIte, not_true_eq_false, not_false_eq_true, true_or, or_true, List.append_eq, h1, ← e1]
    rw [AtL.eq kl_2261]
    simp only [w_aload, w_iload, w_iconst, w_lconst, w_iadd, w_ialoads, w_call, w_istore, w_goto, w_fall, w_if, w_ifc, w_i2l, w_lcmp, w_zreturn, x_lald isA_316x, len_316x, cI, Int.reduceToNat, Option.toList, List.getElem?_cons_zero, List.getElem?_cons_succ, List.set_cons_zero, List.set_cons_succ, List.cons_append, List.nil_append, List.replicate_succ, List.replicate_zero, List.take_succ_cons, List.take_zero, List.drop_succ_cons, List.drop_zero, List.reverse_cons, List.reverse_nil, List.length_cons, List.length_nil, Option.toList, true_and, and_true, eq_self, ↓reduceIte, not_true_eq_false, not_false_eq_true, true_or, or_true, List.append_eq, h1, ← e1]
    refine ⟨⟨by omega, by omega⟩, ?_⟩
    refine (p_185 (w := 0) (by unfold R32; decide) hX h) (d + 10) _ (fun v S1 m1 _ g nx => ?_) (fun E c S1 m1 he _ _ => by simp at he)
    simp only [w_aload, w_iload, w_iconst, w_lconst, w_iadd, w_ialoads, w_call, w_istore, w_goto, w_fall, w_if, w_ifc, w_i2l, w_lcmp, w_zreturn, x_lald isA_316x, len_316x, cI, Int.reduceToNat, Option.toList, List.getElem?_cons_zero, List.getElem?_cons_succ, List.set_cons_zero, List.set_cons_succ, List.cons_append, List.nil_append, List.replicate_succ, List.replicate_zero, List.take_succ_cons, List.take_zero, List.drop_succ_cons, List.drop_zero, List.reverse_cons, List.reverse_nil, List.length_cons, List.length_nil, Option.toList, true_and, and_true, eq_self, ↓reduceIte, not_true_eq_false, not_false_eq_true, true_or, or_true, List.append_eq, h1, ← e1]
    refine ⟨g1, fun y => ?_, fun y => absurd z y⟩
    rw [AtL.eq kl_2278]
    simp only [w_aload, w_iload, w_iconst, w_lconst, w_iadd, w_ialoads, w_call, w_istore, w_goto, w_fall, w_if, w_ifc, w_i2l, w_lcmp, w_zreturn, x_lald isA_316x, len_316x, cI, Int.reduceToNat, Option.toList, List.getElem?_cons_zero, List.getElem?_cons_succ, List.set_cons_zero, List.set_cons_succ, List.cons_append, List.nil_append, List.replicate_succ, List.replicate_zero, List.take_succ_cons, List.take_zero, List.drop_succ_cons, List.drop_zero, List.reverse_cons, List.reverse_nil, List.length_cons, List.length_nil, Option.toList, true_and, and_true, eq_self, ↓reduceIte, not_true_eq_false, not_false_eq_true, true_or, or_true, List.append_eq, h1, ← e1]
    rw [AtL.eq kl_2279]
    simp only [w_aload, w_iload, w_iconst, w_lconst, w_iadd, w_ialoads, w_call, w_istore, w_goto, w_fall, w_if, w_ifc, w_i2l, w_lcmp, w_zreturn, x_lald isA_316x, len_316x, cI, Int.reduceToNat, Option.toList, List.getElem?_cons_zero, List.getElem?_cons_succ, List.set_cons_zero, List.set_cons_succ, List.cons_append, List.nil_append, List.replicate_succ, List.replicate_zero, List.take_succ_cons, List.take_zero, List.drop_succ_cons, List.drop_zero, List.reverse_cons, List.reverse_nil, List.length_cons, List.length_nil, Option.toList, true_and, and_true, eq_self, ↓reduceIte, not_true_eq_false, not_false_eq_true, true_or, or_true, List.append_eq, h1, ← e1]
    refine ⟨⟨by omega, by omega⟩, ?_⟩
    refine nx S1 (fun _ _ => rfl) (d + 10) _ (fun T b r2 th en p => ?_)
    simp only [w_aload, w_iload, w_iconst, w_lconst, w_iadd, w_ialoads, w_call, w_istore, w_goto, w_fall, w_if, w_ifc, w_i2l, w_lcmp, w_zreturn, x_lald isA_316x, len_316x, cI, Int.reduceToNat, Option.toList, List.getElem?_cons_zero, List.getElem?_cons_succ, List.set_cons_zero, List.set_cons_succ, List.cons_append, List.nil_append, List.replicate_succ, List.replicate_zero, List.take_succ_cons, List.take_zero, List.drop_succ_cons, List.drop_zero, List.reverse_cons, List.reverse_nil, List.length_cons, List.length_nil, Option.toList, true_and, and_true, eq_self, ↓reduceIte, not_true_eq_false, not_false_eq_true, true_or, or_true, List.append_eq, h1, ← e1]
    refine ⟨Or.inr p.2.symm, fun _ => hK r2 T m1 _ _ en.1 g, fun w => absurd p.2.symm w⟩
  · refine ⟨g1, fun y => absurd y z, fun y => ?_⟩
    rw [AtL.eq kl_2261]
    simp only [w_aload, w_iload, w_iconst, w_lconst, w_iadd, w_ialoads, w_call, w_istore, w_goto, w_fall, w_if, w_ifc, w_i2l, w_lcmp, w_zreturn, x_lald isA_316x, len_316x, cI, Int.reduceToNat, Option.toList, List.getElem?_cons_zero, List.getElem?_cons_succ, List.set_cons_zero, List.set_cons_succ, List.cons_append, List.nil_append, List.replicate_succ, List.replicate_zero, List.take_succ_cons, List.take_zero, List.drop_succ_cons, List.drop_zero, List.reverse_cons, List.reverse_nil, List.length_cons, List.length_nil, Option.toList, true_and, and_true, eq_self, ↓reduceIte, not_true_eq_false, not_false_eq_true, true_or, or_true, List.append_eq, h1, ← e1]
    refine ⟨⟨by omega, by omega⟩, ?_⟩
    refine (p_185 (w := 1) (by unfold R32; decide) hX h) (d + 10) _ (fun v S1 m1 _ g nx => ?_) (fun E c S1 m1 he _ _ => by simp at he)
    simp only [w_aload, w_iload, w_iconst, w_lconst, w_iadd, w_ialoads, w_call, w_istore, w_goto, w_fall, w_if, w_ifc, w_i2l, w_lcmp, w_zreturn, x_lald isA_316x, len_316x, cI, Int.reduceToNat, Option.toList, List.getElem?_cons_zero, List.getElem?_cons_succ, List.set_cons_zero, List.set_cons_succ, List.cons_append, List.nil_append, List.replicate_succ, List.replicate_zero, List.take_succ_cons, List.take_zero, List.drop_succ_cons, List.drop_zero, List.reverse_cons, List.reverse_nil, List.length_cons, List.length_nil, Option.toList, true_and, and_true, eq_self, ↓reduceIte, not_true_eq_false, not_false_eq_true, true_or, or_true, List.append_eq, h1, ← e1]
    refine ⟨g1, fun y => absurd y z, fun y => ?_⟩
    rw [AtL.eq kl_2279]
    simp only [w_aload, w_iload, w_iconst, w_lconst, w_iadd, w_ialoads, w_call, w_istore, w_goto, w_fall, w_if, w_ifc, w_i2l, w_lcmp, w_zreturn, x_lald isA_316x, len_316x, cI, Int.reduceToNat, Option.toList, List.getElem?_cons_zero, List.getElem?_cons_succ, List.set_cons_zero, List.set_cons_succ, List.cons_append, List.nil_append, List.replicate_succ, List.replicate_zero, List.take_succ_cons, List.take_zero, List.drop_succ_cons, List.drop_zero, List.reverse_cons, List.reverse_nil, List.length_cons, List.length_nil, Option.toList, true_and, and_true, eq_self, ↓reduceIte, not_true_eq_false, not_false_eq_true, true_or, or_true, List.append_eq, h1, ← e1]
    refine ⟨⟨by omega, by omega⟩, ?_⟩
    refine nx S1 (fun _ _ => rfl) (d + 10) _ (fun T b r2 th en p => ?_)
    simp only [w_aload, w_iload, w_iconst, w_lconst, w_iadd, w_ialoads, w_call, w_istore, w_goto, w_fall, w_if, w_ifc, w_i2l, w_lcmp, w_zreturn, x_lald isA_316x, len_316x, cI, Int.reduceToNat, Option.toList, List.getElem?_cons_zero, List.getElem?_cons_succ, List.set_cons_zero, List.set_cons_succ, List.cons_append, List.nil_append, List.replicate_succ, List.replicate_zero, List.take_succ_cons, List.take_zero, List.drop_succ_cons, List.drop_zero, List.reverse_cons, List.reverse_nil, List.length_cons, List.length_nil, Option.toList, true_and, and_true, eq_self, ↓reduceIte, not_true_eq_false, not_false_eq_true, true_or, or_true, List.append_eq, h1, ← e1]
    refine ⟨Or.inr p.2.symm, fun _ => hK r2 T m1 _ _ en.1 g, fun w => absurd p.2.symm w⟩
theorem s_2287 (hX : tb.2.1 = strB) (hD : tb.1 2 = [vi 0, vn, vn, vn, vn, vn]) (h0 : 0 ≤ i) (h6 : i + 6 ≤ (tb.2.2.1 : Int)) (hf : ∀ j, R32 (tb.2.2.2 j)) : CASE tb (d + 80) K 2287 i := by
  intro r S m z5 z6 h hK
  rw [AtL.eq kl_2287]
  simp only [w_aload, w_iload, w_iconst, w_lconst, w_iadd, w_ialoads, w_call, w_istore, w_goto, w_fall, w_if, w_ifc, w_i2l, w_lcmp, w_zreturn, x_lald isA_316x, len_316x, cI, Int.reduceToNat, Option.toList, List.getElem?_cons_zero, List.getElem?_cons_succ, List.set_cons_zero, List.set_cons_succ, List.cons_append, List.nil_append, List.replicate_succ, List.replicate_zero, List.take_succ_cons, List.take_zero, List.drop_succ_cons, List.drop_zero, List.reverse_cons, List.reverse_nil, List.length_cons, List.length_nil, Option.toList, true_and, and_true, eq_self, ↓reduceIte, not_true_eq_false, not_false_eq_true, true_or, or_true, List.append_eq]
  refine ⟨⟨by omega, by omega⟩, ?_⟩
  refine (p_167 hX h) (d + 10) _ (fun v S1 m1 _ g nx => ?_) (fun E c S1 m1 he _ _ => by simp at he)
  simp only [w_aload, w_iload, w_iconst, w_lconst, w_iadd, w_ialoads, w_call, w_istore, w_goto, w_fall, w_if, w_ifc, w_i2l, w_lcmp, w_zreturn, x_lald isA_316x, len_316x, cI, Int.reduceToNat, Option.toList, List.getElem?_cons_zero, List.getElem?_cons_succ, List.set_cons_zero, List.set_cons_succ, List.cons_append, List.nil_append, List.replicate_succ, List.replicate_zero, List.take_succ_cons, List.take_zero, List.drop_succ_cons, List.drop_zero, List.reverse_cons, List.reverse_nil, List.length_cons, List.length_nil, Option.toList, true_and, and_true, eq_self, ↓reduceIte, not_true_eq_false, not_false_eq_true, true_or, or_true, List.append_eq]
  refine ⟨⟨by omega, by omega⟩, ?_⟩
  refine nx S1 (fun _ _ => rfl) (d + 10) _ (fun T b r2 th en p => ?_)
  simp only [w_aload, w_iload, w_iconst, w_lconst, w_iadd, w_ialoads, w_call, w_istore, w_goto, w_fall, w_if, w_ifc, w_i2l, w_lcmp, w_zreturn, x_lald isA_316x, len_316x, cI, Int.reduceToNat, Option.toList, List.getElem?_cons_zero, List.getElem?_cons_succ, List.set_cons_zero, List.set_cons_succ, List.cons_append, List.nil_append, List.replicate_succ, List.replicate_zero, List.take_succ_cons, List.take_zero, List.drop_succ_cons, List.drop_zero, List.reverse_cons, List.reverse_nil, List.length_cons, List.length_nil, Option.toList, true_and, and_true, eq_self, ↓reduceIte, not_true_eq_false, not_false_eq_true, true_or, or_true, List.append_eq]
  refine ⟨Or.inr p.2.symm, fun _ => hK r2 T m1 _ _ en.1 g, fun w => absurd p.2.symm w⟩
theorem s_2300 (hX : tb.2.1 = strB) (hD : tb.1 2 = [vi 0, vn, vn, vn, vn, vn]) (h0 : 0 ≤ i) (h6 : i + 6 ≤ (tb.2.2.1 : Int)) (hf : ∀ j, R32 (tb.2.2.2 j)) : CASE tb (d + 80) K 2300 i := by
  intro r S m z5 z6 h hK
  have h1 : 0 ≤ i + 1 ∧ i + 1 < (tb.2.2.1 : Int) := by omega
  have g1 := hf (i + 1).toNat
  obtain ⟨x1, e1⟩ : ∃ x, x = tb.2.2.2 (i + 1).toNat := ⟨_, rfl⟩
  rw [← e1] at g1
  rw [AtL.eq kl_2300]
  simp only [w_aload, w_iload, w_iconst, w_lconst, w_iadd, w_ialoads, w_call, w_istore, w_goto, w_fall, w_if, w_ifc, w_i2l, w_lcmp, w_zreturn, x_lald isA_316x, len_316x, cI, Int.reduceToNat, Option.toList, List.getElem?_cons_zero, List.getElem?_cons_succ, List.set_cons_zero, List.set_cons_succ, List.cons_append, List.nil_append, List.replicate_succ, List.replicate_zero, List.take_succ_cons, List.take_zero, List.drop_succ_cons, List.drop_zero, List.reverse_cons, List.reverse_nil, List.length_cons, List.length_nil, Option.toList, true_and, and_true, eq_self, ↓reduceIte, not_true_eq_false, not_false_eq_true, true_or, or_true, List.append_eq, h1, ← e1]
  refine ⟨⟨by omega, by omega⟩, ?_⟩
  refine (y_376 (p_168 g1 hX h)) (d + 8) _ (fun c S1 m1 c0 c3 g lr => ?_)
  simp only [w_aload, w_iload, w_iconst, w_lconst, w_iadd, w_ialoads, w_call, w_istore, w_goto, w_fall, w_if, w_ifc, w_i2l, w_lcmp, w_zreturn, x_lald isA_316x, len_316x, cI, Int.reduceToNat, Option.toList, List.getElem?_cons_zero, List.getElem?_cons_succ, List.set_cons_zero, List.set_cons_succ, List.cons_append, List.nil_append, List.replicate_succ, List.replicate_zero, List.take_succ_cons, List.take_zero, List.drop_succ_cons, List.drop_zero, List.reverse_cons, List.reverse_nil, List.length_cons, List.length_nil, Option.toList, true_and, and_true, eq_self, ↓reduceIte, not_true_eq_false, not_false_eq_true, true_or, or_true, List.append_eq, h1, ← e1]
  refine ⟨⟨by omega, by omega⟩, ?_⟩
  refine lr (d + 10) _ (fun T b r2 th en p => ?_)
  obtain ⟨p1, p2⟩ := p
  simp only [w_aload, w_iload, w_iconst, w_lconst, w_iadd, w_ialoads, w_call, w_istore, w_goto, w_fall, w_if, w_ifc, w_i2l, w_lcmp, w_zreturn, x_lald isA_316x, len_316x, cI, Int.reduceToNat, Option.toList, List.getElem?_cons_zero, List.getElem?_cons_succ, List.set_cons_zero, List.set_cons_succ, List.cons_append, List.nil_append, List.replicate_succ, List.replicate_zero, List.take_succ_cons, List.take_zero, List.drop_succ_cons, List.drop_zero, List.reverse_cons, List.reverse_nil, List.length_cons, List.length_nil, Option.toList, true_and, and_true, eq_self, ↓reduceIte, not_true_eq_false, not_false_eq_true, true_or, or_true, List.append_eq, h1, ← e1]
  refine ⟨⟨by omega, by omega⟩, ?_⟩
  refine q_199 (d := d + 79) ?_
  simp only [w_aload, w_iload, w_iconst, w_lconst, w_iadd, w_ialoads, w_call, w_istore, w_goto, w_fall, w_if, w_ifc, w_i2l, w_lcmp, w_zreturn, x_lald isA_316x, len_316x, cI, Int.reduceToNat, Option.toList, List.getElem?_cons_zero, List.getElem?_cons_succ, List.set_cons_zero, List.set_cons_succ, List.cons_append, List.nil_append, List.replicate_succ, List.replicate_zero, List.take_succ_cons, List.take_zero, List.drop_succ_cons, List.drop_zero, List.reverse_cons, List.reverse_nil, List.length_cons, List.length_nil, Option.toList, true_and, and_true, eq_self, ↓reduceIte, not_true_eq_false, not_false_eq_true, true_or, or_true, List.append_eq, h1, ← e1]
  have e7 : T 300 0 = c := en.2.2.trans p1
  refine ⟨Or.inr e7, fun _ => ?_, fun w => absurd e7 w⟩
  rw [AtL.eq kl_2336]
  simp only [w_aload, w_iload, w_iconst, w_lconst, w_iadd, w_ialoads, w_call, w_istore, w_goto, w_fall, w_if, w_ifc, w_i2l, w_lcmp, w_zreturn, x_lald isA_316x, len_316x, cI, Int.reduceToNat, Option.toList, List.getElem?_cons_zero, List.getElem?_cons_succ, List.set_cons_zero, List.set_cons_succ, List.cons_append, List.nil_append, List.replicate_succ, List.replicate_zero, List.take_succ_cons, List.take_zero, List.drop_succ_cons, List.drop_zero, List.reverse_cons, List.reverse_nil, List.length_cons, List.length_nil, Option.toList, true_and, and_true, eq_self, ↓reduceIte, not_true_eq_false, not_false_eq_true, true_or, or_true, List.append_eq, h1, ← e1]
  refine ⟨by unfold R32; omega, fun y => ?_, fun y => ?_⟩
  · rw [AtL.eq kl_2353]
    simp only [w_aload, w_iload, w_iconst, w_lconst, w_iadd, w_ialoads, w_call, w_istore, w_goto, w_fall, w_if, w_ifc, w_i2l, w_lcmp, w_zreturn, x_lald isA_316x, len_316x, cI, Int.reduceToNat, Option.toList, List.getElem?_cons_zero, List.getElem?_cons_succ, List.set_cons_zero, List.set_cons_succ, List.cons_append, List.nil_append, List.replicate_succ, List.replicate_zero, List.take_succ_cons, List.take_zero, List.drop_succ_cons, List.drop_zero, List.reverse_cons, List.reverse_nil, List.length_cons, List.length_nil, Option.toList, true_and, and_true, eq_self, ↓reduceIte, not_true_eq_false, not_false_eq_true, true_or, or_true, List.append_eq, h1, ← e1]
    exact hK r2 T m1 _ _ en.1 g
  · have y0 : c = 0 := by omega
    obtain ⟨q1, q2⟩ := p2 y0
    have e9 : T 316 0 = b := (congrFun en.2.1 0).trans q1
    simp only [e9, cmp_self]
    refine ⟨⟨by decide, by decide⟩, q2, ⟨R64_32 q2, R64_32 q2⟩, R32_00, fun _ => ?_, fun w => by simp at w⟩
    rw [AtL.eq kl_2353]
    simp only [w_aload, w_iload, w_iconst, w_lconst, w_iadd, w_ialoads, w_call, w_istore, w_goto, w_fall, w_if, w_ifc, w_i2l, w_lcmp, w_zreturn, x_lald isA_316x, len_316x, cI, Int.reduceToNat, Option.toList, List.getElem?_cons_zero, List.getElem?_cons_succ, List.set_cons_zero, List.set_cons_succ, List.cons_append, List.nil_append, List.replicate_succ, List.replicate_zero, List.take_succ_cons, List.take_zero, List.drop_succ_cons, List.drop_zero, List.reverse_cons, List.reverse_nil, List.length_cons, List.length_nil, Option.toList, true_and, and_true, eq_self, ↓reduceIte, not_true_eq_false, not_false_eq_true, true_or, or_true, List.append_eq, h1, ← e1]
    exact hK r2 T m1 _ _ en.1 g
theorem s_2356 (hX : tb.2.1 = strB) (hD : tb.1 2 = [vi 0, vn, vn, vn, vn, vn]) (h0 : 0 ≤ i) (h6 : i + 6 ≤ (tb.2.2.1 : Int)) (hf : ∀ j, R32 (tb.2.2.2 j)) : CASE tb (d + 80) K 2356 i := by
  intro r S m z5 z6 h hK
  have h1 : 0 ≤ i + 1 ∧ i + 1 < (tb.2.2.1 : Int) := by omega
  have g1 := hf (i + 1).toNat
  obtain ⟨x1, e1⟩ : ∃ x, x = tb.2.2.2 (i + 1).toNat := ⟨_, rfl⟩
  rw [← e1] at g1
  have h2 : 0 ≤ i + 2 ∧ i + 2 < (tb.2.2.1 : Int) := by omega
  have g2 := hf (i + 2).toNat
  obtain ⟨x2, e2⟩ : ∃ x, x = tb.2.2.2 (i + 2).toNat := ⟨_, rfl⟩
  rw [← e2] at g2
  have h3 : 0 ≤ i + 3 ∧ i + 3 < (tb.2.2.1 : Int) := by omega
  have g3 := hf (i + 3).toNat
  obtain ⟨x3, e3⟩ : ∃ x, x = tb.2.2.2 (i + 3).toNat := ⟨_, rfl⟩
  rw [← e3] at g3
  rw [AtL.eq kl_2356]
  simp only [w_aload, w_iload, w_iconst, w_lconst, w_iadd, w_ialoads, w_call, w_istore, w_goto, w_fall, w_if, w_ifc, w_i2l, w_lcmp, w_zreturn, x_lald isA_316x, len_316x, cI, Int.reduceToNat, Option.toList, List.getElem?_cons_zero, List.getElem?_cons_succ, List.set_cons_zero, List.set_cons_succ, List.cons_append, List.nil_append, List.replicate_succ, List.replicate_zero, List.take_succ_cons, List.take_zero, List.drop_succ_cons, List.drop_zero, List.reverse_cons, List.reverse_nil, List.length_cons, List.length_nil, Option.toList, true_and, and_true, eq_self, ↓reduceIte, not_true_eq_false, not_false_eq_true, true_or, or_true, List.append_eq, h1, ← e1, h2, ← e2, h3, ← e3]
  by_cases z : x3 = 0
  · refine ⟨g3, fun y => ?_, fun y => absurd z y⟩
    rw [AtL.eq kl_2382]
    simp only [w_aload, w_iload, w_iconst, w_lconst, w_iadd, w_ialoads, w_call, w_istore, w_goto, w_fall, w_if, w_ifc, w_i2l, w_lcmp, w_zreturn, x_lald isA_316x, len_316x, cI, Int.reduceToNat, Option.toList, List.getElem?_cons_zero, List.getElem?_cons_succ, List.set_cons_zero, List.set_cons_succ, List.cons_append, List.nil_append, List.replicate_succ, List.replicate_zero, List.take_succ_cons, List.take_zero, List.drop_succ_cons, List.drop_zero, List.reverse_cons, List.reverse_nil, List.length_cons, List.length_nil, Option.toList, true_and, and_true, eq_self, ↓reduceIte, not_true_eq_false, not_false_eq_true, true_or, or_true, List.append_eq, h1, ← e1, h2, ← e2, h3, ← e3]
    rw [AtL.eq kl_2383]
    simp only [w_aload, w_iload, w_iconst, w_lconst, w_iadd, w_ialoads, w_call, w_istore, w_goto, w_fall, w_if, w_ifc, w_i2l, w_lcmp, w_zreturn, x_lald isA_316x, len_316x, cI, Int.reduceToNat, Option.toList, List.getElem?_cons_zero, List.getElem?_cons_succ, List.set_cons_zero, List.set_cons_succ, List.cons_append, List.nil_append, List.replicate_succ, List.replicate_zero, List.take_succ_cons, List.take_zero, List.drop_succ_cons, List.drop_zero, List.reverse_cons, List.reverse_nil, List.length_cons, List.length_nil, Option.toList, true_and, and_true, eq_self, ↓reduceIte, not_true_eq_false, not_false_eq_true, true_or, or_true, List.append_eq, h1, ← e1, h2, ← e2, h3, ← e3]
    refine ⟨⟨by omega, by omega⟩, ?_⟩
    refine (y_377 (p_186 g1 g2 (show R32 0 from by unfold R32; decide) hX h)) (d + 8) _ (fun c S1 m1 c0 c3 g lr => ?_)
    simp only [w_aload, w_iload, w_iconst, w_lconst, w_iadd, w_ialoads, w_call, w_istore, w_goto, w_fall, w_if, w_ifc, w_i2l, w_lcmp, w_zreturn, x_lald isA_316x, len_316x, cI, Int.reduceToNat, Option.toList, List.getElem?_cons_zero, List.getElem?_cons_succ, List.set_cons_zero, List.set_cons_succ, List.cons_append, List.nil_append, List.replicate_succ, List.replicate_zero, List.take_succ_cons, List.take_zero, List.drop_succ_cons, List.drop_zero, List.reverse_cons, List.reverse_nil, List.length_cons, List.length_nil, Option.toList, true_and, and_true, eq_self, ↓reduceIte, not_true_eq_false, not_false_eq_true, true_or, or_true, List.append_eq, h1, ← e1, h2, ← e2, h3, ← e3]
    refine ⟨g3, fun y => ?_, fun y => absurd z y⟩
    rw [AtL.eq kl_2415]
    simp only [w_aload, w_iload, w_iconst, w_lconst, w_iadd, w_ialoads, w_call, w_istore, w_goto, w_fall, w_if, w_ifc, w_i2l, w_lcmp, w_zreturn, x_lald isA_316x, len_316x, cI, Int.reduceToNat, Option.toList, List.getElem?_cons_zero, List.getElem?_cons_succ, List.set_cons_zero, List.set_cons_succ, List.cons_append, List.nil_append, List.replicate_succ, List.replicate_zero, List.take_succ_cons, List.take_zero, List.drop_succ_cons, List.drop_zero, List.reverse_cons, List.reverse_nil, List.length_cons, List.length_nil, Option.toList, true_and, and_true, eq_self, ↓reduceIte, not_true_eq_false, not_false_eq_true, true_or, or_true, List.append_eq, h1, ← e1, h2, ← e2, h3, ← e3]
    rw [AtL.eq kl_2416]
    simp only [w_aload, w_iload, w_iconst, w_lconst, w_iadd, w_ialoads, w_call, w_istore, w_goto, w_fall, w_if, w_ifc, w_i2l, w_lcmp, w_zreturn, x_lald isA_316x, len_316x, cI, Int.reduceToNat, Option.toList, List.getElem?_cons_zero, List.getElem?_cons_succ, List.set_cons_zero, List.set_cons_succ, List.cons_append, List.nil_append, List.replicate_succ, List.replicate_zero, List.take_succ_cons, List.take_zero, List.drop_succ_cons, List.drop_zero, List.reverse_cons, List.reverse_nil, List.length_cons, List.length_nil, Option.toList, true_and, and_true, eq_self, ↓reduceIte, not_true_eq_false, not_false_eq_true, true_or, or_true, List.append_eq, h1, ← e1, h2, ← e2, h3, ← e3]
    refine ⟨⟨by omega, by omega⟩, ?_⟩
    refine lr (d + 10) _ (fun T b r2 th en p => ?_)
    obtain ⟨p1, p2⟩ := p
    simp only [w_aload, w_iload, w_iconst, w_lconst, w_iadd, w_ialoads, w_call, w_istore, w_goto, w_fall, w_if, w_ifc, w_i2l, w_lcmp, w_zreturn, x_lald isA_316x, len_316x, cI, Int.reduceToNat, Option.toList, List.getElem?_cons_zero, List.getElem?_cons_succ, List.set_cons_zero, List.set_cons_succ, List.cons_append, List.nil_append, List.replicate_succ, List.replicate_zero, List.take_succ_cons, List.take_zero, List.drop_succ_cons, List.drop_zero, List.reverse_cons, List.reverse_nil, List.length_cons, List.length_nil, Option.toList, true_and, and_true, eq_self, ↓reduceIte, not_true_eq_false, not_false_eq_true, true_or, or_true, List.append_eq, h1, ← e1, h2, ← e2, h3, ← e3]
    refine ⟨⟨by omega, by omega⟩, ?_⟩
    refine q_199 (d := d + 79) ?_
    simp only [w_aload, w_iload, w_iconst, w_lconst, w_iadd, w_ialoads, w_call, w_istore, w_goto, w_fall, w_if, w_ifc, w_i2l, w_lcmp, w_zreturn, x_lald isA_316x, len_316x, cI, Int.reduceToNat, Option.toList, List.getElem?_cons_zero, List.getElem?_cons_succ, List.set_cons_zero, List.set_cons_succ, List.cons_append, List.nil_append, List.replicate_succ, List.replicate_zero, List.take_succ_cons, List.take_zero, List.drop_succ_cons, List.drop_zero, List.reverse_cons, List.reverse_nil, List.length_cons, List.length_nil, Option.toList, true_and, and_true, eq_self, ↓reduceIte, not_true_eq_false, not_false_eq_true, true_or, or_true, List.append_eq, h1, ← e1, h2, ← e2, h3, ← e3]
    have e7 : T 300 0 = c := en.2.2.trans p1
    refine ⟨Or.inr e7, fun _ => ?_, fun w => absurd e7 w⟩
    rw [AtL.eq kl_2432]
    simp only [w_aload, w_iload, w_iconst, w_lconst, w_iadd, w_ialoads, w_call, w_istore, w_goto, w_fall, w_if, w_ifc, w_i2l, w_lcmp, w_zreturn, x_lald isA_316x, len_316x, cI, Int.reduceToNat, Option.toList, List.getElem?_cons_zero, List.getElem?_cons_succ, List.set_cons_zero, List.set_cons_succ, List.cons_append, List.nil_append, List.replicate_succ, List.replicate_zero, List.take_succ_cons, List.take_zero, List.drop_succ_cons, List.drop_zero, List.reverse_cons, List.reverse_nil, List.length_cons, List.length_nil, Option.toList, true_and, and_true, eq_self, ↓reduceIte, not_true_eq_false, not_false_eq_true, true_or, or_true, List.append_eq, h1, ← e1, h2, ← e2, h3, ← e3]
    refine ⟨by unfold R32; omega, fun y => ?_, fun y => ?_⟩
    · rw [AtL.eq kl_2449]
      simp only [w_aload, w_iload, w_iconst, w_lconst, w_iadd, w_ialoads, w_call, w_istore, w_goto, w_fall, w_if, w_ifc, w_i2l, w_lcmp, w_zreturn, x_lald isA_316x, len_316x, cI, Int.reduceToNat, Option.toList, List.getElem?_cons_zero, List.getElem?_cons_succ, List.set_cons_zero, List.set_cons_succ, List.cons_append, List.nil_append, List.replicate_succ, List.replicate_zero, List.take_succ_cons, List.take_zero, List.drop_succ_cons, List.drop_zero, List.reverse_cons, List.reverse_nil, List.length_cons, List.length_nil, Option.toList, true_and, and_true, eq_self, ↓reduceIte, not_true_eq_false, not_false_eq_true, true_or, or_true, List.append_eq, h1, ← e1, h2, ← e2, h3, ← e3]
      exact hK r2 T m1 _ _ en.1 g
    · have y0 : c = 0 := by omega
      obtain ⟨q1, q2⟩ := p2 y0
      have e9 : T 316 0 = b := (congrFun en.2.1 0).trans q1
      simp only [e9, cmp_self]
      refine ⟨⟨by decide, by decide⟩, q2, ⟨R64_32 q2, R64_32 q2⟩, R32_00, fun _ => ?_, fun w => by simp at w⟩
      rw [AtL.eq kl_2449]
      simp only [w_aload, w_iload, w_iconst, w_lconst, w_iadd, w_ialoads, w_call, w_istore, w_goto, w_fall, w_if, w_ifc, w_i2l, w_lcmp, w_zreturn, x_lald isA_316x, len_316x, cI, Int.reduceToNat, Option.toList, List.getElem?_cons_zero, List.getElem?_cons_succ, List.set_cons_zero, List.set_cons_succ, List.cons_append, List.nil_append, List.replicate_succ, List.replicate_zero, List.take_succ_cons, List.take_zero, List.drop_succ_cons, List.drop_zero, List.reverse_cons, List.reverse_nil, List.length_cons, List.length_nil, Option.toList, true_and, and_true, eq_self, ↓reduceIte, not_true_eq_false, not_false_eq_true, true_or, or_true, List.append_eq, h1, ← e1, h2, ← e2, h3, ← e3]
      exact hK r2 T m1 _ _ en.1 g
  · refine ⟨g3, fun y => absurd y z, fun y => ?_⟩
    rw [AtL.eq kl_2383]
    simp only [w_aload, w_iload, w_iconst, w_lconst, w_iadd, w_ialoads, w_call, w_istore, w_goto, w_fall, w_if, w_ifc, w_i2l, w_lcmp, w_zreturn, x_lald isA_316x, len_316x, cI, Int.reduceToNat, Option.toList, List.getElem?_cons_zero, List.getElem?_cons_succ, List.set_cons_zero, List.set_cons_succ, List.cons_append, List.nil_append, List.replicate_succ, List.replicate_zero, List.take_succ_cons, List.take_zero, List.drop_succ_cons, List.drop_zero, List.reverse_cons, List.reverse_nil, List.length_cons, List.length_nil, Option.toList, true_and, and_true, eq_self, ↓reduceIte, not_true_eq_false, not_false_eq_true, true_or, or_true, List.append_eq, h1, ← e1, h2, ← e2, h3, ← e3]
    refine ⟨⟨by omega, by omega⟩, ?_⟩
    refine (y_377 (p_186 g1 g2 (show R32 1 from by unfold R32; decide) hX h)) (d + 8) _ (fun c S1 m1 c0 c3 g lr => ?_)
    simp only [w_aload, w_iload, w_iconst, w_lconst, w_iadd, w_ialoads, w_call, w_istore, w_goto, w_fall, w_if, w_ifc, w_i2l, w_lcmp, w_zreturn, x_lald isA_316x, len_316x, cI, Int.reduceToNat, Option.toList, List.getElem?_cons_zero, List.getElem?_cons_succ, List.set_cons_zero, List.set_cons_succ, List.cons_append, List.nil_append, List.replicate_succ, List.replicate_zero, List.take_succ_cons, List.take_zero, List.drop_succ_cons, List.drop_zero, List.reverse_cons, List.reverse_nil, List.length_cons, List.length_nil, Option.toList, true_and, and_true, eq_self, ↓reduceIte, not_true_eq_false, not_false_eq_true, true_or, or_true, List.append_eq, h1, ← e1, h2, ← e2, h3, ← e3]
    refine ⟨g3, fun y => absurd y z, fun y => ?_⟩
    rw [AtL.eq kl_2416]
    simp only [w_aload, w_iload, w_iconst, w_lconst, w_iadd, w_ialoads, w_call, w_istore, w_goto, w_fall, w_if, w_ifc, w_i2l, w_lcmp, w_zreturn, x_lald isA_316x, len_316x, cI, Int.reduceToNat, Option.toList, List.getElem?_cons_zero, List.getElem?_cons_succ, List.set_cons_zero, List.set_cons_succ, List.cons_append, List.nil_append, List.replicate_succ, List.replicate_zero, List.take_succ_cons, List.take_zero, List.drop_succ_cons, List.drop_zero, List.reverse_cons, List.reverse_nil, List.length_cons, List.length_nil, Option.toList, true_and, and_true, eq_self, ↓reduceIte, not_true_eq_false, not_false_eq_true, true_or, or_true, List.append_eq, h1, ← e1, h2, ← e2, h3, ← e3]
    refine ⟨⟨by omega, by omega⟩, ?_⟩
    refine lr (d + 10) _ (fun T b r2 th en p => ?_)
    obtain ⟨p1, p2⟩ := p
    simp only [w_aload, w_iload, w_iconst, w_lconst, w_iadd, w_ialoads, w_call, w_istore, w_goto, w_fall, w_if, w_ifc, w_i2l, w_lcmp, w_zreturn, x_lald isA_316x, len_316x, cI, Int.reduceToNat, Option.toList, List.getElem?_cons_zero, List.getElem?_cons_succ, List.set_cons_zero, List.set_cons_succ, List.cons_append, List.nil_append, List.replicate_succ, List.replicate_zero, List.take_succ_cons, List.take_zero, List.drop_succ_cons, List.drop_zero, List.reverse_cons, List.reverse_nil, List.length_cons, List.length_nil, Option.toList, true_and, and_true, eq_self, ↓reduceIte, not_true_eq_false, not_false_eq_true, true_or, or_true, List.append_eq, h1, ← e1, h2, ← e2, h3, ← e3]
    refine ⟨⟨by omega, by omega⟩, ?_⟩
    refine q_199 (d := d + 79) ?_
    simp only [w_aload, w_iload, w_iconst, w_lconst, w_iadd, w_ialoads, w_call, w_istore, w_goto, w_fall, w_if, w_ifc, w_i2l, w_lcmp, w_zreturn, x_lald isA_316x, len_316x, cI, Int.reduceToNat, Option.toList, List.getElem?_cons_zero, List.getElem?_cons_succ, List.set_cons_zero, List.set_cons_succ, List.cons_append, List.nil_append, List.replicate_succ, List.replicate_zero, List.take_succ_cons, List.take_zero, List.drop_succ_cons, List.drop_zero, List.reverse_cons, List.reverse_nil, List.length_cons, List.length_nil, Option.toList, true_and, and_true, eq_self, ↓reduceIte, not_true_eq_false, not_false_eq_true, true_or, or_true, List.append_eq, h1, ← e1, h2, ← e2, h3, ← e3]
    have e7 : T 300 0 = c := en.2.2.trans p1
    refine ⟨Or.inr e7, fun _ => ?_, fun w => absurd e7 w⟩
    rw [AtL.eq kl_2432]
    simp only [w_aload, w_iload, w_iconst, w_lconst, w_iadd, w_ialoads, w_call, w_istore, w_goto, w_fall, w_if, w_ifc, w_i2l, w_lcmp, w_zreturn, x_lald isA_316x, len_316x, cI, Int.reduceToNat, Option.toList, List.getElem?_cons_zero, List.getElem?_cons_succ, List.set_cons_zero, List.set_cons_succ, List.cons_append, List.nil_append, List.replicate_succ, List.replicate_zero, List.take_succ_cons, List.take_zero, List.drop_succ_cons, List.drop_zero, List.reverse_cons, List.reverse_nil, List.length_cons, List.length_nil, Option.toList, true_and, and_true, eq_self, ↓reduceIte, not_true_eq_false, not_false_eq_true, true_or, or_true, List.append_eq, h1, ← e1, h2, ← e2, h3, ← e3]
    refine ⟨by unfold R32; omega, fun y => ?_, fun y => ?_⟩
    · rw [AtL.eq kl_2449]
      simp only [w_aload, w_iload, w_iconst, w_lconst, w_iadd, w_ialoads, w_call, w_istore, w_goto, w_fall, w_if, w_ifc, w_i2l, w_lcmp, w_zreturn, x_lald isA_316x, len_316x, cI, Int.reduceToNat, Option.toList, List.getElem?_cons_zero, List.getElem?_cons_succ, List.set_cons_zero, List.set_cons_succ, List.cons_append, List.nil_append, List.replicate_succ, List.replicate_zero, List.take_succ_cons, List.take_zero, List.drop_succ_cons, List.drop_zero, List.reverse_cons, List.reverse_nil, List.length_cons, List.length_nil, Option.toList, true_and, and_true, eq_self, ↓reduceIte, not_true_eq_false, not_false_eq_true, true_or, or_true, List.append_eq, h1, ← e1, h2, ← e2, h3, ← e3]
      exact hK r2 T m1 _ _ en.1 g
    · have y0 : c = 0 := by omega
      obtain ⟨q1, q2⟩ := p2 y0
      have e9 : T 316 0 = b := (congrFun en.2.1 0).trans q1
      simp only [e9, cmp_self]
      refine ⟨⟨by decide, by decide⟩, q2, ⟨R64_32 q2, R64_32 q2⟩, R32_00, fun _ => ?_, fun w => by simp at w⟩
      rw [AtL.eq kl_2449]
      simp only [w_aload, w_iload, w_iconst, w_lconst, w_iadd, w_ialoads, w_call, w_istore, w_goto, w_fall, w_if, w_ifc, w_i2l, w_lcmp, w_zreturn, x_lald isA_316x, len_316x, cI, Int.reduceToNat, Option.toList, List.getElem?_cons_zero, List.getElem?_cons_succ, List.set_cons_zero, List.set_cons_succ, List.cons_append, List.nil_append, List.replicate_succ, List.replicate_zero, List.take_succ_cons, List.take_zero, List.drop_succ_cons, List.drop_zero, List.reverse_cons, List.reverse_nil, List.length_cons, List.length_nil, Option.toList, true_and, and_true, eq_self, ↓reduceIte, not_true_eq_false, not_false_eq_true, true_or, or_true, List.append_eq, h1, ← e1, h2, ← e2, h3, ← e3]
      exact hK r2 T m1 _ _ en.1 g
theorem s_2452 (hX : tb.2.1 = strB) (hD : tb.1 2 = [vi 0, vn, vn, vn, vn, vn]) (h0 : 0 ≤ i) (h6 : i + 6 ≤ (tb.2.2.1 : Int)) (hf : ∀ j, R32 (tb.2.2.2 j)) : CASE tb (d + 80) K 2452 i := by
  intro r S m z5 z6 h hK
  have h1 : 0 ≤ i + 1 ∧ i + 1 < (tb.2.2.1 : Int) := by omega
  have g1 := hf (i + 1).toNat
  obtain ⟨x1, e1⟩ : ∃ x, x = tb.2.2.2 (i + 1).toNat := ⟨_, rfl⟩
  rw [← e1] at g1
  have h2 : 0 ≤ i + 2 ∧ i + 2 < (tb.2.2.1 : Int) := by omega
  have g2 := hf (i + 2).toNat
  obtain ⟨x2, e2⟩ : ∃ x, x = tb.2.2.2 (i + 2).toNat := ⟨_, rfl⟩
  rw [← e2] at g2
  rw [AtL.eq kl_2452]
  simp only [w_aload, w_iload, w_iconst, w_lconst, w_iadd, w_ialoads, w_call, w_istore, w_goto, w_fall, w_if, w_ifc, w_i2l, w_lcmp, w_zreturn, x_lald isA_316x, len_316x, cI, Int.reduceToNat, Option.toList, List.getElem?_cons_zero, List.getElem?_cons_succ, List.set_cons_zero, List.set_cons_succ, List.cons_append, List.nil_append, List.replicate_succ, List.replicate_zero, List.take_succ_cons, List.take_zero, List.drop_succ_cons, List.drop_zero, List.reverse_cons, List.reverse_nil, List.length_cons, List.length_nil, Option.toList, true_and, and_true, eq_self, ↓reduceIte, not_true_eq_false, not_false_eq_true, true_or, or_true, List.append_eq, h1, ← e1, h2, ← e2]
  by_cases z : x2 = 0
  · refine ⟨g2, fun y => ?_, fun y => absurd z y⟩
    rw [AtL.eq kl_2472]
    simp only [w_aload, w_iload, w_iconst, w_lconst, w_iadd, w_ialoads, w_call, w_istore, w_goto, w_fall, w_if, w_ifc, w_i2l, w_lcmp, w_zreturn, x_lald isA_316x, len_316x, cI, Int.reduceToNat, Option.toList, List.getElem?_cons_zero, List.getElem?_cons_succ, List.set_cons_zero, List.set_cons_succ, List.cons_append, List.nil_append, List.replicate_succ, List.replicate_zero, List.take_succ_cons, List.take_zero, List.drop_succ_cons, List.drop_zero, List.reverse_cons, List.reverse_nil, List.length_cons, List.length_nil, Option.toList, true_and, and_true, eq_self, ↓reduceIte, not_true_eq_false, not_false_eq_true, true_or, or_true, List.append_eq, h1, ← e1, h2, ← e2]
    rw [AtL.eq kl_2473]
    simp only [w_aload, w_iload, w_iconst, w_lconst, w_iadd, w_ialoads, w_call, w_istore, w_goto, w_fall, w_if, w_ifc, w_i2l, w_lcmp, w_zreturn, x_lald isA_316x, len_316x, cI, Int.reduceToNat, Option.toList, List.getElem?_cons_zero, List.getElem?_cons_succ, List.set_cons_zero, List.set_cons_succ, List.cons_append, List.nil_append, List.replicate_succ, List.replicate_zero, List.take_succ_cons, List.take_zero, List.drop_succ_cons, List.drop_zero, List.reverse_cons, List.reverse_nil, List.length_cons, List.length_nil, Option.toList, true_and, and_true, eq_self, ↓reduceIte, not_true_eq_false, not_false_eq_true, true_or, or_true, List.append_eq, h1, ← e1, h2, ← e2]
    refine ⟨⟨by omega, by omega⟩, ?_⟩
    refine (y_378 (p_187 g1 (show R32 0 from by unfold R32; decide) hX h)) (d + 8) _ (fun c S1 m1 c0 c3 g lr => ?_)
    simp only [w_aload, w_iload, w_iconst, w_lconst, w_iadd, w_ialoads, w_call, w_istore, w_goto, w_fall, w_if, w_ifc, w_i2l, w_lcmp, w_zreturn, x_lald isA_316x, len_316x, cI, Int.reduceToNat, Option.toList, List.getElem?_cons_zero, List.getElem?_cons_succ, List.set_cons_zero, List.set_cons_succ, List.cons_append, List.nil_append, List.replicate_succ, List.replicate_zero, List.take_succ_cons, List.take_zero, List.drop_succ_cons, List.drop_zero, List.reverse_cons, List.reverse_nil, List.length_cons, List.length_nil, Option.toList, true_and, and_true, eq_self, ↓reduceIte, not_true_eq_false, not_false_eq_true, true_or, or_true, List.append_eq, h1, ← e1, h2, ← e2]
    refine ⟨g2, fun y => ?_, fun y => absurd z y⟩
    rw [AtL.eq kl_2499]
    simp only [w_aload, w_iload, w_iconst, w_lconst, w_iadd, w_ialoads, w_call, w_istore, w_goto, w_fall, w_if, w_ifc, w_i2l, w_lcmp, w_zreturn, x_lald isA_316x, len_316x, cI, Int.reduceToNat, Option.toList, List.getElem?_cons_zero, List.getElem?_cons_succ, List.set_cons_zero, List.set_cons_succ, List.cons_append, List.nil_append, List.replicate_succ, List.replicate_zero, List.take_succ_cons, List.take_zero, List.drop_succ_cons, List.drop_zero, List.reverse_cons, List.reverse_nil, List.length_cons, List.length_nil, Option.toList, true_and, and_true, eq_self, ↓reduceIte, not_true_eq_false, not_false_eq_true, true_or, or_true, List.append_eq, h1, ← e1, h2, ← e2]
    rw [AtL.eq kl_2500]
    simp only [w_aload, w_iload, w_iconst, w_lconst, w_iadd, w_ialoads, w_call, w_istore, w_goto, w_fall, w_if, w_ifc, w_i2l, w_lcmp, w_zreturn, x_lald isA_316x, len_316x, cI, Int.reduceToNat, Option.toList, List.getElem?_cons_zero, List.getElem?_cons_succ, List.set_cons_zero, List.set_cons_succ, List.cons_append, List.nil_append, List.replicate_succ, List.replicate_zero, List.take_succ_cons, List.take_zero, List.drop_succ_cons, List.drop_zero, List.reverse_cons, List.reverse_nil, List.length_cons, List.length_nil, Option.toList, true_and, and_true, eq_self, ↓reduceIte, not_true_eq_false, not_false_eq_true, true_or, or_true, List.append_eq, h1, ← e1, h2, ← e2]
    refine ⟨⟨by omega, by omega⟩, ?_⟩
    refine lr (d + 10) _ (fun T b r2 th en p => ?_)
    obtain ⟨p1, p2⟩ := p
    simp only [w_aload, w_iload, w_iconst, w_lconst, w_iadd, w_ialoads, w_call, w_istore, w_goto, w_fall, w_if, w_ifc, w_i2l, w_lcmp, w_zreturn, x_lald isA_316x, len_316x, cI, Int.reduceToNat, Option.toList, List.getElem?_cons_zero, List.getElem?_cons_succ, List.set_cons_zero, List.set_cons_succ, List.cons_append, List.nil_append, List.replicate_succ, List.replicate_zero, List.take_succ_cons, List.take_zero, List.drop_succ_cons, List.drop_zero, List.reverse_cons, List.reverse_nil, List.length_cons, List.length_nil, Option.toList, true_and, and_true, eq_self, ↓reduceIte, not_true_eq_false, not_false_eq_true, true_or, or_true, List.append_eq, h1, ← e1, h2, ← e2]
    refine ⟨⟨by omega, by omega⟩, ?_⟩
    refine q_199 (d := d + 79) ?_
    simp only [w_aload, w_iload, w_iconst, w_lconst, w_iadd, w_ialoads, w_call, w_istore, w_goto, w_fall, w_if, w_ifc, w_i2l, w_lcmp, w_zreturn, x_lald isA_316x, len_316x, cI, Int.reduceToNat, Option.toList, List.getElem?_cons_zero, List.getElem?_cons_succ, List.set_cons_zero, List.set_cons_succ, List.cons_append, List.nil_append, List.replicate_succ, List.replicate_zero, List.take_succ_cons, List.take_zero, List.drop_succ_cons, List.drop_zero, List.reverse_cons, List.reverse_nil, List.length_cons, List.length_nil, Option.toList, true_and, and_true, eq_self, ↓reduceIte, not_true_eq_false, not_false_eq_true, true_or, or_true, List.append_eq, h1, ← e1, h2, ← e2]
    have e7 : T 300 0 = c := en.2.2.trans p1
    refine ⟨Or.inr e7, fun _ => ?_, fun w => absurd e7 w⟩
    rw [AtL.eq kl_2516]
    simp only [w_aload, w_iload, w_iconst, w_lconst, w_iadd, w_ialoads, w_call, w_istore, w_goto, w_fall, w_if, w_ifc, w_i2l, w_lcmp, w_zreturn, x_lald isA_316x, len_316x, cI, Int.reduceToNat, Option.toList, List.getElem?_cons_zero, List.getElem?_cons_succ, List.set_cons_zero, List.set_cons_succ, List.cons_append, List.nil_append, List.replicate_succ, List.replicate_zero, List.take_succ_cons, List.take_zero, List.drop_succ_cons, List.drop_zero, List.reverse_cons, List.reverse_nil, List.length_cons, List.length_nil, Option.toList, true_and, and_true, eq_self, ↓reduceIte, not_true_eq_false, not_false_eq_true, true_or, or_true, List.append_eq, h1, ← e1, h2, ← e2]
    refine ⟨by unfold R32; omega, fun y => ?_, fun y => ?_⟩
    · rw [AtL.eq kl_2533]
      simp only [w_aload, w_iload, w_iconst, w_lconst, w_iadd, w_ialoads, w_call, w_istore, w_goto, w_fall, w_if, w_ifc, w_i2l, w_lcmp, w_zreturn, x_lald isA_316x, len_316x, cI, Int.reduceToNat, Option.toList, List.getElem?_cons_zero, List.getElem?_cons_succ, List.set_cons_zero, List.set_cons_succ, List.cons_append, List.nil_append, List.replicate_succ, List.replicate_zero, List.take_succ_cons, List.take_zero, List.drop_succ_cons, List.drop_zero, List.reverse_cons, List.reverse_nil, List.length_cons, List.length_nil, Option.toList, true_and, and_true, eq_self, ↓reduceIte, not_true_eq_false, not_false_eq_true, true_or, or_true, List.append_eq, h1, ← e1, h2, ← e2]
      exact hK r2 T m1 _ _ en.1 g
    · have y0 : c = 0 := by omega
      obtain ⟨q1, q2⟩ := p2 y0
      have e9 : T 316 0 = b := (congrFun en.2.1 0).trans q1
      simp only [e9, cmp_self]
      refine ⟨⟨by decide, by decide⟩, q2, ⟨R64_32 q2, R64_32 q2⟩, R32_00, fun _ => ?_, fun w => by simp at w⟩
      rw [AtL.eq kl_2533]
      simp only [w_aload, w_iload, w_iconst, w_lconst, w_iadd, w_ialoads, w_call, w_istore, w_goto, w_fall, w_if, w_ifc, w_i2l, w_lcmp, w_zreturn, x_lald isA_316x, len_316x, cI, Int.reduceToNat, Option.toList, List.getElem?_cons_zero, List.getElem?_cons_succ, List.set_cons_zero, List.set_cons_succ, List.cons_append, List.nil_append, List.replicate_succ, List.replicate_zero, List.take_succ_cons, List.take_zero, List.drop_succ_cons, List.drop_zero, List.reverse_cons, List.reverse_nil, List.length_cons, List.length_nil, Option.toList, true_and, and_true, eq_self, ↓reduceIte, not_true_eq_false, not_false_eq_true, true_or, or_true, List.append_eq, h1, ← e1, h2, ← e2]
      exact hK r2 T m1 _ _ en.1 g
  · refine ⟨g2, fun y => absurd y z, fun y => ?_⟩
    rw [AtL.eq kl_2473]
    simp only [w_aload, w_iload, w_iconst, w_lconst, w_iadd, w_ialoads, w_call, w_istore, w_goto, w_fall, w_if, w_ifc, w_i2l, w_lcmp, w_zreturn, x_lald isA_316x, len_316x, cI, Int.reduceToNat, Option.toList, List.getElem?_cons_zero, List.getElem?_cons_succ, List.set_cons_zero, List.set_cons_succ, List.cons_append, List.nil_append, List.replicate_succ, List.replicate_zero, List.take_succ_cons, List.take_zero, List.drop_succ_cons, List.drop_zero, List.reverse_cons, List.reverse_nil, List.length_cons, List.length_nil, Option.toList, true_and, and_true, eq_self, ↓reduceIte, not_true_eq_false, not_false_eq_true, true_or, or_true, List.append_eq, h1, ← e1, h2, ← e2]
    refine ⟨⟨by omega, by omega⟩, ?_⟩
    refine (y_378 (p_187 g1 (show R32 1 from by unfold R32; decide) hX h)) (d + 8) _ (fun c S1 m1 c0 c3 g lr => ?_)
    simp only [w_aload, w_iload, w_iconst, w_lconst, w_iadd, w_ialoads, w_call, w_istore, w_goto, w_fall, w_if, w_ifc, w_i2l, w_lcmp, w_zreturn, x_lald isA_316x, len_316x, cI, Int.reduceToNat, Option.toList, List.getElem?_cons_zero, List.getElem?_cons_succ, List.set_cons_zero, List.set_cons_succ, List.cons_append, List.nil_append, List.replicate_succ, List.replicate_zero, List.take_succ_cons, List.take_zero, List.drop_succ_cons, List.drop_zero, List.reverse_cons, List.reverse_nil, List.length_cons, List.length_nil, Option.toList, true_and, and_true, eq_self, ↓reduceIte, not_true_eq_false, not_false_eq_true, true_or, or_true, List.append_eq, h1, ← e1, h2, ← e2]
    refine ⟨g2, fun y => absurd y z, fun y => ?_⟩
    rw [AtL.eq kl_2500]
    simp only [w_aload, w_iload, w_iconst, w_lconst, w_iadd, w_ialoads, w_call, w_istore, w_goto, w_fall, w_if, w_ifc, w_i2l, w_lcmp, w_zreturn, x_lald isA_316x, len_316x, cI, Int.reduceToNat, Option.toList, List.getElem?_cons_zero, List.getElem?_cons_succ, List.set_cons_zero, List.set_cons_succ, List.cons_append, List.nil_append, List.replicate_succ, List.replicate_zero, List.take_succ_cons, List.take_zero, List.drop_succ_cons, List.drop_zero, List.reverse_cons, List.reverse_nil, List.length_cons, List.length_nil, Option.toList, true_and, and_true, eq_self, ↓reduceIte, not_true_eq_false, not_false_eq_true, true_or, or_true, List.append_eq, h1, ← e1, h2, ← e2]
    refine ⟨⟨by omega, by omega⟩, ?_⟩
    refine lr (d + 10) _ (fun T b r2 th en p => ?_)
    obtain ⟨p1, p2⟩ := p
    simp only [w_aload, w_iload, w_iconst, w_lconst, w_iadd, w_ialoads, w_call, w_istore, w_goto, w_fall, w_if, w_ifc, w_i2l, w_lcmp, w_zreturn, x_lald isA_316x, len_316x, cI, Int.reduceToNat, Option.toList, List.getElem?_cons_zero, List.getElem?_cons_succ, List.set_cons_zero, List.set_cons_succ, List.cons_append, List.nil_append, List.replicate_succ, List.replicate_zero, List.take_succ_cons, List.take_zero, List.drop_succ_cons, List.drop_zero, List.reverse_cons, List.reverse_nil, List.length_cons, List.length_nil, Option.toList, true_and, and_true, eq_self, ↓reduceIte, not_true_eq_false, not_false_eq_true, true_or, or_true, List.append_eq, h1, ← e1, h2, ← e2]
    refine ⟨⟨by omega, by omega⟩, ?_⟩
    refine q_199 (d := d + 79) ?_
    simp only [w_aload, w_iload, w_iconst, w_lconst, w_iadd, w_ialoads, w_call, w_istore, w_goto, w_fall, w_if, w_ifc, w_i2l, w_lcmp, w_zreturn, x_lald isA_316x, len_316x, cI, Int.reduceToNat, Option.toList, List.getElem?_cons_zero, List.getElem?_cons_succ, List.set_cons_zero, List.set_cons_succ, List.cons_append, List.nil_append, List.replicate_succ, List.replicate_zero, List.take_succ_cons, List.take_zero, List.drop_succ_cons, List.drop_zero, List.reverse_cons, List.reverse_nil, List.length_cons, List.length_nil, Option.toList, true_and, and_true, eq_self, ↓reduceIte, not_true_eq_false, not_false_eq_true, true_or, or_true, List.append_eq, h1, ← e1, h2, ← e2]
    have e7 : T 300 0 = c := en.2.2.trans p1
    refine ⟨Or.inr e7, fun _ => ?_, fun w => absurd e7 w⟩
    rw [AtL.eq kl_2516]
    simp only [w_aload, w_iload, w_iconst, w_lconst, w_iadd, w_ialoads, w_call, w_istore, w_goto, w_fall, w_if, w_ifc, w_i2l, w_lcmp, w_zreturn, x_lald isA_316x, len_316x, cI, Int.reduceToNat, Option.toList, List.getElem?_cons_zero, List.getElem?_cons_succ, List.set_cons_zero, List.set_cons_succ, List.cons_append, List.nil_append, List.replicate_succ, List.replicate_zero, List.take_succ_cons, List.take_zero, List.drop_succ_cons, List.drop_zero, List.reverse_cons, List.reverse_nil, List.length_cons, List.length_nil, Option.toList, true_and, and_true, eq_self, ↓reduceIte, not_true_eq_false, not_false_eq_true, true_or, or_true, List.append_eq, h1, ← e1, h2, ← e2]
    refine ⟨by unfold R32; omega, fun y => ?_, fun y => ?_⟩
    · rw [AtL.eq kl_2533]
      simp only [w_aload, w_iload, w_iconst, w_lconst, w_iadd, w_ialoads, w_call, w_istore, w_goto, w_fall, w_if, w_ifc, w_i2l, w_lcmp, w_zreturn, x_lald isA_316x, len_316x, cI, Int.reduceToNat, Option.toList, List.getElem?_cons_zero, List.getElem?_cons_succ, List.set_cons_zero, List.set_cons_succ, List.cons_append, List.nil_append, List.replicate_succ, List.replicate_zero, List.take_succ_cons, List.take_zero, List.drop_succ_cons, List.drop_zero, List.reverse_cons, List.reverse_nil, List.length_cons, List.length_nil, Option.toList, true_and, and_true, eq_self, ↓reduceIte, not_true_eq_false, not_false_eq_true, true_or, or_true, List.append_eq, h1, ← e1, h2, ← e2]
      exact hK r2 T m1 _ _ en.1 g
    · have y0 : c = 0 := by omega
      obtain ⟨q1, q2⟩ := p2 y0
      have e9 : T 316 0 = b := (congrFun en.2.1 0).trans q1
      simp only [e9, cmp_self]
      refine ⟨⟨by decide, by decide⟩, q2, ⟨R64_32 q2, R64_32 q2⟩, R32_00, fun _ => ?_, fun w => by simp at w⟩
      rw [AtL.eq kl_2533]
      simp only [w_aload, w_iload, w_iconst, w_lconst, w_iadd, w_ialoads, w_call, w_istore, w_goto, w_fall, w_if, w_ifc, w_i2l, w_lcmp, w_zreturn, x_lald isA_316x, len_316x, cI, Int.reduceToNat, Option.toList, List.getElem?_cons_zero, List.getElem?_cons_succ, List.set_cons_zero, List.set_cons_succ, List.cons_append, List.nil_append, List.replicate_succ, List.replicate_zero, List.take_succ_cons, List.take_zero, List.drop_succ_cons, List.drop_zero, List.reverse_cons, List.reverse_nil, List.length_cons, List.length_nil, Option.toList, true_and, and_true, eq_self, ↓reduceIte, not_true_eq_false, not_false_eq_true, true_or, or_true, List.append_eq, h1, ← e1, h2, ← e2]
      exact hK r2 T m1 _ _ en.1 g
theorem s_2536 (hX : tb.2.1 = strB) (hD : tb.1 2 = [vi 0, vn, vn, vn, vn, vn]) (h0 : 0 ≤ i) (h6 : i + 6 ≤ (tb.2.2.1 : Int)) (hf : ∀ j, R32 (tb.2.2.2 j)) : CASE tb (d + 80) K 2536 i := by
  intro r S m z5 z6 h hK
  have h1 : 0 ≤ i + 1 ∧ i + 1 < (tb.2.2.1 : Int) := by omega
  have g1 := hf (i + 1).toNat
  obtain ⟨x1, e1⟩ : ∃ x, x = tb.2.2.2 (i + 1).toNat := ⟨_, rfl⟩
  rw [← e1] at g1
  have h2 : 0 ≤ i + 2 ∧ i + 2 < (tb.2.2.1 : Int) := by omega
  have g2 := hf (i + 2).toNat
  obtain ⟨x2, e2⟩ : ∃ x, x = tb.2.2.2 (i + 2).toNat := ⟨_, rfl⟩
  rw [← e2] at g2
  rw [AtL.eq kl_2536]
  simp only [w_aload, w_iload, w_iconst, w_lconst, w_iadd, w_ialoads, w_call, w_istore, w_goto, w_fall, w_if, w_ifc, w_i2l, w_lcmp, w_zreturn, x_lald isA_316x, len_316x, cI, Int.reduceToNat, Option.toList, List.getElem?_cons_zero, List.getElem?_cons_succ, List.set_cons_zero, List.set_cons_succ, List.cons_append, List.nil_append, List.replicate_succ, List.replicate_zero, List.take_succ_cons, List.take_zero, List.drop_succ_cons, List.drop_zero, List.reverse_cons, List.reverse_nil, List.length_cons, List.length_nil, Option.toList, true_and, and_true, eq_self, ↓reduceIte, not_true_eq_false, not_false_eq_true, true_or, or_true, List.append_eq, h1, ← e1, h2, ← e2]
  by_cases z : x2 = 0
  · refine ⟨g2, fun y => ?_, fun y => absurd z y⟩
    rw [AtL.eq kl_2556]
    simp only [w_aload, w_iload, w_iconst, w_lconst, w_iadd, w_ialoads, w_call, w_istore, w_goto, w_fall, w_if, w_ifc, w_i2l, w_lcmp, w_zreturn, x_lald isA_316x, len_316x, cI, Int.reduceToNat, Option.toList, List.getElem?_cons_zero, List.getElem?_cons_succ, List.set_cons_zero, List.set_cons_succ, List.cons_append, List.nil_append, List.replicate_succ, List.replicate_zero, List.take_succ_cons, List.take_zero, List.drop_succ_cons, List.drop_zero, List.reverse_cons, List.reverse_nil, List.length_cons, List.length_nil, Option.toList, true_and, and_true, eq_self, ↓reduceIte, not_true_eq_false, not_false_eq_true, true_or, or_true, List.append_eq, h1, ← e1, h2, ← e2]
    rw [AtL.eq kl_2557]
    simp only [w_aload, w_iload, w_iconst, w_lconst, w_iadd, w_ialoads, w_call, w_istore, w_goto, w_fall, w_if, w_ifc, w_i2l, w_lcmp, w_zreturn, x_lald isA_316x, len_316x, cI, Int.reduceToNat, Option.toList, List.getElem?_cons_zero, List.getElem?_cons_succ, List.set_cons_zero, List.set_cons_succ, List.cons_append, List.nil_append, List.replicate_succ, List.replicate_zero, List.take_succ_cons, List.take_zero, List.drop_succ_cons, List.drop_zero, List.reverse_cons, List.reverse_nil, List.length_cons, List.length_nil, Option.toList, true_and, and_true, eq_self, ↓reduceIte, not_true_eq_false, not_false_eq_true, true_or, or_true, List.append_eq, h1, ← e1, h2, ← e2]
    refine ⟨⟨by omega, by omega⟩, ?_⟩
    refine (y_379 (p_188 g1 (show R32 0 from by unfold R32; decide) hX h)) (d + 8) _ (fun c S1 m1 c0 c3 g lr => ?_)
    simp only [w_aload, w_iload, w_iconst, w_lconst, w_iadd, w_ialoads, w_call, w_istore, w_goto, w_fall, w_if, w_ifc, w_i2l, w_lcmp, w_zreturn, x_lald isA_316x, len_316x, cI, Int.reduceToNat, Option.toList, List.getElem?_cons_zero, List.getElem?_cons_succ, List.set_cons_zero, List.set_cons_succ, List.cons_append, List.nil_append, List.replicate_succ, List.replicate_zero, List.take_succ_cons, List.take_zero, List.drop_succ_cons, List.drop_zero, List.reverse_cons, List.reverse_nil, List.length_cons, List.length_nil, Option.toList, true_and, and_true, eq_self, ↓reduceIte, not_true_eq_false, not_false_eq_true, true_or, or_true, List.append_eq, h1, ← e1, h2, ← e2]
    refine ⟨g2, fun y => ?_, fun y => absurd z y⟩
    rw [AtL.eq kl_2583]
    simp only [w_aload, w_iload, w_iconst, w_lconst, w_iadd, w_ialoads, w_call, w_istore, w_goto, w_fall, w_if, w_ifc, w_i2l, w_lcmp, w_zreturn, x_lald isA_316x, len_316x, cI, Int.reduceToNat, Option.toList, List.getElem?_cons_zero, List.getElem?_cons_succ, List.set_cons_zero, List.set_cons_succ, List.cons_append, List.nil_append, List.replicate_succ, List.replicate_zero, List.take_succ_cons, List.take_zero, List.drop_succ_cons, List.drop_zero, List.reverse_cons, List.reverse_nil, List.length_cons, List.length_nil, Option.toList, true_and, and_true, eq_self, ↓reduceIte, not_true_eq_false, not_false_eq_true, true_or, or_true, List.append_eq, h1, ← e1, h2, ← e2]
    rw [AtL.eq kl_2584]
    simp only [w_aload, w_iload, w_iconst, w_lconst, w_iadd, w_ialoads, w_call, w_istore, w_goto, w_fall, w_if, w_ifc, w_i2l, w_lcmp, w_zreturn, x_lald isA_316x, len_316x, cI, Int.reduceToNat, Option.toList, List.getElem?_cons_zero, List.getElem?_cons_succ, List.set_cons_zero, List.set_cons_succ, List.cons_append, List.nil_append, List.replicate_succ, List.replicate_zero, List.take_succ_cons, List.take_zero, List.drop_succ_cons, List.drop_zero, List.reverse_cons, List.reverse_nil, List.length_cons, List.length_nil, Option.toList, true_and, and_true, eq_self, ↓reduceIte, not_true_eq_false, not_false_eq_true, true_or, or_true, List.append_eq, h1, ← e1, h2, ← e2]
    refine ⟨⟨by omega, by omega⟩, ?_⟩
    refine lr (d + 10) _ (fun T b r2 th en p => ?_)
    obtain ⟨p1, p2⟩ := p
    simp only [w_aload, w_iload, w_iconst, w_lconst, w_iadd, w_ialoads, w_call, w_istore, w_goto, w_fall, w_if, w_ifc, w_i2l, w_lcmp, w_zreturn, x_lald isA_316x, len_316x, cI, Int.reduceToNat, Option.toList, List.getElem?_cons_zero, List.getElem?_cons_succ, List.set_cons_zero, List.set_cons_succ, List.cons_append, List.nil_append, List.replicate_succ, List.replicate_zero, List.take_succ_cons, List.take_zero, List.drop_succ_cons, List.drop_zero, List.reverse_cons, List.reverse_nil, List.length_cons, List.length_nil, Option.toList, true_and, and_true, eq_self, ↓reduceIte, not_true_eq_false, not_false_eq_true, true_or, or_true, List.append_eq, h1, ← e1, h2, ← e2]
    refine ⟨⟨by omega, by omega⟩, ?_⟩
    refine q_199 (d := d + 79) ?_
    simp only [w_aload, w_iload, w_iconst, w_lconst, w_iadd, w_ialoads, w_call, w_istore, w_goto, w_fall, w_if, w_ifc, w_i2l, w_lcmp, w_zreturn, x_lald isA_316x, len_316x, cI, Int.reduceToNat, Option.toList, List.getElem?_cons_zero, List.getElem?_cons_succ, List.set_cons_zero, List.set_cons_succ, List.cons_append, List.nil_append, List.replicate_succ, List.replicate_zero, List.take_succ_cons, List.take_zero, List.drop_succ_cons, List.drop_zero, List.reverse_cons, List.reverse_nil, List.length_cons, List.length_nil, Option.toList, true_and, and_true, eq_self, ↓reduceIte, not_true_eq_false, not_false_eq_true, true_or, or_true, List.append_eq, h1, ← e1, h2, ← e2]
    have e7 : T 300 0 = c := en.2.2.trans p1
    refine ⟨Or.inr e7, fun _ => ?_, fun w => absurd e7 w⟩
    rw [AtL.eq kl_2600]
    simp only [w_aload, w_iload, w_iconst, w_lconst, w_iadd, w_ialoads, w_call, w_istore, w_goto, w_fall, w_if, w_ifc, w_i2l, w_lcmp, w_zreturn, x_lald isA_316x, len_316x, cI, Int.reduceToNat, Option.toList, List.getElem?_cons_zero, List.getElem?_cons_succ, List.set_cons_zero, List.set_cons_succ, List.cons_append, List.nil_append, List.replicate_succ, List.replicate_zero, List.take_succ_cons, List.take_zero, List.drop_succ_cons, List.drop_zero, List.reverse_cons, List.reverse_nil, List.length_cons, List.length_nil, Option.toList, true_and, and_true, eq_self, ↓reduceIte, not_true_eq_false, not_false_eq_true, true_or, or_true, List.append_eq, h1, ← e1, h2, ← e2]
    refine ⟨by unfold R32; omega, fun y => ?_, fun y => ?_⟩
    · rw [AtL.eq kl_2617]
      simp only [w_aload, w_iload, w_iconst, w_lconst, w_iadd, w_ialoads, w_call, w_istore, w_goto, w_fall, w_if, w_ifc, w_i2l, w_lcmp, w_zreturn, x_lald isA_316x, len_316x, cI, Int.reduceToNat, Option.toList, List.getElem?_cons_zero, List.getElem?_cons_succ, List.set_cons_zero, List.set_cons_succ, List.cons_append, List.nil_append, List.replicate_succ, List.replicate_zero, List.take_succ_cons, List.take_zero, List.drop_succ_cons, List.drop_zero, List.reverse_cons, List.reverse_nil, List.length_cons, List.length_nil, Option.toList, true_and, and_true, eq_self, ↓reduceIte, not_true_eq_false, not_false_eq_true, true_or, or_true, List.append_eq, h1, ← e1, h2, ← e2]
      exact hK r2 T m1 _ _ en.1 g
    · have y0 : c = 0 := by omega
      obtain ⟨q1, q2⟩ := p2 y0
      have e9 : T 316 0 = b := (congrFun en.2.1 0).trans q1
      simp only [e9, cmp_self]
      refine ⟨⟨by decide, by decide⟩, q2, ⟨R64_32 q2, R64_32 q2⟩, R32_00, fun _ => ?_, fun w => by simp at w⟩
      rw [AtL.eq kl_2617]
      simp only [w_aload, w_iload, w_iconst, w_lconst, w_iadd, w_ialoads, w_call, w_istore, w_goto, w_fall, w_if, w_ifc, w_i2l, w_lcmp, w_zreturn, x_lald isA_316x, len_316x, cI, Int.reduceToNat, Option.toList, List.getElem?_cons_zero, List.getElem?_cons_succ, List.set_cons_zero, List.set_cons_succ, List.cons_append, List.nil_append, List.replicate_succ, List.replicate_zero, List.take_succ_cons, List.take_zero, List.drop_succ_cons, List.drop_zero, List.reverse_cons, List.reverse_nil, List.length_cons, List.length_nil, Option.toList, true_and, and_true, eq_self, ↓reduceIte, not_true_eq_false, not_false_eq_true, true_or, or_true, List.append_eq, h1, ← e1, h2, ← e2]
      exact hK r2 T m1 _ _ en.1 g
  · refine ⟨g2, fun y => absurd y z, fun y => ?_⟩
    rw [AtL.eq kl_2557]
    simp only [w_aload, w_iload, w_iconst, w_lconst, w_iadd, w_ialoads, w_call, w_istore, w_goto, w_fall, w_if, w_ifc, w_i2l, w_lcmp, w_zreturn, x_lald isA_316x, len_316x, cI, Int.reduceToNat, Option.toList, List.getElem?_cons_zero, List.getElem?_cons_succ, List.set_cons_zero, List.set_cons_succ, List.cons_append, List.nil_append, List.replicate_succ, List.replicate_zero, List.take_succ_cons, List.take_zero, List.drop_succ_cons, List.drop_zero, List.reverse_cons, List.reverse_nil, List.length_cons, List.length_nil, Option.toList, true_and, and_true, eq_self, ↓reduceIte, not_true_eq_false, not_false_eq_true, true_or, or_true, List.append_eq, h1, ← e1, h2, ← e2]
    refine ⟨⟨by omega, by omega⟩, ?_⟩
    refine (y_379 (p_188 g1 (show R32 1 from by unfold R32; decide) hX h)) (d + 8) _ (fun c S1 m1 c0 c3 g lr => ?_)
    simp only [w_aload, w_iload, w_iconst, w_lconst, w_iadd, w_ialoads, w_call, w_istore, w_goto, w_fall, w_if, w_ifc, w_i2l, w_lcmp, w_zreturn, x_lald isA_316x, len_316x, cI, Int.reduceToNat, Option.toList, List.getElem?_cons_zero, List.getElem?_cons_succ, List.set_cons_zero, List.set_cons_succ, List.cons_append, List.nil_append, List.replicate_succ, List.replicate_zero, List.take_succ_cons, List.take_zero, List.drop_succ_cons, List.drop_zero, List.reverse_cons, List.reverse_nil, List.length_cons, List.length_nil, Option.toList, true_and, and_true, eq_self, ↓reduceIte, not_true_eq_false, not_false_eq_true, true_or, or_true, List.append_eq, h1, ← e1, h2, ← e2]
    refine ⟨g2, fun y => absurd y z, fun y => ?_⟩
    rw [AtL.eq kl_2584]
    simp only [w_aload, w_iload, w_iconst, w_lconst, w_iadd, w_ialoads, w_call, w_istore, w_goto, w_fall, w_if, w_ifc, w_i2l, w_lcmp, w_zreturn, x_lald isA_316x, len_316x, cI, Int.reduceToNat, Option.toList, List.getElem?_cons_zero, List.getElem?_cons_succ, List.set_cons_zero, List.set_cons_succ, List.cons_append, List.nil_append, List.replicate_succ, List.replicate_zero, List.take_succ_cons, List.take_zero, List.drop_succ_cons, List.drop_zero, List.reverse_cons, List.reverse_nil, List.length_cons, List.length_nil, Option.toList, true_and, and_true, eq_self, ↓reduceIte, not_true_eq_false, not_false_eq_true, true_or, or_true, List.append_eq, h1, ← e1, h2, ← e2]
    refine ⟨⟨by omega, by omega⟩, ?_⟩
    refine lr (d + 10) _ (fun T b r2 th en p => ?_)
    obtain ⟨p1, p2⟩ := p
    simp only [w_aload, w_iload, w_iconst, w_lconst, w_iadd, w_ialoads, w_call, w_istore, w_goto, w_fall, w_if, w_ifc, w_i2l, w_lcmp, w_zreturn, x_lald isA_316x, len_316x, cI, Int.reduceToNat, Option.toList, List.getElem?_cons_zero, List.getElem?_cons_succ, List.set_cons_zero, List.set_cons_succ, List.cons_append, List.nil_append, List.replicate_succ, List.replicate_zero, List.take_succ_cons, List.take_zero, List.drop_succ_cons, List.drop_zero, List.reverse_cons, List.reverse_nil, List.length_cons, List.length_nil, Option.toList, true_and, and_true, eq_self, ↓reduceIte, not_true_eq_false, not_false_eq_true, true_or, or_true, List.append_eq, h1, ← e1, h2, ← e2]
    refine ⟨⟨by omega, by omega⟩, ?_⟩
    refine q_199 (d := d + 79) ?_
    simp only [w_aload, w_iload, w_iconst, w_lconst, w_iadd, w_ialoads, w_call, w_istore, w_goto, w_fall, w_if, w_ifc, w_i2l, w_lcmp, w_zreturn, x_lald isA_316x, len_316x, cI, Int.reduceToNat, Option.toList, List.getElem?_cons_zero, List.getElem?_cons_succ, List.set_cons_zero, List.set_cons_succ, List.cons_append, List.nil_append, List.replicate_succ, List.replicate_zero, List.take_succ_cons, List.take_zero, List.drop_succ_cons, List.drop_zero, List.reverse_cons, List.reverse_nil, List.length_cons, List.length_nil, Option.toList, true_and, and_true, eq_self, ↓reduceIte, not_true_eq_false, not_false_eq_true, true_or, or_true, List.append_eq, h1, ← e1, h2, ← e2]
    have e7 : T 300 0 = c := en.2.2.trans p1
    refine ⟨Or.inr e7, fun _ => ?_, fun w => absurd e7 w⟩
    rw [AtL.eq kl_2600]
    simp only [w_aload, w_iload, w_iconst, w_lconst, w_iadd, w_ialoads, w_call, w_istore, w_goto, w_fall, w_if, w_ifc, w_i2l, w_lcmp, w_zreturn, x_lald isA_316x, len_316x, cI, Int.reduceToNat, Option.toList, List.getElem?_cons_zero, List.getElem?_cons_succ, List.set_cons_zero, List.set_cons_succ, List.cons_append, List.nil_append, List.replicate_succ, List.replicate_zero, List.take_succ_cons, List.take_zero, List.drop_succ_cons, List.drop_zero, List.reverse_cons, List.reverse_nil, List.length_cons, List.length_nil, Option.toList, true_and, and_true, eq_self, ↓reduceIte, not_true_eq_false, not_false_eq_true, true_or, or_true, List.append_eq, h1, ← e1, h2, ← e2]
    refine ⟨by unfold R32; omega, fun y => ?_, fun y => ?_⟩
    · rw [AtL.eq kl_2617]
      simp only [w_aload, w_iload, w_iconst, w_lconst, w_iadd, w_ialoads, w_call, w_istore, w_goto, w_fall, w_if, w_ifc, w_i2l, w_lcmp, w_zreturn, x_lald isA_316x, len_316x, cI, Int.reduceToNat, Option.toList, List.getElem?_cons_zero, List.getElem?_cons_succ, List.set_cons_zero, List.set_cons_succ, List.cons_append, List.nil_append, List.replicate_succ, List.replicate_zero, List.take_succ_cons, List.take_zero, List.drop_succ_cons, List.drop_zero, List.reverse_cons, List.reverse_nil, List.length_cons, List.length_nil, Option.toList, true_and, and_true, eq_self, ↓reduceIte, not_true_eq_false, not_false_eq_true, true_or, or_true, List.append_eq, h1, ← e1, h2, ← e2]
      exact hK r2 T m1 _ _ en.1 g
    · have y0 : c = 0 := by omega
      obtain ⟨q1, q2⟩ := p2 y0
      have e9 : T 316 0 = b := (congrFun en.2.1 0).trans q1
      simp only [e9, cmp_self]
      refine ⟨⟨by decide, by decide⟩, q2, ⟨R64_32 q2, R64_32 q2⟩, R32_00, fun _ => ?_, fun w => by simp at w⟩
      rw [AtL.eq kl_2617]
      simp only [w_aload, w_iload, w_iconst, w_lconst, w_iadd, w_ialoads, w_call, w_istore, w_goto, w_fall, w_if, w_ifc, w_i2l, w_lcmp, w_zreturn, x_lald isA_316x, len_316x, cI, Int.reduceToNat, Option.toList, List.getElem?_cons_zero, List.getElem?_cons_succ, List.set_cons_zero, List.set_cons_succ, List.cons_append, List.nil_append, List.replicate_succ, List.replicate_zero, List.take_succ_cons, List.take_zero, List.drop_succ_cons, List.drop_zero, List.reverse_cons, List.reverse_nil, List.length_cons, List.length_nil, Option.toList, true_and, and_true, eq_self, ↓reduceIte, not_true_eq_false, not_false_eq_true, true_or, or_true, List.append_eq, h1, ← e1, h2, ← e2]
      exact hK r2 T m1 _ _ en.1 g
theorem s_2620 (hX : tb.2.1 = strB) (hD : tb.1 2 = [vi 0, vn, vn, vn, vn, vn]) (h0 : 0 ≤ i) (h6 : i + 6 ≤ (tb.2.2.1 : Int)) (hf : ∀ j, R32 (tb.2.2.2 j)) : CASE tb (d + 80) K 2620 i := by
  intro r S m z5 z6 h hK
  have h1 : 0 ≤ i + 1 ∧ i + 1 < (tb.2.2.1 : Int) := by omega
  have g1 := hf (i + 1).toNat
  obtain ⟨x1, e1⟩ : ∃ x, x = tb.2.2.2 (i + 1).toNat := ⟨_, rfl⟩
  rw [← e1] at g1
  have h2 : 0 ≤ i + 2 ∧ i + 2 < (tb.2.2.1 : Int) := by omega
  have g2 := hf (i + 2).toNat
  obtain ⟨x2, e2⟩ : ∃ x, x = tb.2.2.2 (i + 2).toNat := ⟨_, rfl⟩
  rw [← e2] at g2
  rw [AtL.eq kl_2620]
  simp only [w_aload, w_iload, w_iconst, w_lconst, w_iadd, w_ialoads, w_call, w_istore, w_goto, w_fall, w_if, w_ifc, w_i2l, w_lcmp, w_zreturn, x_lald isA_316x, len_316x, cI, Int.reduceToNat, Option.toList, List.getElem?_cons_zero, List.getElem?_cons_succ, List.set_cons_zero, List.set_cons_succ, List.cons_append, List.nil_append, List.replicate_succ, List.replicate_zero, List.take_succ_cons, List.take_zero, List.drop_succ_cons, List.drop_zero, List.reverse_cons, List.reverse_nil, List.length_cons, List.length_nil, Option.toList, true_and, and_true, eq_self, ↓reduceIte, not_true_eq_false, not_false_eq_true, true_or, or_true, List.append_eq, h1, ← e1, h2, ← e2]
  by_cases z : x2 = 0
  · refine ⟨g2, fun y => ?_, fun y => absurd z y⟩
    rw [AtL.eq kl_2640]
    simp only [w_aload, w_iload, w_iconst, w_lconst, w_iadd, w_ialoads, w_call, w_istore, w_goto, w_fall, w_if, w_ifc, w_i2l, w_lcmp, w_zreturn, x_lald isA_316x, len_316x, cI, Int.reduceToNat, Option.toList, List.getElem?_cons_zero, List.getElem?_cons_succ, List.set_cons_zero, List.set_cons_succ, List.cons_append, List.nil_append, List.replicate_succ, List.replicate_zero, List.take_succ_cons, List.take_zero, List.drop_succ_cons, List.drop_zero, List.reverse_cons, List.reverse_nil, List.length_cons, List.length_nil, Option.toList, true_and, and_true, eq_self, ↓reduceIte, not_true_eq_false, not_false_eq_true, true_or, or_true, List.append_eq, h1, ← e1, h2, ← e2]
    rw [AtL.eq kl_2641]
    simp only [w_aload, w_iload, w_iconst, w_lconst, w_iadd, w_ialoads, w_call, w_istore, w_goto, w_fall, w_if, w_ifc, w_i2l, w_lcmp, w_zreturn, x_lald isA_316x, len_316x, cI, Int.reduceToNat, Option.toList, List.getElem?_cons_zero, List.getElem?_cons_succ, List.set_cons_zero, List.set_cons_succ, List.cons_append, List.nil_append, List.replicate_succ, List.replicate_zero, List.take_succ_cons, List.take_zero, List.drop_succ_cons, List.drop_zero, List.reverse_cons, List.reverse_nil, List.length_cons, List.length_nil, Option.toList, true_and, and_true, eq_self, ↓reduceIte, not_true_eq_false, not_false_eq_true, true_or, or_true, List.append_eq, h1, ← e1, h2, ← e2]
    refine ⟨⟨by omega, by omega⟩, ?_⟩
    refine (y_380 (p_190 g1 (show R32 0 from by unfold R32; decide) hX h)) (d + 8) _ (fun c S1 m1 c0 c3 g lr => ?_)
    simp only [w_aload, w_iload, w_iconst, w_lconst, w_iadd, w_ialoads, w_call, w_istore, w_goto, w_fall, w_if, w_ifc, w_i2l, w_lcmp, w_zreturn, x_lald isA_316x, len_316x, cI, Int.reduceToNat, Option.toList, List.getElem?_cons_zero, List.getElem?_cons_succ, List.set_cons_zero, List.set_cons_succ, List.cons_append, List.nil_append, List.replicate_succ, List.replicate_zero, List.take_succ_cons, List.take_zero, List.drop_succ_cons, List.drop_zero, List.reverse_cons, List.reverse_nil, List.length_cons, List.length_nil, Option.toList, true_and, and_true, eq_self, ↓reduceIte, not_true_eq_false, not_false_eq_true, true_or, or_true, List.append_eq, h1, ← e1, h2, ← e2]
    refine ⟨g2, fun y => ?_, fun y => absurd z y⟩
    rw [AtL.eq kl_2667]
    simp only [w_aload, w_iload, w_iconst, w_lconst, w_iadd, w_ialoads, w_call, w_istore, w_goto, w_fall, w_if, w_ifc, w_i2l, w_lcmp, w_zreturn, x_lald isA_316x, len_316x, cI, Int.reduceToNat, Option.toList, List.getElem?_cons_zero, List.getElem?_cons_succ, List.set_cons_zero, List.set_cons_succ, List.cons_append, List.nil_append, List.replicate_succ, List.replicate_zero, List.take_succ_cons, List.take_zero, List.drop_succ_cons, List.drop_zero, List.reverse_cons, List.reverse_nil, List.length_cons, List.length_nil, Option.toList, true_and, and_true, eq_self, ↓reduceIte, not_true_eq_false, not_false_eq_true, true_or, or_true, List.append_eq, h1, ← e1, h2, ← e2]
    rw [AtL.eq kl_2668]
    simp only [w_aload, w_iload, w_iconst, w_lconst, w_iadd, w_ialoads, w_call, w_istore, w_goto, w_fall, w_if, w_ifc, w_i2l, w_lcmp, w_zreturn, x_lald isA_316x, len_316x, cI, Int.reduceToNat, Option.toList, List.getElem?_cons_zero, List.getElem?_cons_succ, List.set_cons_zero, List.set_cons_succ, List.cons_append, List.nil_append, List.replicate_succ, List.replicate_zero, List.take_succ_cons, List.take_zero, List.drop_succ_cons, List.drop_zero, List.reverse_cons, List.reverse_nil, List.length_cons, List.length_nil, Option.toList, true_and, and_true, eq_self, ↓reduceIte, not_true_eq_false, not_false_eq_true, true_or, or_true, List.append_eq, h1, ← e1, h2, ← e2]
    refine ⟨⟨by omega, by omega⟩, ?_⟩
    refine lr (d + 10) _ (fun T b r2 th en p => ?_)
    obtain ⟨p1, p2⟩ := p
    simp only [w_aload, w_iload, w_iconst, w_lconst, w_iadd, w_ialoads, w_call, w_istore, w_goto, w_fall, w_if, w_ifc, w_i2l, w_lcmp, w_zreturn, x_lald isA_316x, len_316x, cI, Int.reduceToNat, Option.toList, List.getElem?_cons_zero, List.getElem?_cons_succ, List.set_cons_zero, List.set_cons_succ, List.cons_append, List.nil_append, List.replicate_succ, List.replicate_zero, List.take_succ_cons, List.take_zero, List.drop_succ_cons, List.drop_zero, List.reverse_cons, List.reverse_nil, List.length_cons, List.length_nil, Option.toList, true_and, and_true, eq_self, ↓reduceIte, not_true_eq_false, not_false_eq_true, true_or, or_true, List.append_eq, h1, ← e1, h2, ← e2]
    refine ⟨⟨by omega, by omega⟩, ?_⟩
    refine q_199 (d := d + 79) ?_
    simp only [w_aload, w_iload, w_iconst, w_lconst, w_iadd, w_ialoads, w_call, w_istore, w_goto, w_fall, w_if, w_ifc, w_i2l, w_lcmp, w_zreturn, x_lald isA_316x, len_316x, cI, Int.reduceToNat, Option.toList, List.getElem?_cons_zero, List.getElem?_cons_succ, List.set_cons_zero, List.set_cons_succ, List.cons_append, List.nil_append, List.replicate_succ, List.replicate_zero, List.take_succ_cons, List.take_zero, List.drop_succ_cons, List.drop_zero, List.reverse_cons, List.reverse_nil, List.length_cons, List.length_nil, Option.toList, true_and, and_true, eq_self, ↓reduceIte, not_true_eq_false, not_false_eq_true, true_or, or_true, List.append_eq, h1, ← e1, h2, ← e2]
    have e7 : T 300 0 = c := en.2.2.trans p1
    refine ⟨Or.inr e7, fun _ => ?_, fun w => absurd e7 w⟩
    rw [AtL.eq kl_2684]
    simp only [w_aload, w_iload, w_iconst, w_lconst, w_iadd, w_ialoads, w_call, w_istore, w_goto, w_fall, w_if, w_ifc, w_i2l, w_lcmp, w_zreturn, x_lald isA_316x, len_316x, cI, Int.reduceToNat, Option.toList, List.getElem?_cons_zero, List.getElem?_cons_succ, List.set_cons_zero, List.set_cons_succ, List.cons_append, List.nil_append, List.replicate_succ, List.replicate_zero, List.take_succ_cons, List.take_zero, List.drop_succ_cons, List.drop_zero, List.reverse_cons, List.reverse_nil, List.length_cons, List.length_nil, Option.toList, true_and, and_true, eq_self, ↓reduceIte, not_true_eq_false, not_false_eq_true, true_or, or_true, List.append_eq, h1, ← e1, h2, ← e2]
    refine ⟨by unfold R32; omega, fun y => ?_, fun y => ?_⟩
    · rw [AtL.eq kl_2701]
      simp only [w_aload, w_iload, w_iconst, w_lconst, w_iadd, w_ialoads, w_call, w_istore, w_goto, w_fall, w_if, w_ifc, w_i2l, w_lcmp, w_zreturn, x_lald isA_316x, len_316x, cI, Int.reduceToNat, Option.toList, List.getElem?_cons_zero, List.getElem?_cons_succ, List.set_cons_zero, List.set_cons_succ, List.cons_append, List.nil_append, List.replicate_succ, List.replicate_zero, List.take_succ_cons, List.take_zero, List.drop_succ_cons, List.drop_zero, List.reverse_cons, List.reverse_nil, List.length_cons, List.length_nil, Option.toList, true_and, and_true, eq_self, ↓reduceIte, not_true_eq_false, not_false_eq_true, true_or, or_true, List.append_eq, h1, ← e1, h2, ← e2]
      exact hK r2 T m1 _ _ en.1 g
    · have y0 : c = 0 := by omega
      obtain ⟨q1, q2⟩ := p2 y0
      have e9 : T 316 0 = b := (congrFun en.2.1 0).trans q1
      simp only [e9, cmp_self]
      refine ⟨⟨by decide, by decide⟩, q2, ⟨R64_32 q2, R64_32 q2⟩, R32_00, fun _ => ?_, fun w => by simp at w⟩
      rw [AtL.eq kl_2701]
      simp only [w_aload, w_iload, w_iconst, w_lconst, w_iadd, w_ialoads, w_call, w_istore, w_goto, w_fall, w_if, w_ifc, w_i2l, w_lcmp, w_zreturn, x_lald isA_316x, len_316x, cI, Int.reduceToNat, Option.toList, List.getElem?_cons_zero, List.getElem?_cons_succ, List.set_cons_zero, List.set_cons_succ, List.cons_append, List.nil_append, List.replicate_succ, List.replicate_zero, List.take_succ_cons, List.take_zero, List.drop_succ_cons, List.drop_zero, List.reverse_cons, List.reverse_nil, List.length_cons, List.length_nil, Option.toList, true_and, and_true, eq_self, ↓reduceIte, not_true_eq_false, not_false_eq_true, true_or, or_true, List.append_eq, h1, ← e1, h2, ← e2]
      exact hK r2 T m1 _ _ en.1 g
  · refine ⟨g2, fun y => absurd y z, fun y => ?_⟩
    rw [AtL.eq kl_2641]
    simp only [w_aload, w_iload, w_iconst, w_lconst, w_iadd, w_ialoads, w_call, w_istore, w_goto, w_fall, w_if, w_ifc, w_i2l, w_lcmp, w_zreturn, x_lald isA_316x, len_316x, cI, Int.reduceToNat, Option.toList, List.getElem?_cons_zero, List.getElem?_cons_succ, List.set_cons_zero, List.set_cons_succ, List.cons_append, List.nil_append, List.replicate_succ, List.replicate_zero, List.take_succ_cons, List.take_zero, List.drop_succ_cons, List.drop_zero, List.reverse_cons, List.reverse_nil, List.length_cons, List.length_nil, Option.toList, true_and, and_true, eq_self, ↓reduceIte, not_true_eq_false, not_false_eq_true, true_or, or_true, List.append_eq, h1, ← e1, h2, ← e2]
    refine ⟨⟨by omega, by omega⟩, ?_⟩
    refine (y_380 (p_190 g1 (show R32 1 from by unfold R32; decide) hX h)) (d + 8) _ (fun c S1 m1 c0 c3 g lr => ?_)
    simp only [w_aload, w_iload, w_iconst, w_lconst, w_iadd, w_ialoads, w_call, w_istore, w_goto, w_fall, w_if, w_ifc, w_i2l, w_lcmp, w_zreturn, x_lald isA_316x, len_316x, cI, Int.reduceToNat, Option.toList, List.getElem?_cons_zero, List.getElem?_cons_succ, List.set_cons_zero, List.set_cons_succ, List.cons_append, List.nil_append, List.replicate_succ, List.replicate_zero, List.take_succ_cons, List.take_zero, List.drop_succ_cons, List.drop_zero, List.reverse_cons, List.reverse_nil, List.length_cons, List.length_nil, Option.toList, true_and, and_true, eq_self, ↓reduceIte, not_true_eq_false, not_false_eq_true, true_or, or_true, List.append_eq, h1, ← e1, h2, ← e2]
    refine ⟨g2, fun y => absurd y z, fun y => ?_⟩
    rw [AtL.eq kl_2668]
    simp only [w_aload, w_iload, w_iconst, w_lconst, w_iadd, w_ialoads, w_call, w_istore, w_goto, w_fall, w_if, w_ifc, w_i2l, w_lcmp, w_zreturn, x_lald isA_316x, len_316x, cI, Int.reduceToNat, Option.toList, List.getElem?_cons_zero, List.getElem?_cons_succ, List.set_cons_zero, List.set_cons_succ, List.cons_append, List.nil_append, List.replicate_succ, List.replicate_zero, List.take_succ_cons, List.take_zero, List.drop_succ_cons, List.drop_zero, List.reverse_cons, List.reverse_nil, List.length_cons, List.length_nil, Option.toList, true_and, and_true, eq_self, ↓reduceIte, not_true_eq_false, not_false_eq_true, true_or, or_true, List.append_eq, h1, ← e1, h2, ← e2]
    refine ⟨⟨by omega, by omega⟩, ?_⟩
    refine lr (d + 10) _ (fun T b r2 th en p => ?_)
    obtain ⟨p1, p2⟩ := p
    simp only [w_aload, w_iload, w_iconst, w_lconst, w_iadd, w_ialoads, w_call, w_istore, w_goto, w_fall, w_if, w_ifc, w_i2l, w_lcmp, w_zreturn, x_lald isA_316x, len_316x, cI, Int.reduceToNat, Option.toList, List.getElem?_cons_zero, List.getElem?_cons_succ, List.set_cons_zero, List.set_cons_succ, List.cons_append, List.nil_append, List.replicate_succ, List.replicate_zero, List.take_succ_cons, List.take_zero, List.drop_succ_cons, List.drop_zero, List.reverse_cons, List.reverse_nil, List.length_cons, List.length_nil, Option.toList, true_and, and_true, eq_self, ↓reduceIte, not_true_eq_false, not_false_eq_true, true_or, or_true, List.append_eq, h1, ← e1, h2, ← e2]
    refine ⟨⟨by omega, by omega⟩, ?_⟩
    refine q_199 (d := d + 79) ?_
    simp only [w_aload, w_iload, w_iconst, w_lconst, w_iadd, w_ialoads, w_call, w_istore, w_goto, w_fall, w_if, w_ifc, w_i2l, w_lcmp, w_zreturn, x_lald isA_316x, len_316x, cI, Int.reduceToNat, Option.toList, List.getElem?_cons_zero, List.getElem?_cons_succ, List.set_cons_zero, List.set_cons_succ, List.cons_append, List.nil_append, List.replicate_succ, List.replicate_zero, List.take_succ_cons, List.take_zero, List.drop_succ_cons, List.drop_zero, List.reverse_cons, List.reverse_nil, List.length_cons, List.length_nil, Option.toList, true_and, and_true, eq_self, ↓reduceIte, not_true_eq_false, not_false_eq_true, true_or, or_true, List.append_eq, h1, ← e1, h2, ← e2]
    have e7 : T 300 0 = c := en.2.2.trans p1
    refine ⟨Or.inr e7, fun _ => ?_, fun w => absurd e7 w⟩
    rw [AtL.eq kl_2684]
    simp only [w_aload, w_iload, w_iconst, w_lconst, w_iadd, w_ialoads, w_call, w_istore, w_goto, w_fall, w_if, w_ifc, w_i2l, w_lcmp, w_zreturn, x_lald isA_316x, len_316x, cI, Int.reduceToNat, Option.toList, List.getElem?_cons_zero, List.getElem?_cons_succ, List.set_cons_zero, List.set_cons_succ, List.cons_append, List.nil_append, List.replicate_succ, List.replicate_zero, List.take_succ_cons, List.take_zero, List.drop_succ_cons, List.drop_zero, List.reverse_cons, List.reverse_nil, List.length_cons, List.length_nil, Option.toList, true_and, and_true, eq_self, ↓reduceIte, not_true_eq_false, not_false_eq_true, true_or, or_true, List.append_eq, h1, ← e1, h2, ← e2]
    refine ⟨by unfold R32; omega, fun y => ?_, fun y => ?_⟩
    · rw [AtL.eq kl_2701]
      simp only [w_aload, w_iload, w_iconst, w_lconst, w_iadd, w_ialoads, w_call, w_istore, w_goto, w_fall, w_if, w_ifc, w_i2l, w_lcmp, w_zreturn, x_lald isA_316x, len_316x, cI, Int.reduceToNat, Option.toList, List.getElem?_cons_zero, List.getElem?_cons_succ, List.set_cons_zero, List.set_cons_succ, List.cons_append, List.nil_append, List.replicate_succ, List.replicate_zero, List.take_succ_cons, List.take_zero, List.drop_succ_cons, List.drop_zero, List.reverse_cons, List.reverse_nil, List.length_cons, List.length_nil, Option.toList, true_and, and_true, eq_self, ↓reduceIte, not_true_eq_false, not_false_eq_true, true_or, or_true, List.append_eq, h1, ← e1, h2, ← e2]
      exact hK r2 T m1 _ _ en.1 g
    · have y0 : c = 0 := by omega
      obtain ⟨q1, q2⟩ := p2 y0
      have e9 : T 316 0 = b := (congrFun en.2.1 0).trans q1
      simp only [e9, cmp_self]
      refine ⟨⟨by decide, by decide⟩, q2, ⟨R64_32 q2, R64_32 q2⟩, R32_00, fun _ => ?_, fun w => by simp at w⟩
      rw [AtL.eq kl_2701]
      simp only [w_aload, w_iload, w_iconst, w_lconst, w_iadd, w_ialoads, w_call, w_istore, w_goto, w_fall, w_if, w_ifc, w_i2l, w_lcmp, w_zreturn, x_lald isA_316x, len_316x, cI, Int.reduceToNat, Option.toList, List.getElem?_cons_zero, List.getElem?_cons_succ, List.set_cons_zero, List.set_cons_succ, List.cons_append, List.nil_append, List.replicate_succ, List.replicate_zero, List.take_succ_cons, List.take_zero, List.drop_succ_cons, List.drop_zero, List.reverse_cons, List.reverse_nil, List.length_cons, List.length_nil, Option.toList, true_and, and_true, eq_self, ↓reduceIte, not_true_eq_false, not_false_eq_true, true_or, or_true, List.append_eq, h1, ← e1, h2, ← e2]
      exact hK r2 T m1 _ _ en.1 g
theorem s_2704 (hX : tb.2.1 = strB) (hD : tb.1 2 = [vi 0, vn, vn, vn, vn, vn]) (h0 : 0 ≤ i) (h6 : i + 6 ≤ (tb.2.2.1 : Int)) (hf : ∀ j, R32 (tb.2.2.2 j)) : CASE tb (d + 80) K 2704 i := by
  intro r S m z5 z6 h hK
  have h1 : 0 ≤ i + 1 ∧ i + 1 < (tb.2.2.1 : Int) := by omega
  have g1 := hf (i + 1).toNat
  obtain ⟨x1, e1⟩ : ∃ x, x = tb.2.2.2 (i + 1).toNat := ⟨_, rfl⟩
  rw [← e1] at g1
  have h2 : 0 ≤ i + 2 ∧ i + 2 < (tb.2.2.1 : Int) := by omega
  have g2 := hf (i + 2).toNat
  obtain ⟨x2, e2⟩ : ∃ x, x = tb.2.2.2 (i + 2).toNat := ⟨_, rfl⟩
  rw [← e2] at g2
  rw [AtL.eq kl_2704]
  simp only [w_aload, w_iload, w_iconst, w_lconst, w_iadd, w_ialoads, w_call, w_istore, w_goto, w_fall, w_if, w_ifc, w_i2l, w_lcmp, w_zreturn, x_lald isA_316x, len_316x, cI, Int.reduceToNat, Option.toList, List.getElem?_cons_zero, List.getElem?_cons_succ, List.set_cons_zero, List.set_cons_succ, List.cons_append, List.nil_append, List.replicate_succ, List.replicate_zero, List.take_succ_cons, List.take_zero, List.drop_succ_cons, List.drop_zero, List.reverse_cons, List.reverse_nil, List.length_cons, List.length_nil, Option.toList, true_and, and_true, eq_self, ↓reduceIte, not_true_eq_false, not_false_eq_true, true_or, or_true, List.append_eq, h1, ← e1, h2, ← e2]
  refine ⟨⟨by omega, by omega⟩, ?_⟩
  refine (y_381 (p_191 g1 g2 hX h)) (d + 8) _ (fun c S1 m1 c0 c3 g lr => ?_)
  simp only [w_aload, w_iload, w_iconst, w_lconst, w_iadd, w_ialoads, w_call, w_istore, w_goto, w_fall, w_if, w_ifc, w_i2l, w_lcmp, w_zreturn, x_lald isA_316x, len_316x, cI, Int.reduceToNat, Option.toList, List.getElem?_cons_zero, List.getElem?_cons_succ, List.set_cons_zero, List.set_cons_succ, List.cons_append, List.nil_append, List.replicate_succ, List.replicate_zero, List.take_succ_cons, List.take_zero, List.drop_succ_cons, List.drop_zero, List.reverse_cons, List.reverse_nil, List.length_cons, List.length_nil, Option.toList, true_and, and_true, eq_self, ↓reduceIte, not_true_eq_false, not_false_eq_true, true_or, or_true, List.append_eq, h1, ← e1, h2, ← e2]
  refine ⟨⟨by omega, by omega⟩, ?_⟩
  refine lr (d + 10) _ (fun T b r2 th en p => ?_)
  obtain ⟨p1, p2⟩ := p
  simp only [w_aload, w_iload, w_iconst, w_lconst, w_iadd, w_ialoads, w_call, w_istore, w_goto, w_fall, w_if, w_ifc, w_i2l, w_lcmp, w_zreturn, x_lald isA_316x, len_316x, cI, Int.reduceToNat, Option.toList, List.getElem?_cons_zero, List.getElem?_cons_succ, List.set_cons_zero, List.set_cons_succ, List.cons_append, List.nil_append, List.replicate_succ, List.replicate_zero, List.take_succ_cons, List.take_zero, List.drop_succ_cons, List.drop_zero, List.reverse_cons, List.reverse_nil, List.length_cons, List.length_nil, Option.toList, true_and, and_true, eq_self, ↓reduceIte, not_true_eq_false, not_false_eq_true, true_or, or_true, List.append_eq, h1, ← e1, h2, ← e2]
  refine ⟨⟨by omega, by omega⟩, ?_⟩
  refine q_199 (d := d + 79) ?_
  simp only [w_aload, w_iload, w_iconst, w_lconst, w_iadd, w_ialoads, w_call, w_istore, w_goto, w_fall, w_if, w_ifc, w_i2l, w_lcmp, w_zreturn, x_lald isA_316x, len_316x, cI, Int.reduceToNat, Option.toList, List.getElem?_cons_zero, List.getElem?_cons_succ, List.set_cons_zero, List.set_cons_succ, List.cons_append, List.nil_append, List.replicate_succ, List.replicate_zero, List.take_succ_cons, List.take_zero, List.drop_succ_cons, List.drop_zero, List.reverse_cons, List.reverse_nil, List.length_cons, List.length_nil, Option.toList, true_and, and_true, eq_self, ↓reduceIte, not_true_eq_false, not_false_eq_true, true_or, or_true, List.append_eq, h1, ← e1, h2, ← e2]
  have e7 : T 300 0 = c := en.2.2.trans p1
  refine ⟨Or.inr e7, fun _ => ?_, fun w => absurd e7 w⟩
  rw [AtL.eq kl_2752]
  simp only [w_aload, w_iload, w_iconst, w_lconst, w_iadd, w_ialoads, w_call, w_istore, w_goto, w_fall, w_if, w_ifc, w_i2l, w_lcmp, w_zreturn, x_lald isA_316x, len_316x, cI, Int.reduceToNat, Option.toList, List.getElem?_cons_zero, List.getElem?_cons_succ, List.set_cons_zero, List.set_cons_succ, List.cons_append, List.nil_append, List.replicate_succ, List.replicate_zero, List.take_succ_cons, List.take_zero, List.drop_succ_cons, List.drop_zero, List.reverse_cons, List.reverse_nil, List.length_cons, List.length_nil, Option.toList, true_and, and_true, eq_self, ↓reduceIte, not_true_eq_false, not_false_eq_true, true_or, or_true, List.append_eq, h1, ← e1, h2, ← e2]
  refine ⟨by unfold R32; omega, fun y => ?_, fun y => ?_⟩
  · rw [AtL.eq kl_2769]
    simp only [w_aload, w_iload, w_iconst, w_lconst, w_iadd, w_ialoads, w_call, w_istore, w_goto, w_fall, w_if, w_ifc, w_i2l, w_lcmp, w_zreturn, x_lald isA_316x, len_316x, cI, Int.reduceToNat, Option.toList, List.getElem?_cons_zero, List.getElem?_cons_succ, List.set_cons_zero, List.set_cons_succ, List.cons_append, List.nil_append, List.replicate_succ, List.replicate_zero, List.take_succ_cons, List.take_zero, List.drop_succ_cons, List.drop_zero, List.reverse_cons, List.reverse_nil, List.length_cons, List.length_nil, Option.toList, true_and, and_true, eq_self, ↓reduceIte, not_true_eq_false, not_false_eq_true, true_or, or_true, List.append_eq, h1, ← e1, h2, ← e2]
    exact hK r2 T m1 _ _ en.1 g
  · have y0 : c = 0 := by omega
    obtain ⟨q1, q2⟩ := p2 y0
    have e9 : T 316 0 = b := (congrFun en.2.1 0).trans q1
    simp only [e9, cmp_self]
    refine ⟨⟨by decide, by decide⟩, q2, ⟨R64_32 q2, R64_32 q2⟩, R32_00, fun _ => ?_, fun w => by simp at w⟩
    rw [AtL.eq kl_2769]
    simp only [w_aload, w_iload, w_iconst, w_lconst, w_iadd, w_ialoads, w_call, w_istore, w_goto, w_fall, w_if, w_ifc, w_i2l, w_lcmp, w_zreturn, x_lald isA_316x, len_316x, cI, Int.reduceToNat, Option.toList, List.getElem?_cons_zero, List.getElem?_cons_succ, List.set_cons_zero, List.set_cons_succ, List.cons_append, List.nil_append, List.replicate_succ, List.replicate_zero, List.take_succ_cons, List.take_zero, List.drop_succ_cons, List.drop_zero, List.reverse_cons, List.reverse_nil, List.length_cons, List.length_nil, Option.toList, true_and, and_true, eq_self, ↓reduceIte, not_true_eq_false, not_false_eq_true, true_or, or_true, List.append_eq, h1, ← e1, h2, ← e2]
    exact hK r2 T m1 _ _ en.1 g
theorem s_2772 (hX : tb.2.1 = strB) (hD : tb.1 2 = [vi 0, vn, vn, vn, vn, vn]) (h0 : 0 ≤ i) (h6 : i + 6 ≤ (tb.2.2.1 : Int)) (hf : ∀ j, R32 (tb.2.2.2 j)) : CASE tb (d + 80) K 2772 i := by
  intro r S m z5 z6 h hK
  have h1 : 0 ≤ i + 1 ∧ i + 1 < (tb.2.2.1 : Int) := by omega
  have g1 := hf (i + 1).toNat
  obtain ⟨x1, e1⟩ : ∃ x, x = tb.2.2.2 (i + 1).toNat := ⟨_, rfl⟩
  rw [← e1] at g1
  rw [AtL.eq kl_2772]
  simp only [w_aload, w_iload, w_iconst, w_lconst, w_iadd, w_ialoads, w_call, w_istore, w_goto, w_fall, w_if, w_ifc, w_i2l, w_lcmp, w_zreturn, x_lald isA_316x, len_316x, cI, Int.reduceToNat, Option.toList, List.getElem?_cons_zero, List.getElem?_cons_succ, List.set_cons_zero, List.set_cons_succ, List.cons_append, List.nil_append, List.replicate_succ, List.replicate_zero, List.take_succ_cons, List.take_zero, List.drop_succ_cons, List.drop_zero, List.reverse_cons, List.reverse_nil, List.length_cons, List.length_nil, Option.toList, true_and, and_true, eq_self, ↓reduceIte, not_true_eq_false, not_false_eq_true, true_or, or_true, List.append_eq, h1, ← e1]
  refine ⟨⟨by omega, by omega⟩, ?_⟩
  refine (p_192 h) (d + 10) _ (fun v S1 m1 _ g nx => ?_) (fun E c S1 m1 he _ _ => by simp at he)
  simp only [w_aload, w_iload, w_iconst, w_lconst, w_iadd, w_ialoads, w_call, w_istore, w_goto, w_fall, w_if, w_ifc, w_i2l, w_lcmp, w_zreturn, x_lald isA_316x, len_316x, cI, Int.reduceToNat, Option.toList, List.getElem?_cons_zero, List.getElem?_cons_succ, List.set_cons_zero, List.set_cons_succ, List.cons_append, List.nil_append, List.replicate_succ, List.replicate_zero, List.take_succ_cons, List.take_zero, List.drop_succ_cons, List.drop_zero, List.reverse_cons, List.reverse_nil, List.length_cons, List.length_nil, Option.toList, true_and, and_true, eq_self, ↓reduceIte, not_true_eq_false, not_false_eq_true, true_or, or_true, List.append_eq, h1, ← e1]
  refine ⟨⟨by omega, by omega⟩, ?_⟩
  refine nx S1 (fun _ _ => rfl) (d + 10) _ (fun T b r2 th en p => ?_)
  simp only [w_aload, w_iload, w_iconst, w_lconst, w_iadd, w_ialoads, w_call, w_istore, w_goto, w_fall, w_if, w_ifc, w_i2l, w_lcmp, w_zreturn, x_lald isA_316x, len_316x, cI, Int.reduceToNat, Option.toList, List.getElem?_cons_zero, List.getElem?_cons_succ, List.set_cons_zero, List.set_cons_succ, List.cons_append, List.nil_append, List.replicate_succ, List.replicate_zero, List.take_succ_cons, List.take_zero, List.drop_succ_cons, List.drop_zero, List.reverse_cons, List.reverse_nil, List.length_cons, List.length_nil, Option.toList, true_and, and_true, eq_self, ↓reduceIte, not_true_eq_false, not_false_eq_true, true_or, or_true, List.append_eq, h1, ← e1]
  refine ⟨Or.inr p.2.symm, fun _ => hK r2 T m1 _ _ en.1 g, fun w => absurd p.2.symm w⟩
theorem s_2797 (hX : tb.2.1 = strB) (hD : tb.1 2 = [vi 0, vn, vn, vn, vn, vn]) (h0 : 0 ≤ i) (h6 : i + 6 ≤ (tb.2.2.1 : Int)) (hf : ∀ j, R32 (tb.2.2.2 j)) : CASE tb (d + 80) K 2797 i := by
  intro r S m z5 z6 h hK
  rw [AtL.eq kl_2797]
  simp only [w_aload, w_iload, w_iconst, w_lconst, w_iadd, w_ialoads, w_call, w_istore, w_goto, w_fall, w_if, w_ifc, w_i2l, w_lcmp, w_zreturn, x_lald isA_316x, len_316x, cI, Int.reduceToNat, Option.toList, List.getElem?_cons_zero, List.getElem?_cons_succ, List.set_cons_zero, List.set_cons_succ, List.cons_append, List.nil_append, List.replicate_succ, List.replicate_zero, List.take_succ_cons, List.take_zero, List.drop_succ_cons, List.drop_zero, List.reverse_cons, List.reverse_nil, List.length_cons, List.length_nil, Option.toList, true_and, and_true, eq_self, ↓reduceIte, not_true_eq_false, not_false_eq_true, true_or, or_true, List.append_eq]
  refine ⟨⟨by omega, by omega⟩, ?_⟩
  refine (p_193 h) (d + 10) _ (fun v S1 m1 _ g nx => ?_) (fun E c S1 m1 he _ _ => by simp at he)
  simp only [w_aload, w_iload, w_iconst, w_lconst, w_iadd, w_ialoads, w_call, w_istore, w_goto, w_fall, w_if, w_ifc, w_i2l, w_lcmp, w_zreturn, x_lald isA_316x, len_316x, cI, Int.reduceToNat, Option.toList, List.getElem?_cons_zero, List.getElem?_cons_succ, List.set_cons_zero, List.set_cons_succ, List.cons_append, List.nil_append, List.replicate_succ, List.replicate_zero, List.take_succ_cons, List.take_zero, List.drop_succ_cons, List.drop_zero, List.reverse_cons, List.reverse_nil, List.length_cons, List.length_nil, Option.toList, true_and, and_true, eq_self, ↓reduceIte, not_true_eq_false, not_false_eq_true, true_or, or_true, List.append_eq]
  refine ⟨⟨by omega, by omega⟩, ?_⟩
  refine nx S1 (fun _ _ => rfl) (d + 10) _ (fun T b r2 th en p => ?_)
  simp only [w_aload, w_iload, w_iconst, w_lconst, w_iadd, w_ialoads, w_call, w_istore, w_goto, w_fall, w_if, w_ifc, w_i2l, w_lcmp, w_zreturn, x_lald isA_316x, len_316x, cI, Int.reduceToNat, Option.toList, List.getElem?_cons_zero, List.getElem?_cons_succ, List.set_cons_zero, List.set_cons_succ, List.cons_append, List.nil_append, List.replicate_succ, List.replicate_zero, List.take_succ_cons, List.take_zero, List.drop_succ_cons, List.drop_zero, List.reverse_cons, List.reverse_nil, List.length_cons, List.length_nil, Option.toList, true_and, and_true, eq_self, ↓reduceIte, not_true_eq_false, not_false_eq_true, true_or, or_true, List.append_eq]
  refine ⟨Or.inr p.2.symm, fun _ => hK r2 T m1 _ _ en.1 g, fun w => absurd p.2.symm w⟩
theorem s_2810 (hX : tb.2.1 = strB) (hD : tb.1 2 = [vi 0, vn, vn, vn, vn, vn]) (h0 : 0 ≤ i) (h6 : i + 6 ≤ (tb.2.2.1 : Int)) (hf : ∀ j, R32 (tb.2.2.2 j)) : CASE tb (d + 80) K 2810 i := by
  intro r S m z5 z6 h hK
  rw [AtL.eq kl_2810]
  simp only [w_aload, w_iload, w_iconst, w_lconst, w_iadd, w_ialoads, w_call, w_istore, w_goto, w_fall, w_if, w_ifc, w_i2l, w_lcmp, w_zreturn, x_lald isA_316x, len_316x, cI, Int.reduceToNat, Option.toList, List.getElem?_cons_zero, List.getElem?_cons_succ, List.set_cons_zero, List.set_cons_succ, List.cons_append, List.nil_append, List.replicate_succ, List.replicate_zero, List.take_succ_cons, List.take_zero, List.drop_succ_cons, List.drop_zero, List.reverse_cons, List.reverse_nil, List.length_cons, List.length_nil, Option.toList, true_and, and_true, eq_self, ↓reduceIte, not_true_eq_false, not_false_eq_true, true_or, or_true, List.append_eq]
  refine ⟨⟨by omega, by omega⟩, ?_⟩
  refine p_195 (d := d + 10) h (fun S1 hN h316 => ?_)
  simp only [w_aload, w_iload, w_iconst, w_lconst, w_iadd, w_ialoads, w_call, w_istore, w_goto, w_fall, w_if, w_ifc, w_i2l, w_lcmp, w_zreturn, x_lald isA_316x, len_316x, cI, Int.reduceToNat, Option.toList, List.getElem?_cons_zero, List.getElem?_cons_succ, List.set_cons_zero, List.set_cons_succ, List.cons_append, List.nil_append, List.replicate_succ, List.replicate_zero, List.take_succ_cons, List.take_zero, List.drop_succ_cons, List.drop_zero, List.reverse_cons, List.reverse_nil, List.length_cons, List.length_nil, Option.toList, true_and, and_true, eq_self, ↓reduceIte, not_true_eq_false, not_false_eq_true, true_or, or_true, List.append_eq]
  refine ⟨⟨by omega, by omega⟩, ?_⟩
  refine hN (d + 10) _ (fun T r2 hT hT6 => ?_)
  simp only [w_aload, w_iload, w_iconst, w_lconst, w_iadd, w_ialoads, w_call, w_istore, w_goto, w_fall, w_if, w_ifc, w_i2l, w_lcmp, w_zreturn, x_lald isA_316x, len_316x, cI, Int.reduceToNat, Option.toList, List.getElem?_cons_zero, List.getElem?_cons_succ, List.set_cons_zero, List.set_cons_succ, List.cons_append, List.nil_append, List.replicate_succ, List.replicate_zero, List.take_succ_cons, List.take_zero, List.drop_succ_cons, List.drop_zero, List.reverse_cons, List.reverse_nil, List.length_cons, List.length_nil, Option.toList, true_and, and_true, eq_self, ↓reduceIte, not_true_eq_false, not_false_eq_true, true_or, or_true, List.append_eq]
  exact hK r2 T m _ _ hT GRW_r
theorem s_2821 (hX : tb.2.1 = strB) (hD : tb.1 2 = [vi 0, vn, vn, vn, vn, vn]) (h0 : 0 ≤ i) (h6 : i + 6 ≤ (tb.2.2.1 : Int)) (hf : ∀ j, R32 (tb.2.2.2 j)) : CASE tb (d + 80) K 2821 i := by
  intro r S m z5 z6 h hK
  rw [AtL.eq kl_2821]
  simp only [w_aload, w_iload, w_iconst, w_lconst, w_iadd, w_ialoads, w_call, w_istore, w_goto, w_fall, w_if, w_ifc, w_i2l, w_lcmp, w_zreturn, x_lald isA_316x, len_316x, cI, Int.reduceToNat, Option.toList, List.getElem?_cons_zero, List.getElem?_cons_succ, List.set_cons_zero, List.set_cons_succ, List.cons_append, List.nil_append, List.replicate_succ, List.replicate_zero, List.take_succ_cons, List.take_zero, List.drop_succ_cons, List.drop_zero, List.reverse_cons, List.reverse_nil, List.length_cons, List.length_nil, Option.toList, true_and, and_true, eq_self, ↓reduceIte, not_true_eq_false, not_false_eq_true, true_or, or_true, List.append_eq]
  refine ⟨⟨by omega, by omega⟩, ?_⟩
  refine (p_196 h) (d + 10) _ (fun v S1 m1 _ g nx => ?_) (fun E c S1 m1 he _ _ => by simp at he)
  simp only [w_aload, w_iload, w_iconst, w_lconst, w_iadd, w_ialoads, w_call, w_istore, w_goto, w_fall, w_if, w_ifc, w_i2l, w_lcmp, w_zreturn, x_lald isA_316x, len_316x, cI, Int.reduceToNat, Option.toList, List.getElem?_cons_zero, List.getElem?_cons_succ, List.set_cons_zero, List.set_cons_succ, List.cons_append, List.nil_append, List.replicate_succ, List.replicate_zero, List.take_succ_cons, List.take_zero, List.drop_succ_cons, List.drop_zero, List.reverse_cons, List.reverse_nil, List.length_cons, List.length_nil, Option.toList, true_and, and_true, eq_self, ↓reduceIte, not_true_eq_false, not_false_eq_true, true_or, or_true, List.append_eq]
  refine ⟨⟨by omega, by omega⟩, ?_⟩
  refine nx S1 (fun _ _ => rfl) (d + 10) _ (fun T b r2 th en p => ?_)
  simp only [w_aload, w_iload, w_iconst, w_lconst, w_iadd, w_ialoads, w_call, w_istore, w_goto, w_fall, w_if, w_ifc, w_i2l, w_lcmp, w_zreturn, x_lald isA_316x, len_316x, cI, Int.reduceToNat, Option.toList, List.getElem?_cons_zero, List.getElem?_cons_succ, List.set_cons_zero, List.set_cons_succ, List.cons_append, List.nil_append, List.replicate_succ, List.replicate_zero, List.take_succ_cons, List.take_zero, List.drop_succ_cons, List.drop_zero, List.reverse_cons, List.reverse_nil, List.length_cons, List.length_nil, Option.toList, true_and, and_true, eq_self, ↓reduceIte, not_true_eq_false, not_false_eq_true, true_or, or_true, List.append_eq]
  refine ⟨Or.inr p.2.symm, fun _ => hK r2 T m1 _ _ en.1 g, fun w => absurd p.2.symm w⟩
theorem s_2834 (hX : tb.2.1 = strB) (hD : tb.1 2 = [vi 0, vn, vn, vn, vn, vn]) (h0 : 0 ≤ i) (h6 : i + 6 ≤ (tb.2.2.1 : Int)) (hf : ∀ j, R32 (tb.2.2.2 j)) : CASE tb (d + 80) K 2834 i := by
  intro r S m z5 z6 h hK
  have h1 : 0 ≤ i + 1 ∧ i + 1 < (tb.2.2.1 : Int) := by omega
  have g1 := hf (i + 1).toNat
  obtain ⟨x1, e1⟩ : ∃ x, x = tb.2.2.2 (i + 1).toNat := ⟨_, rfl⟩
  rw [← e1] at g1
  rw [AtL.eq kl_2834]
  simp only [w_aload, w_iload, w_iconst, w_lconst, w_iadd, w_ialoads, w_call, w_istore, w_goto, w_fall, w_if, w_ifc, w_i2l, w_lcmp, w_zreturn, x_lald isA_316x, len_316x, cI, Int.reduceToNat, Option.toList, List.getElem?_cons_zero, List.getElem?_cons_succ, List.set_cons_zero, List.set_cons_succ, List.cons_append, List.nil_append, List.replicate_succ, List.replicate_zero, List.take_succ_cons, List.take_zero, List.drop_succ_cons, List.drop_zero, List.reverse_cons, List.reverse_nil, List.length_cons, List.length_nil, Option.toList, true_and, and_true, eq_self, ↓reduceIte, not_true_eq_false, not_false_eq_true, true_or, or_true, List.append_eq, h1, ← e1]
  refine ⟨⟨by omega, by omega⟩, ?_⟩
  refine (p_197 g1 h) (d + 10) _ (fun v S1 m1 _ g nx => ?_) (fun E c S1 m1 he _ _ => by simp at he)
  simp only [w_aload, w_iload, w_iconst, w_lconst, w_iadd, w_ialoads, w_call, w_istore, w_goto, w_fall, w_if, w_ifc, w_i2l, w_lcmp, w_zreturn, x_lald isA_316x, len_316x, cI, Int.reduceToNat, Option.toList, List.getElem?_cons_zero, List.getElem?_cons_succ, List.set_cons_zero, List.set_cons_succ, List.cons_append, List.nil_append, List.replicate_succ, List.replicate_zero, List.take_succ_cons, List.take_zero, List.drop_succ_cons, List.drop_zero, List.reverse_cons, List.reverse_nil, List.length_cons, List.length_nil, Option.toList, true_and, and_true, eq_self, ↓reduceIte, not_true_eq_false, not_false_eq_true, true_or, or_true, List.append_eq, h1, ← e1]
  refine ⟨⟨by omega, by omega⟩, ?_⟩
  refine nx S1 (fun _ _ => rfl) (d + 10) _ (fun T b r2 th en p => ?_)
  simp only [w_aload, w_iload, w_iconst, w_lconst, w_iadd, w_ialoads, w_call, w_istore, w_goto, w_fall, w_if, w_ifc, w_i2l, w_lcmp, w_zreturn, x_lald isA_316x, len_316x, cI, Int.reduceToNat, Option.toList, List.getElem?_cons_zero, List.getElem?_cons_succ, List.set_cons_zero, List.set_cons_succ, List.cons_append, List.nil_append, List.replicate_succ, List.replicate_zero, List.take_succ_cons, List.take_zero, List.drop_succ_cons, List.drop_zero, List.reverse_cons, List.reverse_nil, List.length_cons, List.length_nil, Option.toList, true_and, and_true, eq_self, ↓reduceIte, not_true_eq_false, not_false_eq_true, true_or, or_true, List.append_eq, h1, ← e1]
  refine ⟨Or.inr p.2.symm, fun _ => hK r2 T m1 _ _ en.1 g, fun w => absurd p.2.symm w⟩
end LawC
