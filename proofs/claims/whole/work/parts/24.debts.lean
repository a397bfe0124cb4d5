/-! ===== THE DEBTS ===== -/
theorem k12_0 : pg.1 12 0 = [.aload 0, .invokespecial 0, .aload 0, .bipush 0, .putfield 0, .aload 0, .bipush 8, .newarray .int, .putstatic 1, .aload 0, .bipush 8, .newarray .int, .putstatic 2, .aload 0, .bipush 8, .newarray .int, .putstatic 3, .return_] := rfl
theorem k13_0 : pg.1 13 0 = [.aload 0, .aload 1, .getfield 0, .putfield 0, .aload 1, .getfield 1, .bipush 0, .aload 0, .getfield 1, .bipush 0, .bipush 8, .invokestatic 2, .aload 1, .getfield 2, .bipush 0, .aload 0, .getfield 2, .bipush 0, .bipush 8, .invokestatic 2, .aload 1, .getfield 3, .bipush 0, .aload 0, .getfield 3, .bipush 0, .bipush 8, .invokestatic 2, .return_] := rfl
theorem k14_0 : pg.1 14 0 = [.aload 0, .getfield 0, .bipush 8, .if_icmp .ge 49, .aload 0, .getfield 1, .aload 0, .getfield 0, .iload 1, .iastore, .aload 0, .getfield 2, .aload 0, .getfield 0, .iload 2, .iastore, .aload 0, .getfield 3, .aload 0, .getfield 0, .iload 3, .iastore, .aload 0, .dup, .getfield 0, .bipush 1, .iadd, .putfield 0, .jsr 49] := rfl
theorem k14_49 : pg.1 14 49 = [.return_] := rfl
theorem k15_0 : pg.1 15 0 = [.iload 1, .istore 2, .jsr 2] := rfl
theorem k15_2 : pg.1 15 2 = [.iload 2, .bipush 1, .iadd, .aload 0, .getfield 0, .if_icmp .ge 60, .aload 0, .getfield 1, .iload 2, .aload 0, .getfield 1, .iload 2, .bipush 1, .iadd, .iaload, .iastore, .aload 0, .getfield 2, .iload 2, .aload 0, .getfield 2, .iload 2, .bipush 1, .iadd, .iaload, .iastore, .aload 0, .getfield 3, .iload 2, .aload 0, .getfield 3, .iload 2, .bipush 1, .iadd, .iaload, .iastore, .iinc 2 1, .goto 2] := rfl
theorem k15_60 : pg.1 15 60 = [.aload 0, .dup, .getfield 0, .bipush 1, .isub, .putfield 0, .return_] := rfl
theorem k16_0 : pg.1 16 0 = [.bipush 0, .istore 1, .bipush 0, .istore 2, .jsr 4] := rfl
theorem k16_4 : pg.1 16 4 = [.iload 2, .aload 0, .getfield 0, .if_icmp .ge 27, .iload 1, .aload 0, .getfield 3, .iload 2, .iaload, .iadd, .istore 1, .iinc 2 1, .goto 4] := rfl
theorem k16_27 : pg.1 16 27 = [.iload 1, .ireturn] := rfl
theorem k17_0 : pg.1 17 0 = [.bipush 0, .istore 2, .bipush 0, .istore 3, .jsr 4] := rfl
theorem k17_4 : pg.1 17 4 = [.iload 3, .aload 0, .getfield 0, .if_icmp .ge 37, .aload 0, .getfield 1, .iload 3, .iaload, .iload 1, .if_icmp .ne 31, .iload 2, .aload 0, .getfield 3, .iload 3, .iaload, .iadd, .istore 2, .jsr 31] := rfl
theorem k17_31 : pg.1 17 31 = [.iinc 3 1, .goto 4] := rfl
theorem k17_37 : pg.1 17 37 = [.iload 2, .ireturn] := rfl
theorem k18_0 : pg.1 18 0 = [.bipush 0, .istore 2, .bipush 0, .istore 3, .jsr 4] := rfl
theorem k18_4 : pg.1 18 4 = [.iload 3, .aload 0, .getfield 0, .if_icmp .ge 56, .aload 0, .getfield 1, .iload 3, .iaload, .iload 1, .if_icmp .ne 31, .iload 2, .aload 0, .getfield 3, .iload 3, .iaload, .iadd, .istore 2, .jsr 31] := rfl
theorem k18_31 : pg.1 18 31 = [.aload 0, .getfield 2, .iload 3, .iaload, .iload 1, .if_icmp .ne 50, .iload 2, .aload 0, .getfield 3, .iload 3, .iaload, .isub, .istore 2, .jsr 50] := rfl
theorem k18_50 : pg.1 18 50 = [.iinc 3 1, .goto 4] := rfl
theorem k18_56 : pg.1 18 56 = [.iload 2, .ireturn] := rfl
theorem k19_0 : pg.1 19 0 = [.bipush 0, .istore 2, .bipush 0, .istore 3, .jsr 4] := rfl
theorem k19_4 : pg.1 19 4 = [.iload 3, .bipush 6, .if_icmp .ge 33, .iload 1, .iload 3, .ishr, .bipush 1, .iand, .bipush 1, .if_icmp .ne 27, .iload 2, .aload 0, .iload 3, .invokeinterface 18 2, .iadd, .istore 2, .jsr 27] := rfl
theorem k19_27 : pg.1 19 27 = [.iinc 3 1, .goto 4] := rfl
theorem k19_33 : pg.1 19 33 = [.iload 2, .ireturn] := rfl
theorem k20_0 : pg.1 20 0 = [.aload 2, .bipush 0, .bipush 0, .iastore, .bipush 1, .istore 3, .jsr 6] := rfl
theorem k20_6 : pg.1 20 6 = [.iload 3, .bipush 1, .iload 1, .ishl, .if_icmp .ge 81, .bipush 0, .istore 4, .bipush 0, .istore 5, .jsr 19] := rfl
theorem k20_19 : pg.1 20 19 = [.iload 5, .iload 1, .if_icmp .ge 56, .iload 3, .iload 5, .ishr, .bipush 1, .iand, .bipush 1, .if_icmp .ne 50, .iload 4, .aload 2, .iload 3, .bipush 1, .iload 5, .ishl, .ixor, .iaload, .invokestatic 1, .istore 4, .jsr 50] := rfl
theorem k20_50 : pg.1 20 50 = [.iinc 5 1, .goto 19] := rfl
theorem k20_56 : pg.1 20 56 = [.aload 2, .iload 3, .iload 4, .aload 0, .iload 3, .invokeinterface 19 2, .ifCond .ne 72, .bipush 1, .goto 73] := rfl
theorem k20_72 : pg.1 20 72 = [.bipush 0, .jsr 73] := rfl
theorem k20_73 : pg.1 20 73 = [.iadd, .iastore, .iinc 3 1, .goto 6] := rfl
theorem k20_81 : pg.1 20 81 = [.iload 1, .aload 2, .bipush 1, .iload 1, .ishl, .bipush 1, .isub, .iaload, .isub, .ireturn] := rfl
theorem k21_0 : pg.1 21 0 = [.bipush (-1), .istore 2, .bipush 0, .istore 3, .jsr 4] := rfl
theorem k21_4 : pg.1 21 4 = [.iload 3, .iload 1, .if_icmp .ge 73, .bipush 1, .iload 3, .ishl, .istore 4, .bipush 1, .istore 5, .jsr 17] := rfl
theorem k21_17 : pg.1 21 17 = [.iload 5, .iload 1, .if_icmp .gt 67, .aload 0, .iload 4, .invokeinterface 22 2, .istore 4, .iload 4, .iload 3, .ishr, .bipush 1, .iand, .bipush 1, .if_icmp .ne 61, .iload 2, .bipush (-1), .if_icmp .ne 51, .iload 5, .goto 57] := rfl
theorem k21_51 : pg.1 21 51 = [.iload 2, .iload 5, .invokestatic 0, .jsr 57] := rfl
theorem k21_57 : pg.1 21 57 = [.istore 2, .goto 67] := rfl
theorem k21_61 : pg.1 21 61 = [.iinc 5 1, .goto 17] := rfl
theorem k21_67 : pg.1 21 67 = [.iinc 3 1, .goto 4] := rfl
theorem k21_73 : pg.1 21 73 = [.iload 2, .ireturn] := rfl
theorem k22_0 : pg.1 22 0 = [.bipush 0, .istore 2, .bipush 0, .istore 3, .jsr 4] := rfl
theorem k22_4 : pg.1 22 4 = [.iload 3, .aload 0, .getfield 0, .if_icmp .ge 43, .iload 1, .aload 0, .getfield 1, .iload 3, .iaload, .ishr, .bipush 1, .iand, .bipush 1, .if_icmp .ne 37, .iload 2, .bipush 1, .aload 0, .getfield 2, .iload 3, .iaload, .ishl, .ior, .istore 2, .jsr 37] := rfl
theorem k22_37 : pg.1 22 37 = [.iinc 3 1, .goto 4] := rfl
theorem k22_43 : pg.1 22 43 = [.iload 2, .ireturn] := rfl
/-- the Debts at the cell q: how many, who owes, to whom, how much -/
def dF (q : Nat) (D : Nat → Nat → Int) : List AV := [vi (D 0 0), vr (q + 1), vr (q + 2), vr (q + 3)]
def D8 (q : Nat) (D : Nat → Nat → Int) (m : AM) : Prop := m.1 q = co 0 (dF q D) ∧ m.1 (q + 1) = ca 0 8 (D 1) ∧ m.1 (q + 2) = ca 0 8 (D 2) ∧ m.1 (q + 3) = ca 0 8 (D 3)
def DI (D : Nat → Nat → Int) : Prop := (0 ≤ D 0 0 ∧ D 0 0 ≤ 8) ∧ (∀ j, j < 8 → (0 ≤ D 1 j ∧ D 1 j < 6)) ∧ (∀ j, j < 8 → (0 ≤ D 2 j ∧ D 2 j < 6))
section DebtsR
variable {tb : Tab} {d : Nat} {m : AM} {K : Out → AM → Prop} {q : Nat} {D : Nat → Nat → Int}
theorem r_16 (hD : D8 q D m) (hI : DI D) (hK : K (.inl (some (vi (sumI (D 3) (D 0 0).toNat)))) m) : Runs tb pg (d + 1) 16 [vr q] m K := by
  obtain ⟨h0, h1, h2, h3⟩ := hD
  obtain ⟨c0, c1, c2⟩ := hI
  have loop : ∀ n i : Nat, (i : Int) + n = D 0 0 → At tb d 16 K 4 [vr q, vi (sumI (D 3) i), vi i] [] m := by
    intro n
    induction n with
    | zero =>
      intro i h
      refine At.of k16_4 ?_
      simp only [w_iconst, w_lconst, w_null, w_ldc, w_worth, w_compact, w_sioobe, w_iload, w_lload, w_aload, w_istore, w_fstore, w_lstore, w_astore, w_astorex, w_astoren, w_kill, w_iinc, w_iadd, w_isub, w_imul, w_iand, w_ior, w_ixor, w_ishl, w_ishr, w_iushr, w_ineg, w_idiv, w_irem, w_ladd, w_lsub, w_lmul, w_ldiv, w_i2l, w_l2i, w_i2c, w_lcmp, w_dupi, w_dupr, w_dup2, w_popi, w_popr, w_ialoads, w_ialoadw, w_baloadx, w_alens, w_alenw, w_alenx, w_newi, w_newl, w_newz, w_newa, w_new, w_init, w_sval, w_scod, w_min, w_max, w_getfm, w_putfm, w_putzm, w_putrm, w_ialoadm, w_laloadm, w_baloadm, w_aaloadm, w_iastorem, w_lastorem, w_bastorem, w_aastorem, w_alenm, w_castm, w_clonem, w_goto, w_fall, w_if, w_ifc, w_ifnull, w_ifnulln, w_ifnonnull, w_ifnonnulln, w_switch, w_ireturn, w_zreturn, w_breturn, w_creturn, w_areturn, w_areturnn, w_return, w_throw, w_call, List.getElem?_cons_zero, List.getElem?_cons_succ, List.set_cons_zero, List.set_cons_succ, List.cons_append, List.nil_append, List.replicate_succ, List.replicate_zero, List.take_succ_cons, List.take_zero, List.drop_succ_cons, List.drop_zero, List.reverse_cons, List.reverse_nil, List.length_cons, List.length_nil, Option.toList, Int.reduceToNat, cI, lgB, Nat.reduceSub, Nat.reduceDiv, Nat.reduceMod, true_and, and_true, eq_self, ↓reduceIte, mnew_1, mnew_2, Int.toNat_natCast, mset_mset, dF, Nat.reduceEqDiff, forall_const, h0]
      refine ⟨Or.inr (by omega), fun _ => At.of k16_27 ?_, fun h => by omega⟩
      simp only [w_iconst, w_lconst, w_null, w_ldc, w_worth, w_compact, w_sioobe, w_iload, w_lload, w_aload, w_istore, w_fstore, w_lstore, w_astore, w_astorex, w_astoren, w_kill, w_iinc, w_iadd, w_isub, w_imul, w_iand, w_ior, w_ixor, w_ishl, w_ishr, w_iushr, w_ineg, w_idiv, w_irem, w_ladd, w_lsub, w_lmul, w_ldiv, w_i2l, w_l2i, w_i2c, w_lcmp, w_dupi, w_dupr, w_dup2, w_popi, w_popr, w_ialoads, w_ialoadw, w_baloadx, w_alens, w_alenw, w_alenx, w_newi, w_newl, w_newz, w_newa, w_new, w_init, w_sval, w_scod, w_min, w_max, w_getfm, w_putfm, w_putzm, w_putrm, w_ialoadm, w_laloadm, w_baloadm, w_aaloadm, w_iastorem, w_lastorem, w_bastorem, w_aastorem, w_alenm, w_castm, w_clonem, w_goto, w_fall, w_if, w_ifc, w_ifnull, w_ifnulln, w_ifnonnull, w_ifnonnulln, w_switch, w_ireturn, w_zreturn, w_breturn, w_creturn, w_areturn, w_areturnn, w_return, w_throw, w_call, List.getElem?_cons_zero, List.getElem?_cons_succ, List.set_cons_zero, List.set_cons_succ, List.cons_append, List.nil_append, List.replicate_succ, List.replicate_zero, List.take_succ_cons, List.take_zero, List.drop_succ_cons, List.drop_zero, List.reverse_cons, List.reverse_nil, List.length_cons, List.length_nil, Option.toList, Int.reduceToNat, cI, lgB, Nat.reduceSub, Nat.reduceDiv, Nat.reduceMod, true_and, and_true, eq_self, ↓reduceIte, mnew_1, mnew_2, Int.toNat_natCast, mset_mset, dF, Nat.reduceEqDiff, forall_const]
      rw [show (D 0 0).toNat = i by omega] at hK
      exact hK
    | succ n ih =>
      intro i h
      have h9 := ih (i + 1) (by omega)
      rw [show ((i + 1 : Nat) : Int) = (i : Int) + 1 by omega] at h9
      have q1 := c1 i (by omega)
      have q2 := c2 i (by omega)
      refine At.of k16_4 ?_
      simp only [w_iconst, w_lconst, w_null, w_ldc, w_worth, w_compact, w_sioobe, w_iload, w_lload, w_aload, w_istore, w_fstore, w_lstore, w_astore, w_astorex, w_astoren, w_kill, w_iinc, w_iadd, w_isub, w_imul, w_iand, w_ior, w_ixor, w_ishl, w_ishr, w_iushr, w_ineg, w_idiv, w_irem, w_ladd, w_lsub, w_lmul, w_ldiv, w_i2l, w_l2i, w_i2c, w_lcmp, w_dupi, w_dupr, w_dup2, w_popi, w_popr, w_ialoads, w_ialoadw, w_baloadx, w_alens, w_alenw, w_alenx, w_newi, w_newl, w_newz, w_newa, w_new, w_init, w_sval, w_scod, w_min, w_max, w_getfm, w_putfm, w_putzm, w_putrm, w_ialoadm, w_laloadm, w_baloadm, w_aaloadm, w_iastorem, w_lastorem, w_bastorem, w_aastorem, w_alenm, w_castm, w_clonem, w_goto, w_fall, w_if, w_ifc, w_ifnull, w_ifnulln, w_ifnonnull, w_ifnonnulln, w_switch, w_ireturn, w_zreturn, w_breturn, w_creturn, w_areturn, w_areturnn, w_return, w_throw, w_call, List.getElem?_cons_zero, List.getElem?_cons_succ, List.set_cons_zero, List.set_cons_succ, List.cons_append, List.nil_append, List.replicate_succ, List.replicate_zero, List.take_succ_cons, List.take_zero, List.drop_succ_cons, List.drop_zero, List.reverse_cons, List.reverse_nil, List.length_cons, List.length_nil, Option.toList, Int.reduceToNat, cI, lgB, Nat.reduceSub, Nat.reduceDiv, Nat.reduceMod, true_and, and_true, eq_self, ↓reduceIte, mnew_1, mnew_2, Int.toNat_natCast, mset_mset, dF, Nat.reduceEqDiff, forall_const, h0, h1, h2, h3]
      exact ⟨Or.inl ⟨⟨by omega, by omega⟩, ⟨by omega, by omega⟩⟩, fun h => by omega, fun _ => ⟨⟨by omega, by omega⟩, h9⟩⟩
  refine Runs.of (al := [vr q]) (n := 2) ⟨q, _, _, rfl, h0⟩ rfl rfl trivial ?_
  refine At.of k16_0 ?_
  simp only [w_iconst, w_lconst, w_null, w_ldc, w_worth, w_compact, w_sioobe, w_iload, w_lload, w_aload, w_istore, w_fstore, w_lstore, w_astore, w_astorex, w_astoren, w_kill, w_iinc, w_iadd, w_isub, w_imul, w_iand, w_ior, w_ixor, w_ishl, w_ishr, w_iushr, w_ineg, w_idiv, w_irem, w_ladd, w_lsub, w_lmul, w_ldiv, w_i2l, w_l2i, w_i2c, w_lcmp, w_dupi, w_dupr, w_dup2, w_popi, w_popr, w_ialoads, w_ialoadw, w_baloadx, w_alens, w_alenw, w_alenx, w_newi, w_newl, w_newz, w_newa, w_new, w_init, w_sval, w_scod, w_min, w_max, w_getfm, w_putfm, w_putzm, w_putrm, w_ialoadm, w_laloadm, w_baloadm, w_aaloadm, w_iastorem, w_lastorem, w_bastorem, w_aastorem, w_alenm, w_castm, w_clonem, w_goto, w_fall, w_if, w_ifc, w_ifnull, w_ifnulln, w_ifnonnull, w_ifnonnulln, w_switch, w_ireturn, w_zreturn, w_breturn, w_creturn, w_areturn, w_areturnn, w_return, w_throw, w_call, List.getElem?_cons_zero, List.getElem?_cons_succ, List.set_cons_zero, List.set_cons_succ, List.cons_append, List.nil_append, List.replicate_succ, List.replicate_zero, List.take_succ_cons, List.take_zero, List.drop_succ_cons, List.drop_zero, List.reverse_cons, List.reverse_nil, List.length_cons, List.length_nil, Option.toList, Int.reduceToNat, cI, lgB, Nat.reduceSub, Nat.reduceDiv, Nat.reduceMod, true_and, and_true, eq_self, ↓reduceIte, mnew_1, mnew_2, Int.toNat_natCast, mset_mset, dF, Nat.reduceEqDiff, forall_const]
  exact loop (D 0 0).toNat 0 (by omega)

theorem r_17 {who : Int} (hD : D8 q D m) (hI : DI D) (hw : R32 who) (hK : K (.inl (some (vi (sumI (fun j => (if D 1 j = who then D 3 j else 0)) (D 0 0).toNat)))) m) : Runs tb pg (d + 1) 17 [vr q, vi who] m K := by
  obtain ⟨h0, h1, h2, h3⟩ := hD
  obtain ⟨c0, c1, c2⟩ := hI
  have loop : ∀ n i : Nat, (i : Int) + n = D 0 0 → At tb d 17 K 4 [vr q, vi who, vi (sumI (fun j => (if D 1 j = who then D 3 j else 0)) i), vi i] [] m := by
    intro n
    induction n with
    | zero =>
      intro i h
      refine At.of k17_4 ?_
      simp only [w_iconst, w_lconst, w_null, w_ldc, w_worth, w_compact, w_sioobe, w_iload, w_lload, w_aload, w_istore, w_fstore, w_lstore, w_astore, w_astorex, w_astoren, w_kill, w_iinc, w_iadd, w_isub, w_imul, w_iand, w_ior, w_ixor, w_ishl, w_ishr, w_iushr, w_ineg, w_idiv, w_irem, w_ladd, w_lsub, w_lmul, w_ldiv, w_i2l, w_l2i, w_i2c, w_lcmp, w_dupi, w_dupr, w_dup2, w_popi, w_popr, w_ialoads, w_ialoadw, w_baloadx, w_alens, w_alenw, w_alenx, w_newi, w_newl, w_newz, w_newa, w_new, w_init, w_sval, w_scod, w_min, w_max, w_getfm, w_putfm, w_putzm, w_putrm, w_ialoadm, w_laloadm, w_baloadm, w_aaloadm, w_iastorem, w_lastorem, w_bastorem, w_aastorem, w_alenm, w_castm, w_clonem, w_goto, w_fall, w_if, w_ifc, w_ifnull, w_ifnulln, w_ifnonnull, w_ifnonnulln, w_switch, w_ireturn, w_zreturn, w_breturn, w_creturn, w_areturn, w_areturnn, w_return, w_throw, w_call, List.getElem?_cons_zero, List.getElem?_cons_succ, List.set_cons_zero, List.set_cons_succ, List.cons_append, List.nil_append, List.replicate_succ, List.replicate_zero, List.take_succ_cons, List.take_zero, List.drop_succ_cons, List.drop_zero, List.reverse_cons, List.reverse_nil, List.length_cons, List.length_nil, Option.toList, Int.reduceToNat, cI, lgB, Nat.reduceSub, Nat.reduceDiv, Nat.reduceMod, true_and, and_true, eq_self, ↓reduceIte, mnew_1, mnew_2, Int.toNat_natCast, mset_mset, dF, Nat.reduceEqDiff, forall_const, h0]
      refine ⟨Or.inr (by omega), fun _ => At.of k17_37 ?_, fun h => by omega⟩
      simp only [w_iconst, w_lconst, w_null, w_ldc, w_worth, w_compact, w_sioobe, w_iload, w_lload, w_aload, w_istore, w_fstore, w_lstore, w_astore, w_astorex, w_astoren, w_kill, w_iinc, w_iadd, w_isub, w_imul, w_iand, w_ior, w_ixor, w_ishl, w_ishr, w_iushr, w_ineg, w_idiv, w_irem, w_ladd, w_lsub, w_lmul, w_ldiv, w_i2l, w_l2i, w_i2c, w_lcmp, w_dupi, w_dupr, w_dup2, w_popi, w_popr, w_ialoads, w_ialoadw, w_baloadx, w_alens, w_alenw, w_alenx, w_newi, w_newl, w_newz, w_newa, w_new, w_init, w_sval, w_scod, w_min, w_max, w_getfm, w_putfm, w_putzm, w_putrm, w_ialoadm, w_laloadm, w_baloadm, w_aaloadm, w_iastorem, w_lastorem, w_bastorem, w_aastorem, w_alenm, w_castm, w_clonem, w_goto, w_fall, w_if, w_ifc, w_ifnull, w_ifnulln, w_ifnonnull, w_ifnonnulln, w_switch, w_ireturn, w_zreturn, w_breturn, w_creturn, w_areturn, w_areturnn, w_return, w_throw, w_call, List.getElem?_cons_zero, List.getElem?_cons_succ, List.set_cons_zero, List.set_cons_succ, List.cons_append, List.nil_append, List.replicate_succ, List.replicate_zero, List.take_succ_cons, List.take_zero, List.drop_succ_cons, List.drop_zero, List.reverse_cons, List.reverse_nil, List.length_cons, List.length_nil, Option.toList, Int.reduceToNat, cI, lgB, Nat.reduceSub, Nat.reduceDiv, Nat.reduceMod, true_and, and_true, eq_self, ↓reduceIte, mnew_1, mnew_2, Int.toNat_natCast, mset_mset, dF, Nat.reduceEqDiff, forall_const]
      rw [show (D 0 0).toNat = i by omega] at hK
      exact hK
    | succ n ih =>
      intro i h
      have h9 := ih (i + 1) (by omega)
      rw [show ((i + 1 : Nat) : Int) = (i : Int) + 1 by omega] at h9
      have q1 := c1 i (by omega)
      have q2 := c2 i (by omega)
      refine At.of k17_4 ?_
      simp only [w_iconst, w_lconst, w_null, w_ldc, w_worth, w_compact, w_sioobe, w_iload, w_lload, w_aload, w_istore, w_fstore, w_lstore, w_astore, w_astorex, w_astoren, w_kill, w_iinc, w_iadd, w_isub, w_imul, w_iand, w_ior, w_ixor, w_ishl, w_ishr, w_iushr, w_ineg, w_idiv, w_irem, w_ladd, w_lsub, w_lmul, w_ldiv, w_i2l, w_l2i, w_i2c, w_lcmp, w_dupi, w_dupr, w_dup2, w_popi, w_popr, w_ialoads, w_ialoadw, w_baloadx, w_alens, w_alenw, w_alenx, w_newi, w_newl, w_newz, w_newa, w_new, w_init, w_sval, w_scod, w_min, w_max, w_getfm, w_putfm, w_putzm, w_putrm, w_ialoadm, w_laloadm, w_baloadm, w_aaloadm, w_iastorem, w_lastorem, w_bastorem, w_aastorem, w_alenm, w_castm, w_clonem, w_goto, w_fall, w_if, w_ifc, w_ifnull, w_ifnulln, w_ifnonnull, w_ifnonnulln, w_switch, w_ireturn, w_zreturn, w_breturn, w_creturn, w_areturn, w_areturnn, w_return, w_throw, w_call, List.getElem?_cons_zero, List.getElem?_cons_succ, List.set_cons_zero, List.set_cons_succ, List.cons_append, List.nil_append, List.replicate_succ, List.replicate_zero, List.take_succ_cons, List.take_zero, List.drop_succ_cons, List.drop_zero, List.reverse_cons, List.reverse_nil, List.length_cons, List.length_nil, Option.toList, Int.reduceToNat, cI, lgB, Nat.reduceSub, Nat.reduceDiv, Nat.reduceMod, true_and, and_true, eq_self, ↓reduceIte, mnew_1, mnew_2, Int.toNat_natCast, mset_mset, dF, Nat.reduceEqDiff, forall_const, h0, h1, h2, h3]
      refine ⟨Or.inl ⟨⟨by omega, by omega⟩, ⟨by omega, by omega⟩⟩, fun h => by omega, fun _ => ⟨⟨by omega, by omega⟩, Or.inl ⟨⟨by omega, by omega⟩, hw⟩, fun e => At.of k17_31 ?_, fun e => ⟨⟨by omega, by omega⟩, At.of k17_31 ?_⟩⟩⟩
      · simp only [w_iconst, w_lconst, w_null, w_ldc, w_worth, w_compact, w_sioobe, w_iload, w_lload, w_aload, w_istore, w_fstore, w_lstore, w_astore, w_astorex, w_astoren, w_kill, w_iinc, w_iadd, w_isub, w_imul, w_iand, w_ior, w_ixor, w_ishl, w_ishr, w_iushr, w_ineg, w_idiv, w_irem, w_ladd, w_lsub, w_lmul, w_ldiv, w_i2l, w_l2i, w_i2c, w_lcmp, w_dupi, w_dupr, w_dup2, w_popi, w_popr, w_ialoads, w_ialoadw, w_baloadx, w_alens, w_alenw, w_alenx, w_newi, w_newl, w_newz, w_newa, w_new, w_init, w_sval, w_scod, w_min, w_max, w_getfm, w_putfm, w_putzm, w_putrm, w_ialoadm, w_laloadm, w_baloadm, w_aaloadm, w_iastorem, w_lastorem, w_bastorem, w_aastorem, w_alenm, w_castm, w_clonem, w_goto, w_fall, w_if, w_ifc, w_ifnull, w_ifnulln, w_ifnonnull, w_ifnonnulln, w_switch, w_ireturn, w_zreturn, w_breturn, w_creturn, w_areturn, w_areturnn, w_return, w_throw, w_call, List.getElem?_cons_zero, List.getElem?_cons_succ, List.set_cons_zero, List.set_cons_succ, List.cons_append, List.nil_append, List.replicate_succ, List.replicate_zero, List.take_succ_cons, List.take_zero, List.drop_succ_cons, List.drop_zero, List.reverse_cons, List.reverse_nil, List.length_cons, List.length_nil, Option.toList, Int.reduceToNat, cI, lgB, Nat.reduceSub, Nat.reduceDiv, Nat.reduceMod, true_and, and_true, eq_self, ↓reduceIte, mnew_1, mnew_2, Int.toNat_natCast, mset_mset, dF, Nat.reduceEqDiff, forall_const]
        rw [show sumI (fun j => (if D 1 j = who then D 3 j else 0)) (i + 1) = sumI (fun j => (if D 1 j = who then D 3 j else 0)) i from by
          show sumI _ i + (if D 1 i = who then D 3 i else 0) = _
          rw [if_neg e]; omega] at h9
        exact h9
      · simp only [w_iconst, w_lconst, w_null, w_ldc, w_worth, w_compact, w_sioobe, w_iload, w_lload, w_aload, w_istore, w_fstore, w_lstore, w_astore, w_astorex, w_astoren, w_kill, w_iinc, w_iadd, w_isub, w_imul, w_iand, w_ior, w_ixor, w_ishl, w_ishr, w_iushr, w_ineg, w_idiv, w_irem, w_ladd, w_lsub, w_lmul, w_ldiv, w_i2l, w_l2i, w_i2c, w_lcmp, w_dupi, w_dupr, w_dup2, w_popi, w_popr, w_ialoads, w_ialoadw, w_baloadx, w_alens, w_alenw, w_alenx, w_newi, w_newl, w_newz, w_newa, w_new, w_init, w_sval, w_scod, w_min, w_max, w_getfm, w_putfm, w_putzm, w_putrm, w_ialoadm, w_laloadm, w_baloadm, w_aaloadm, w_iastorem, w_lastorem, w_bastorem, w_aastorem, w_alenm, w_castm, w_clonem, w_goto, w_fall, w_if, w_ifc, w_ifnull, w_ifnulln, w_ifnonnull, w_ifnonnulln, w_switch, w_ireturn, w_zreturn, w_breturn, w_creturn, w_areturn, w_areturnn, w_return, w_throw, w_call, List.getElem?_cons_zero, List.getElem?_cons_succ, List.set_cons_zero, List.set_cons_succ, List.cons_append, List.nil_append, List.replicate_succ, List.replicate_zero, List.take_succ_cons, List.take_zero, List.drop_succ_cons, List.drop_zero, List.reverse_cons, List.reverse_nil, List.length_cons, List.length_nil, Option.toList, Int.reduceToNat, cI, lgB, Nat.reduceSub, Nat.reduceDiv, Nat.reduceMod, true_and, and_true, eq_self, ↓reduceIte, mnew_1, mnew_2, Int.toNat_natCast, mset_mset, dF, Nat.reduceEqDiff, forall_const]
        rw [show sumI (fun j => (if D 1 j = who then D 3 j else 0)) (i + 1) = sumI (fun j => (if D 1 j = who then D 3 j else 0)) i + D 3 i from by
          show sumI _ i + (if D 1 i = who then D 3 i else 0) = _
          rw [if_pos (Classical.not_not.mp e)]] at h9
        exact h9
  refine Runs.of (al := [vr q, vi who]) (n := 2) ⟨q, _, _, rfl, h0⟩ rfl rfl trivial ?_
  refine At.of k17_0 ?_
  simp only [w_iconst, w_lconst, w_null, w_ldc, w_worth, w_compact, w_sioobe, w_iload, w_lload, w_aload, w_istore, w_fstore, w_lstore, w_astore, w_astorex, w_astoren, w_kill, w_iinc, w_iadd, w_isub, w_imul, w_iand, w_ior, w_ixor, w_ishl, w_ishr, w_iushr, w_ineg, w_idiv, w_irem, w_ladd, w_lsub, w_lmul, w_ldiv, w_i2l, w_l2i, w_i2c, w_lcmp, w_dupi, w_dupr, w_dup2, w_popi, w_popr, w_ialoads, w_ialoadw, w_baloadx, w_alens, w_alenw, w_alenx, w_newi, w_newl, w_newz, w_newa, w_new, w_init, w_sval, w_scod, w_min, w_max, w_getfm, w_putfm, w_putzm, w_putrm, w_ialoadm, w_laloadm, w_baloadm, w_aaloadm, w_iastorem, w_lastorem, w_bastorem, w_aastorem, w_alenm, w_castm, w_clonem, w_goto, w_fall, w_if, w_ifc, w_ifnull, w_ifnulln, w_ifnonnull, w_ifnonnulln, w_switch, w_ireturn, w_zreturn, w_breturn, w_creturn, w_areturn, w_areturnn, w_return, w_throw, w_call, List.getElem?_cons_zero, List.getElem?_cons_succ, List.set_cons_zero, List.set_cons_succ, List.cons_append, List.nil_append, List.replicate_succ, List.replicate_zero, List.take_succ_cons, List.take_zero, List.drop_succ_cons, List.drop_zero, List.reverse_cons, List.reverse_nil, List.length_cons, List.length_nil, Option.toList, Int.reduceToNat, cI, lgB, Nat.reduceSub, Nat.reduceDiv, Nat.reduceMod, true_and, and_true, eq_self, ↓reduceIte, mnew_1, mnew_2, Int.toNat_natCast, mset_mset, dF, Nat.reduceEqDiff, forall_const]
  exact loop (D 0 0).toNat 0 (by omega)

theorem r_18 {who : Int} (hD : D8 q D m) (hI : DI D) (hw : R32 who) (hK : K (.inl (some (vi (sumI (fun j => (if D 1 j = who then D 3 j else 0) - (if D 2 j = who then D 3 j else 0)) (D 0 0).toNat)))) m) : Runs tb pg (d + 1) 18 [vr q, vi who] m K := by
  obtain ⟨h0, h1, h2, h3⟩ := hD
  obtain ⟨c0, c1, c2⟩ := hI
  have loop : ∀ n i : Nat, (i : Int) + n = D 0 0 → At tb d 18 K 4 [vr q, vi who, vi (sumI (fun j => (if D 1 j = who then D 3 j else 0) - (if D 2 j = who then D 3 j else 0)) i), vi i] [] m := by
    intro n
    induction n with
    | zero =>
      intro i h
      refine At.of k18_4 ?_
      simp only [w_iconst, w_lconst, w_null, w_ldc, w_worth, w_compact, w_sioobe, w_iload, w_lload, w_aload, w_istore, w_fstore, w_lstore, w_astore, w_astorex, w_astoren, w_kill, w_iinc, w_iadd, w_isub, w_imul, w_iand, w_ior, w_ixor, w_ishl, w_ishr, w_iushr, w_ineg, w_idiv, w_irem, w_ladd, w_lsub, w_lmul, w_ldiv, w_i2l, w_l2i, w_i2c, w_lcmp, w_dupi, w_dupr, w_dup2, w_popi, w_popr, w_ialoads, w_ialoadw, w_baloadx, w_alens, w_alenw, w_alenx, w_newi, w_newl, w_newz, w_newa, w_new, w_init, w_sval, w_scod, w_min, w_max, w_getfm, w_putfm, w_putzm, w_putrm, w_ialoadm, w_laloadm, w_baloadm, w_aaloadm, w_iastorem, w_lastorem, w_bastorem, w_aastorem, w_alenm, w_castm, w_clonem, w_goto, w_fall, w_if, w_ifc, w_ifnull, w_ifnulln, w_ifnonnull, w_ifnonnulln, w_switch, w_ireturn, w_zreturn, w_breturn, w_creturn, w_areturn, w_areturnn, w_return, w_throw, w_call, List.getElem?_cons_zero, List.getElem?_cons_succ, List.set_cons_zero, List.set_cons_succ, List.cons_append, List.nil_append, List.replicate_succ, List.replicate_zero, List.take_succ_cons, List.take_zero, List.drop_succ_cons, List.drop_zero, List.reverse_cons, List.reverse_nil, List.length_cons, List.length_nil, Option.toList, Int.reduceToNat, cI, lgB, Nat.reduceSub, Nat.reduceDiv, Nat.reduceMod, true_and, and_true, eq_self, ↓reduceIte, mnew_1, mnew_2, Int.toNat_natCast, mset_mset, dF, Nat.reduceEqDiff, forall_const, h0]
      refine ⟨Or.inr (by omega), fun _ => At.of k18_56 ?_, fun h => by omega⟩
      simp only [w_iconst, w_lconst, w_null, w_ldc, w_worth, w_compact, w_sioobe, w_iload, w_lload, w_aload, w_istore, w_fstore, w_lstore, w_astore, w_astorex, w_astoren, w_kill, w_iinc, w_iadd, w_isub, w_imul, w_iand, w_ior, w_ixor, w_ishl, w_ishr, w_iushr, w_ineg, w_idiv, w_irem, w_ladd, w_lsub, w_lmul, w_ldiv, w_i2l, w_l2i, w_i2c, w_lcmp, w_dupi, w_dupr, w_dup2, w_popi, w_popr, w_ialoads, w_ialoadw, w_baloadx, w_alens, w_alenw, w_alenx, w_newi, w_newl, w_newz, w_newa, w_new, w_init, w_sval, w_scod, w_min, w_max, w_getfm, w_putfm, w_putzm, w_putrm, w_ialoadm, w_laloadm, w_baloadm, w_aaloadm, w_iastorem, w_lastorem, w_bastorem, w_aastorem, w_alenm, w_castm, w_clonem, w_goto, w_fall, w_if, w_ifc, w_ifnull, w_ifnulln, w_ifnonnull, w_ifnonnulln, w_switch, w_ireturn, w_zreturn, w_breturn, w_creturn, w_areturn, w_areturnn, w_return, w_throw, w_call, List.getElem?_cons_zero, List.getElem?_cons_succ, List.set_cons_zero, List.set_cons_succ, List.cons_append, List.nil_append, List.replicate_succ, List.replicate_zero, List.take_succ_cons, List.take_zero, List.drop_succ_cons, List.drop_zero, List.reverse_cons, List.reverse_nil, List.length_cons, List.length_nil, Option.toList, Int.reduceToNat, cI, lgB, Nat.reduceSub, Nat.reduceDiv, Nat.reduceMod, true_and, and_true, eq_self, ↓reduceIte, mnew_1, mnew_2, Int.toNat_natCast, mset_mset, dF, Nat.reduceEqDiff, forall_const]
      rw [show (D 0 0).toNat = i by omega] at hK
      exact hK
    | succ n ih =>
      intro i h
      have h9 := ih (i + 1) (by omega)
      rw [show ((i + 1 : Nat) : Int) = (i : Int) + 1 by omega] at h9
      have q1 := c1 i (by omega)
      have q2 := c2 i (by omega)
      refine At.of k18_4 ?_
      simp only [w_iconst, w_lconst, w_null, w_ldc, w_worth, w_compact, w_sioobe, w_iload, w_lload, w_aload, w_istore, w_fstore, w_lstore, w_astore, w_astorex, w_astoren, w_kill, w_iinc, w_iadd, w_isub, w_imul, w_iand, w_ior, w_ixor, w_ishl, w_ishr, w_iushr, w_ineg, w_idiv, w_irem, w_ladd, w_lsub, w_lmul, w_ldiv, w_i2l, w_l2i, w_i2c, w_lcmp, w_dupi, w_dupr, w_dup2, w_popi, w_popr, w_ialoads, w_ialoadw, w_baloadx, w_alens, w_alenw, w_alenx, w_newi, w_newl, w_newz, w_newa, w_new, w_init, w_sval, w_scod, w_min, w_max, w_getfm, w_putfm, w_putzm, w_putrm, w_ialoadm, w_laloadm, w_baloadm, w_aaloadm, w_iastorem, w_lastorem, w_bastorem, w_aastorem, w_alenm, w_castm, w_clonem, w_goto, w_fall, w_if, w_ifc, w_ifnull, w_ifnulln, w_ifnonnull, w_ifnonnulln, w_switch, w_ireturn, w_zreturn, w_breturn, w_creturn, w_areturn, w_areturnn, w_return, w_throw, w_call, List.getElem?_cons_zero, List.getElem?_cons_succ, List.set_cons_zero, List.set_cons_succ, List.cons_append, List.nil_append, List.replicate_succ, List.replicate_zero, List.take_succ_cons, List.take_zero, List.drop_succ_cons, List.drop_zero, List.reverse_cons, List.reverse_nil, List.length_cons, List.length_nil, Option.toList, Int.reduceToNat, cI, lgB, Nat.reduceSub, Nat.reduceDiv, Nat.reduceMod, true_and, and_true, eq_self, ↓reduceIte, mnew_1, mnew_2, Int.toNat_natCast, mset_mset, dF, Nat.reduceEqDiff, forall_const, h0, h1, h2, h3]
      have es : sumI (fun j => (if D 1 j = who then D 3 j else 0) - (if D 2 j = who then D 3 j else 0)) (i + 1) = sumI (fun j => (if D 1 j = who then D 3 j else 0) - (if D 2 j = who then D 3 j else 0)) i + ((if D 1 i = who then D 3 i else 0) - (if D 2 i = who then D 3 i else 0)) := rfl
      have tail : ∀ x : Int, x - (if D 2 i = who then D 3 i else 0) = sumI (fun j => (if D 1 j = who then D 3 j else 0) - (if D 2 j = who then D 3 j else 0)) (i + 1) → At tb d 18 K 31 [vr q, vi who, vi x, vi i] [] m := by
        intro x hx
        refine At.of k18_31 ?_
        simp only [w_iconst, w_lconst, w_null, w_ldc, w_worth, w_compact, w_sioobe, w_iload, w_lload, w_aload, w_istore, w_fstore, w_lstore, w_astore, w_astorex, w_astoren, w_kill, w_iinc, w_iadd, w_isub, w_imul, w_iand, w_ior, w_ixor, w_ishl, w_ishr, w_iushr, w_ineg, w_idiv, w_irem, w_ladd, w_lsub, w_lmul, w_ldiv, w_i2l, w_l2i, w_i2c, w_lcmp, w_dupi, w_dupr, w_dup2, w_popi, w_popr, w_ialoads, w_ialoadw, w_baloadx, w_alens, w_alenw, w_alenx, w_newi, w_newl, w_newz, w_newa, w_new, w_init, w_sval, w_scod, w_min, w_max, w_getfm, w_putfm, w_putzm, w_putrm, w_ialoadm, w_laloadm, w_baloadm, w_aaloadm, w_iastorem, w_lastorem, w_bastorem, w_aastorem, w_alenm, w_castm, w_clonem, w_goto, w_fall, w_if, w_ifc, w_ifnull, w_ifnulln, w_ifnonnull, w_ifnonnulln, w_switch, w_ireturn, w_zreturn, w_breturn, w_creturn, w_areturn, w_areturnn, w_return, w_throw, w_call, List.getElem?_cons_zero, List.getElem?_cons_succ, List.set_cons_zero, List.set_cons_succ, List.cons_append, List.nil_append, List.replicate_succ, List.replicate_zero, List.take_succ_cons, List.take_zero, List.drop_succ_cons, List.drop_zero, List.reverse_cons, List.reverse_nil, List.length_cons, List.length_nil, Option.toList, Int.reduceToNat, cI, lgB, Nat.reduceSub, Nat.reduceDiv, Nat.reduceMod, true_and, and_true, eq_self, ↓reduceIte, mnew_1, mnew_2, Int.toNat_natCast, mset_mset, dF, Nat.reduceEqDiff, forall_const, h0, h2, h3]
        refine ⟨⟨by omega, by omega⟩, Or.inl ⟨⟨by omega, by omega⟩, hw⟩, fun e => At.of k18_50 ?_, fun e => ⟨⟨by omega, by omega⟩, At.of k18_50 ?_⟩⟩
        · simp only [w_iconst, w_lconst, w_null, w_ldc, w_worth, w_compact, w_sioobe, w_iload, w_lload, w_aload, w_istore, w_fstore, w_lstore, w_astore, w_astorex, w_astoren, w_kill, w_iinc, w_iadd, w_isub, w_imul, w_iand, w_ior, w_ixor, w_ishl, w_ishr, w_iushr, w_ineg, w_idiv, w_irem, w_ladd, w_lsub, w_lmul, w_ldiv, w_i2l, w_l2i, w_i2c, w_lcmp, w_dupi, w_dupr, w_dup2, w_popi, w_popr, w_ialoads, w_ialoadw, w_baloadx, w_alens, w_alenw, w_alenx, w_newi, w_newl, w_newz, w_newa, w_new, w_init, w_sval, w_scod, w_min, w_max, w_getfm, w_putfm, w_putzm, w_putrm, w_ialoadm, w_laloadm, w_baloadm, w_aaloadm, w_iastorem, w_lastorem, w_bastorem, w_aastorem, w_alenm, w_castm, w_clonem, w_goto, w_fall, w_if, w_ifc, w_ifnull, w_ifnulln, w_ifnonnull, w_ifnonnulln, w_switch, w_ireturn, w_zreturn, w_breturn, w_creturn, w_areturn, w_areturnn, w_return, w_throw, w_call, List.getElem?_cons_zero, List.getElem?_cons_succ, List.set_cons_zero, List.set_cons_succ, List.cons_append, List.nil_append, List.replicate_succ, List.replicate_zero, List.take_succ_cons, List.take_zero, List.drop_succ_cons, List.drop_zero, List.reverse_cons, List.reverse_nil, List.length_cons, List.length_nil, Option.toList, Int.reduceToNat, cI, lgB, Nat.reduceSub, Nat.reduceDiv, Nat.reduceMod, true_and, and_true, eq_self, ↓reduceIte, mnew_1, mnew_2, Int.toNat_natCast, mset_mset, dF, Nat.reduceEqDiff, forall_const]
          rw [if_neg e] at hx
          rw [← hx, show x - 0 = x by omega] at h9
          exact h9
        · simp only [w_iconst, w_lconst, w_null, w_ldc, w_worth, w_compact, w_sioobe, w_iload, w_lload, w_aload, w_istore, w_fstore, w_lstore, w_astore, w_astorex, w_astoren, w_kill, w_iinc, w_iadd, w_isub, w_imul, w_iand, w_ior, w_ixor, w_ishl, w_ishr, w_iushr, w_ineg, w_idiv, w_irem, w_ladd, w_lsub, w_lmul, w_ldiv, w_i2l, w_l2i, w_i2c, w_lcmp, w_dupi, w_dupr, w_dup2, w_popi, w_popr, w_ialoads, w_ialoadw, w_baloadx, w_alens, w_alenw, w_alenx, w_newi, w_newl, w_newz, w_newa, w_new, w_init, w_sval, w_scod, w_min, w_max, w_getfm, w_putfm, w_putzm, w_putrm, w_ialoadm, w_laloadm, w_baloadm, w_aaloadm, w_iastorem, w_lastorem, w_bastorem, w_aastorem, w_alenm, w_castm, w_clonem, w_goto, w_fall, w_if, w_ifc, w_ifnull, w_ifnulln, w_ifnonnull, w_ifnonnulln, w_switch, w_ireturn, w_zreturn, w_breturn, w_creturn, w_areturn, w_areturnn, w_return, w_throw, w_call, List.getElem?_cons_zero, List.getElem?_cons_succ, List.set_cons_zero, List.set_cons_succ, List.cons_append, List.nil_append, List.replicate_succ, List.replicate_zero, List.take_succ_cons, List.take_zero, List.drop_succ_cons, List.drop_zero, List.reverse_cons, List.reverse_nil, List.length_cons, List.length_nil, Option.toList, Int.reduceToNat, cI, lgB, Nat.reduceSub, Nat.reduceDiv, Nat.reduceMod, true_and, and_true, eq_self, ↓reduceIte, mnew_1, mnew_2, Int.toNat_natCast, mset_mset, dF, Nat.reduceEqDiff, forall_const]
          rw [if_pos (Classical.not_not.mp e)] at hx
          rw [← hx] at h9
          exact h9
      refine ⟨Or.inl ⟨⟨by omega, by omega⟩, ⟨by omega, by omega⟩⟩, fun h => by omega, fun _ => ⟨⟨by omega, by omega⟩, Or.inl ⟨⟨by omega, by omega⟩, hw⟩, fun e => tail _ ?_, fun e => ⟨⟨by omega, by omega⟩, tail _ ?_⟩⟩⟩
      · rw [es, if_neg e]; omega
      · rw [es, if_pos (Classical.not_not.mp e)]; omega
  refine Runs.of (al := [vr q, vi who]) (n := 2) ⟨q, _, _, rfl, h0⟩ rfl rfl trivial ?_
  refine At.of k18_0 ?_
  simp only [w_iconst, w_lconst, w_null, w_ldc, w_worth, w_compact, w_sioobe, w_iload, w_lload, w_aload, w_istore, w_fstore, w_lstore, w_astore, w_astorex, w_astoren, w_kill, w_iinc, w_iadd, w_isub, w_imul, w_iand, w_ior, w_ixor, w_ishl, w_ishr, w_iushr, w_ineg, w_idiv, w_irem, w_ladd, w_lsub, w_lmul, w_ldiv, w_i2l, w_l2i, w_i2c, w_lcmp, w_dupi, w_dupr, w_dup2, w_popi, w_popr, w_ialoads, w_ialoadw, w_baloadx, w_alens, w_alenw, w_alenx, w_newi, w_newl, w_newz, w_newa, w_new, w_init, w_sval, w_scod, w_min, w_max, w_getfm, w_putfm, w_putzm, w_putrm, w_ialoadm, w_laloadm, w_baloadm, w_aaloadm, w_iastorem, w_lastorem, w_bastorem, w_aastorem, w_alenm, w_castm, w_clonem, w_goto, w_fall, w_if, w_ifc, w_ifnull, w_ifnulln, w_ifnonnull, w_ifnonnulln, w_switch, w_ireturn, w_zreturn, w_breturn, w_creturn, w_areturn, w_areturnn, w_return, w_throw, w_call, List.getElem?_cons_zero, List.getElem?_cons_succ, List.set_cons_zero, List.set_cons_succ, List.cons_append, List.nil_append, List.replicate_succ, List.replicate_zero, List.take_succ_cons, List.take_zero, List.drop_succ_cons, List.drop_zero, List.reverse_cons, List.reverse_nil, List.length_cons, List.length_nil, Option.toList, Int.reduceToNat, cI, lgB, Nat.reduceSub, Nat.reduceDiv, Nat.reduceMod, true_and, and_true, eq_self, ↓reduceIte, mnew_1, mnew_2, Int.toNat_natCast, mset_mset, dF, Nat.reduceEqDiff, forall_const]
  exact loop (D 0 0).toNat 0 (by omega)
end DebtsR
/-- the memory m with Debts of the state D at q -/
def setD (q : Nat) (D : Nat → Nat → Int) (m : AM) : AM := (fun k => if k = q then co 0 (dF q D) else if k = q + 1 then ca 0 8 (D 1) else if k = q + 2 then ca 0 8 (D 2) else if k = q + 3 then ca 0 8 (D 3) else m.1 k, m.2)
theorem setD_D {q : Nat} {D : Nat → Nat → Int} {m : AM} : D8 q D (setD q D m) := by
  unfold D8 setD
  refine ⟨?_, ?_, ?_, ?_⟩ <;> simp
theorem setD_id {q : Nat} {D : Nat → Nat → Int} {m : AM} (h : D8 q D m) : setD q D m = m := by
  obtain ⟨h0, h1, h2, h3⟩ := h
  refine Prod.ext (funext fun k => ?_) rfl
  unfold setD
  dsimp only
  repeat' split
  all_goals first | rfl | (next e => rw [e]; exact h0.symm) | (next e => rw [e]; exact h1.symm) | (next e => rw [e]; exact h2.symm) | (next e => rw [e]; exact h3.symm)
theorem sD0 {q : Nat} {D : Nat → Nat → Int} {m : AM} : (setD q D m).1 q = co 0 (dF q D) := setD_D.1
theorem sD1 {q : Nat} {D : Nat → Nat → Int} {m : AM} : (setD q D m).1 (q + 1) = ca 0 8 (D 1) := setD_D.2.1
theorem sD2 {q : Nat} {D : Nat → Nat → Int} {m : AM} : (setD q D m).1 (q + 2) = ca 0 8 (D 2) := setD_D.2.2.1
theorem sD3 {q : Nat} {D : Nat → Nat → Int} {m : AM} : (setD q D m).1 (q + 3) = ca 0 8 (D 3) := setD_D.2.2.2
theorem setD_1 {q : Nat} {D : Nat → Nat → Int} {m : AM} {g : Nat → Int} : mset (setD q D m) (q + 1) (ca 0 8 g) = setD q (up D 1 g) m := by
  refine Prod.ext (funext fun k => ?_) rfl
  show (if k = q + 1 then ca 0 8 g else (setD q D m).1 k) = (setD q (up D 1 g) m).1 k
  by_cases e : k = q + 1
  · rw [if_pos e, e]
    simp [setD, up]
  · rw [if_neg e]
    simp [setD, up, dF, e]
theorem setD_2 {q : Nat} {D : Nat → Nat → Int} {m : AM} {g : Nat → Int} : mset (setD q D m) (q + 2) (ca 0 8 g) = setD q (up D 2 g) m := by
  refine Prod.ext (funext fun k => ?_) rfl
  show (if k = q + 2 then ca 0 8 g else (setD q D m).1 k) = (setD q (up D 2 g) m).1 k
  by_cases e : k = q + 2
  · rw [if_pos e, e]
    simp [setD, up]
  · rw [if_neg e]
    simp [setD, up, dF, e]
theorem setD_3 {q : Nat} {D : Nat → Nat → Int} {m : AM} {g : Nat → Int} : mset (setD q D m) (q + 3) (ca 0 8 g) = setD q (up D 3 g) m := by
  refine Prod.ext (funext fun k => ?_) rfl
  show (if k = q + 3 then ca 0 8 g else (setD q D m).1 k) = (setD q (up D 3 g) m).1 k
  by_cases e : k = q + 3
  · rw [if_pos e, e]
    simp [setD, up]
  · rw [if_neg e]
    simp [setD, up, dF, e]
theorem setD_0 {q : Nat} {D : Nat → Nat → Int} {m : AM} {x : Int} : mset (setD q D m) q (co 0 [vi x, vr (q + 1), vr (q + 2), vr (q + 3)]) = setD q (up D 0 (fun _ => x)) m := by
  refine Prod.ext (funext fun k => ?_) rfl
  show (if k = q then co 0 [vi x, vr (q + 1), vr (q + 2), vr (q + 3)] else (setD q D m).1 k) = (setD q (up D 0 (fun _ => x)) m).1 k
  by_cases e : k = q
  · rw [if_pos e, e]
    simp [setD, up, dF]
  · rw [if_neg e]
    simp [setD, up, dF, e]
def addD (D : Nat → Nat → Int) (a b c : Int) : Nat → Nat → Int := up (up (up (up D 1 (up (D 1) (D 0 0).toNat a)) 2 (up (D 2) (D 0 0).toNat b)) 3 (up (D 3) (D 0 0).toNat c)) 0 (fun _ => D 0 0 + 1)
theorem r_14 {tb : Tab} {d q : Nat} {m : AM} {K : Out → AM → Prop} {D : Nat → Nat → Int} {a b c : Int} (hI : DI D) (hf : D 0 0 < 8) (hK : K (.inl none) (setD q (addD D a b c) m)) : Runs tb pg (d + 1) 14 [vr q, vi a, vi b, vi c] (setD q D m) K := by
  obtain ⟨c0, -⟩ := hI
  refine Runs.of (al := [vr q, vi a, vi b, vi c]) (n := 0) ⟨q, _, _, rfl, sD0⟩ rfl rfl trivial ?_
  refine At.of k14_0 ?_
  simp only [w_iconst, w_lconst, w_null, w_ldc, w_worth, w_compact, w_sioobe, w_iload, w_lload, w_aload, w_istore, w_fstore, w_lstore, w_astore, w_astorex, w_astoren, w_kill, w_iinc, w_iadd, w_isub, w_imul, w_iand, w_ior, w_ixor, w_ishl, w_ishr, w_iushr, w_ineg, w_idiv, w_irem, w_ladd, w_lsub, w_lmul, w_ldiv, w_i2l, w_l2i, w_i2c, w_lcmp, w_dupi, w_dupr, w_dup2, w_popi, w_popr, w_ialoads, w_ialoadw, w_baloadx, w_alens, w_alenw, w_alenx, w_newi, w_newl, w_newz, w_newa, w_new, w_init, w_sval, w_scod, w_min, w_max, w_getfm, w_putfm, w_putzm, w_putrm, w_ialoadm, w_laloadm, w_baloadm, w_aaloadm, w_iastorem, w_lastorem, w_bastorem, w_aastorem, w_alenm, w_castm, w_clonem, w_goto, w_fall, w_if, w_ifc, w_ifnull, w_ifnulln, w_ifnonnull, w_ifnonnulln, w_switch, w_ireturn, w_zreturn, w_breturn, w_creturn, w_areturn, w_areturnn, w_return, w_throw, w_call, List.getElem?_cons_zero, List.getElem?_cons_succ, List.set_cons_zero, List.set_cons_succ, List.cons_append, List.nil_append, List.replicate_succ, List.replicate_zero, List.take_succ_cons, List.take_zero, List.drop_succ_cons, List.drop_zero, List.reverse_cons, List.reverse_nil, List.length_cons, List.length_nil, Option.toList, Int.reduceToNat, cI, lgB, Nat.reduceSub, Nat.reduceDiv, Nat.reduceMod, true_and, and_true, eq_self, ↓reduceIte, mnew_1, mnew_2, Int.toNat_natCast, mset_mset, dF, Nat.reduceEqDiff, forall_const, sD0, sD1, sD2, sD3, setD_1, setD_2, setD_3, setD_0, up_at]
  refine ⟨Or.inl ⟨⟨by omega, by omega⟩, ⟨by decide, by decide⟩⟩, fun h => by omega, fun _ => ⟨⟨by omega, by omega⟩, ⟨by omega, by omega⟩, ⟨by omega, by omega⟩, At.of k14_49 ?_⟩⟩
  simp only [w_iconst, w_lconst, w_null, w_ldc, w_worth, w_compact, w_sioobe, w_iload, w_lload, w_aload, w_istore, w_fstore, w_lstore, w_astore, w_astorex, w_astoren, w_kill, w_iinc, w_iadd, w_isub, w_imul, w_iand, w_ior, w_ixor, w_ishl, w_ishr, w_iushr, w_ineg, w_idiv, w_irem, w_ladd, w_lsub, w_lmul, w_ldiv, w_i2l, w_l2i, w_i2c, w_lcmp, w_dupi, w_dupr, w_dup2, w_popi, w_popr, w_ialoads, w_ialoadw, w_baloadx, w_alens, w_alenw, w_alenx, w_newi, w_newl, w_newz, w_newa, w_new, w_init, w_sval, w_scod, w_min, w_max, w_getfm, w_putfm, w_putzm, w_putrm, w_ialoadm, w_laloadm, w_baloadm, w_aaloadm, w_iastorem, w_lastorem, w_bastorem, w_aastorem, w_alenm, w_castm, w_clonem, w_goto, w_fall, w_if, w_ifc, w_ifnull, w_ifnulln, w_ifnonnull, w_ifnonnulln, w_switch, w_ireturn, w_zreturn, w_breturn, w_creturn, w_areturn, w_areturnn, w_return, w_throw, w_call, List.getElem?_cons_zero, List.getElem?_cons_succ, List.set_cons_zero, List.set_cons_succ, List.cons_append, List.nil_append, List.replicate_succ, List.replicate_zero, List.take_succ_cons, List.take_zero, List.drop_succ_cons, List.drop_zero, List.reverse_cons, List.reverse_nil, List.length_cons, List.length_nil, Option.toList, Int.reduceToNat, cI, lgB, Nat.reduceSub, Nat.reduceDiv, Nat.reduceMod, true_and, and_true, eq_self, ↓reduceIte, mnew_1, mnew_2, Int.toNat_natCast, mset_mset, dF, Nat.reduceEqDiff, forall_const]
  exact hK
