/-! ===== THE REFERENCE'S CONSTRUCTOR ===== -/
theorem PO_cg {m0 m : AM} {a ci k : Nat} {fs : List AV} {G G' : Nat → AC} (h : PO m0 a ci fs k G m) (hG : ∀ b, a < b → b < k → G b = G' b) : PO m0 a ci fs k G' m := ⟨h.1, h.2.1, h.2.2.1, h.2.2.2.1, fun b b0 b1 => (h.2.2.2.2 b b0 b1).trans (hG b b0 b1)⟩
/-- what is seen behind k places of a name of n letters -/
def seenZ (n : Int) : Nat → Int
  | 0 => 0
  | k + 1 => if n - 2 - k < 0 then orI (seenZ n k) (shlI 1 (xorI (worthT k) (worthT (n - 1 - k).toNat))) else orI (orI (seenZ n k) (shlI 1 (xorI (worthT k) (worthT (n - 1 - k).toNat)))) (shlI 1 (xorI (worthT k) (worthT (n - 2 - k).toNat)))
theorem mex_ok : ∀ n : Fin 6, (¬ bitB (seenZ ((n : Nat) + 1 : Nat) (n + 1)) (worthT (n + 1)) ∧ 0 ≤ worthT (n + 1) ∧ worthT (n + 1) ≤ 7) ∧ ∀ j : Fin 8, ((j : Nat) : Int) < worthT (n + 1) → bitB (seenZ ((n : Nat) + 1 : Nat) (n + 1)) (j : Nat) := by decide +kernel
def GM (n : Nat) : Nat → AC := fun b => if b = 312 then ca 0 7 (fun i => if i < n then worthT i else 0) else cX b (S0 b)
theorem k198_0 : pg.1 198 0 = [.aload 0, .invokespecial 0, .aload 0, .bipush 815, .newarray .int, .putstatic 1001, .aload 0, .bipush 815, .newarray .int, .putstatic 1002, .aload 0, .bipush 415, .newarray .int, .putstatic 1004, .aload 0, .bipush 4980, .newarray .int, .putstatic 1005, .aload 0, .bipush 400, .newarray .int, .putstatic 1007, .aload 0, .bipush (-1), .putfield 1012, .aload 0, .bipush 7, .newarray .int, .putstatic 1014, .aload 0, .bipush 6, .newarray .int, .putstatic 1020, .aload 0, .bipush 49, .newarray .int, .putstatic 1021, .aload 0, .bipush 6, .newarray .int, .putstatic 1022, .aload 0, .bipush 64, .newarray .int, .putstatic 1023, .aload 0, .bipush 6, .newarray .int, .putstatic 1024, .aload 0, .bipush 7, .newarray .int, .putstatic 1025, .aload 0, .bipush 36, .newarray .boolean, .putstatic 1026, .aload 0, .bipush 6, .newarray .int, .putstatic 1027, .aload 0, .bipush 6, .newarray .int, .putstatic 1028, .aload 0, .getfield 1001, .bipush 1, .bipush (-1), .iastore, .aload 0, .getfield 1001, .bipush 6, .bipush 5, .iastore, .aload 0, .getfield 1001, .bipush 7, .bipush 50, .iastore, .aload 0, .getfield 1001, .bipush 12, .bipush 1, .iastore, .bipush 1, .istore 1, .jsr 168] := rfl
theorem a198_0 {tb : Tab} {d : Nat} {K : Out → AM → Prop} {ls st : List AV} {m : AM} : At tb d 198 K 0 ls st m = wpB tb (pg.2.1 198) (Runs tb pg d) K (At tb d 198 K) [.aload 0, .invokespecial 0, .aload 0, .bipush 815, .newarray .int, .putstatic 1001, .aload 0, .bipush 815, .newarray .int, .putstatic 1002, .aload 0, .bipush 415, .newarray .int, .putstatic 1004, .aload 0, .bipush 4980, .newarray .int, .putstatic 1005, .aload 0, .bipush 400, .newarray .int, .putstatic 1007, .aload 0, .bipush (-1), .putfield 1012, .aload 0, .bipush 7, .newarray .int, .putstatic 1014, .aload 0, .bipush 6, .newarray .int, .putstatic 1020, .aload 0, .bipush 49, .newarray .int, .putstatic 1021, .aload 0, .bipush 6, .newarray .int, .putstatic 1022, .aload 0, .bipush 64, .newarray .int, .putstatic 1023, .aload 0, .bipush 6, .newarray .int, .putstatic 1024, .aload 0, .bipush 7, .newarray .int, .putstatic 1025, .aload 0, .bipush 36, .newarray .boolean, .putstatic 1026, .aload 0, .bipush 6, .newarray .int, .putstatic 1027, .aload 0, .bipush 6, .newarray .int, .putstatic 1028, .aload 0, .getfield 1001, .bipush 1, .bipush (-1), .iastore, .aload 0, .getfield 1001, .bipush 6, .bipush 5, .iastore, .aload 0, .getfield 1001, .bipush 7, .bipush 50, .iastore, .aload 0, .getfield 1001, .bipush 12, .bipush 1, .iastore, .bipush 1, .istore 1, .jsr 168] ls st m := At.eq k198_0
theorem k198_168 : pg.1 198 168 = [.iload 1, .bipush 6, .if_icmp .gt 270, .bipush 0, .istore 2, .bipush 0, .istore 3, .jsr 178] := rfl
theorem a198_168 {tb : Tab} {d : Nat} {K : Out → AM → Prop} {ls st : List AV} {m : AM} : At tb d 198 K 168 ls st m = wpB tb (pg.2.1 198) (Runs tb pg d) K (At tb d 198 K) [.iload 1, .bipush 6, .if_icmp .gt 270, .bipush 0, .istore 2, .bipush 0, .istore 3, .jsr 178] ls st m := At.eq k198_168
theorem k198_178 : pg.1 198 178 = [.iload 3, .iload 1, .if_icmp .ge 241, .iload 2, .bipush 1, .aload 0, .getfield 1025, .iload 3, .iaload, .aload 0, .getfield 1025, .iload 1, .bipush 1, .isub, .iload 3, .isub, .iaload, .ixor, .ishl, .ior, .istore 2, .iload 1, .bipush 2, .isub, .iload 3, .isub, .ifCond .lt 235, .iload 2, .bipush 1, .aload 0, .getfield 1025, .iload 3, .iaload, .aload 0, .getfield 1025, .iload 1, .bipush 2, .isub, .iload 3, .isub, .iaload, .ixor, .ishl, .ior, .istore 2, .jsr 235] := rfl
theorem a198_178 {tb : Tab} {d : Nat} {K : Out → AM → Prop} {ls st : List AV} {m : AM} : At tb d 198 K 178 ls st m = wpB tb (pg.2.1 198) (Runs tb pg d) K (At tb d 198 K) [.iload 3, .iload 1, .if_icmp .ge 241, .iload 2, .bipush 1, .aload 0, .getfield 1025, .iload 3, .iaload, .aload 0, .getfield 1025, .iload 1, .bipush 1, .isub, .iload 3, .isub, .iaload, .ixor, .ishl, .ior, .istore 2, .iload 1, .bipush 2, .isub, .iload 3, .isub, .ifCond .lt 235, .iload 2, .bipush 1, .aload 0, .getfield 1025, .iload 3, .iaload, .aload 0, .getfield 1025, .iload 1, .bipush 2, .isub, .iload 3, .isub, .iaload, .ixor, .ishl, .ior, .istore 2, .jsr 235] ls st m := At.eq k198_178
theorem k198_235 : pg.1 198 235 = [.iinc 3 1, .goto 178] := rfl
theorem a198_235 {tb : Tab} {d : Nat} {K : Out → AM → Prop} {ls st : List AV} {m : AM} : At tb d 198 K 235 ls st m = wpB tb (pg.2.1 198) (Runs tb pg d) K (At tb d 198 K) [.iinc 3 1, .goto 178] ls st m := At.eq k198_235
theorem k198_241 : pg.1 198 241 = [.bipush 0, .istore 3, .jsr 243] := rfl
theorem a198_241 {tb : Tab} {d : Nat} {K : Out → AM → Prop} {ls st : List AV} {m : AM} : At tb d 198 K 241 ls st m = wpB tb (pg.2.1 198) (Runs tb pg d) K (At tb d 198 K) [.bipush 0, .istore 3, .jsr 243] ls st m := At.eq k198_241
theorem k198_243 : pg.1 198 243 = [.iload 2, .iload 3, .invokeinterface 203 2, .ifCond .eq 257, .iinc 3 1, .goto 243] := rfl
theorem a198_243 {tb : Tab} {d : Nat} {K : Out → AM → Prop} {ls st : List AV} {m : AM} : At tb d 198 K 243 ls st m = wpB tb (pg.2.1 198) (Runs tb pg d) K (At tb d 198 K) [.iload 2, .iload 3, .invokeinterface 203 2, .ifCond .eq 257, .iinc 3 1, .goto 243] ls st m := At.eq k198_243
theorem k198_257 : pg.1 198 257 = [.aload 0, .getfield 1025, .iload 1, .iload 3, .iastore, .iinc 1 1, .goto 168] := rfl
theorem a198_257 {tb : Tab} {d : Nat} {K : Out → AM → Prop} {ls st : List AV} {m : AM} : At tb d 198 K 257 ls st m = wpB tb (pg.2.1 198) (Runs tb pg d) K (At tb d 198 K) [.aload 0, .getfield 1025, .iload 1, .iload 3, .iastore, .iinc 1 1, .goto 168] ls st m := At.eq k198_257
theorem k198_270 : pg.1 198 270 = [.return_] := rfl
theorem a198_270 {tb : Tab} {d : Nat} {K : Out → AM → Prop} {ls st : List AV} {m : AM} : At tb d 198 K 270 ls st m = wpB tb (pg.2.1 198) (Runs tb pg d) K (At tb d 198 K) [.return_] ls st m := At.eq k198_270
theorem c_198 {tb : Tab} {d : Nat} (hT : tb.1 = dfl) : CTR tb (d + 2) 198 10 16 300 := by
  intro m1 K hC hc hK
  have H : PO m1 300 10 [vi 0, vn, vn, vi 0, vn, vn, vi 0, vn, vi 0, vi 0, vi 0, vi 0, vi 0, vi 0, vn, vi 0, vi 0, vi 0, vi 0, vi 0, vn, vn, vn, vn, vn, vn, vn, vn, vn] 301 (fun b => if b = 301 then ca 0 815 (fun _ => 0) else if b = 312 then ca 0 7 (fun _ => 0) else cX b (S0 b)) m1 := po_start hC hc
  refine Runs.of (al := [vr 300]) (n := 3) ⟨300, _, _, rfl, hc⟩ rfl rfl trivial ?_
  have hL : ∀ (x n : Nat) (z2 z3 : AV) (m : AM), n + x = 7 → 1 ≤ n → PO m1 300 10 [vi 0, vr 301, vr 302, vi 0, vr 303, vr 304, vi 0, vr 305, vi 0, vi 0, vi 0, vi 0, vi (-1), vi 0, vr 306, vi 0, vi 0, vi 0, vi 0, vi 0, vr 307, vr 308, vr 309, vr 310, vr 311, vr 312, vr 313, vr 314, vr 315] 316 (GM n) m → At tb (d + 1) 198 K 168 [vr 300, vi (n : Int), z2, z3] [] m := by
    intro x
    induction x with
    | zero =>
      intro n z2 z3 m hn h1 hP
      have e : n = 7 := by omega
      subst e
      rw [At.eq k198_168]
      simp only [w_aload, w_iconst, w_init, w_null, w_return, w_iload, w_istore, w_fall, w_goto, w_ifc, w_if, w_iinc, w_isub, w_ixor, w_ishl, w_ior, lgB, cI, Int.reduceToNat, Nat.reduceSub, List.getElem?_cons_zero, List.getElem?_cons_succ, List.set_cons_zero, List.set_cons_succ, List.length_nil, List.length_cons, Nat.zero_le, true_and, List.append_eq, List.cons_append, List.nil_append, List.replicate_zero, List.replicate_succ]
      refine ⟨Or.inl (by unfold R32; decide), fun _ => ?_, fun z => absurd (by decide) z⟩
      rw [At.eq k198_270, w_return]
      refine po_end (n := 16) hP (by decide) rfl (fun b b0 b1 => ?_) hK
      show (if b = 312 then _ else cX b (S0 b)) = cX b (S0 b)
      by_cases z : b = 312
      · rw [if_pos z, z, isA_312.2, len_312]
        refine congrArg (ca 0 7) (funext fun j => ?_)
        show (if j < 7 then worthT j else 0) = (if 0 ≤ (j : Int) ∧ (j : Int) < 7 then worthT ((j : Int)).toNat else 0)
        by_cases y : j < 7
        · rw [if_pos y, if_pos (by omega), Int.toNat_natCast]
        · rw [if_neg y, if_neg (by omega)]
      · rw [if_neg z]
    | succ x ih =>
      intro n z2 z3 m hn h1 hP
      have n6 : n ≤ 6 := by omega
      have hG : GM n 312 = ca 0 7 (fun i => if i < n then worthT i else 0) := if_pos rfl
      have mx := mex_ok ⟨n - 1, by omega⟩
      have en : n - 1 + 1 = n := by omega
      dsimp only at mx
      rw [en] at mx
      obtain ⟨⟨mx1, mx2, mx3⟩, mx4⟩ := mx
      have hV : ∀ (y v : Nat), (v : Int) + y = worthT n → At tb (d + 1) 198 K 243 [vr 300, vi (n : Int), vi (seenZ n n), vi (v : Int)] [] m := by
        intro y
        induction y with
        | zero =>
          intro v hv
          have ev : (v : Int) = worthT n := by omega
          rw [At.eq k198_243]
          simp only [w_iload, w_call, List.getElem?_cons_zero, List.getElem?_cons_succ, List.set_cons_zero, List.set_cons_succ, List.cons_append, List.nil_append, List.replicate_succ, List.replicate_zero, List.take_succ_cons, List.take_zero, List.drop_succ_cons, List.drop_zero, List.reverse_cons, List.reverse_nil, List.length_cons, List.length_nil, Option.toList, true_and, and_true, eq_self, ↓reduceIte, not_true_eq_false, not_false_eq_true, true_or, or_true, List.append_eq]
          refine ⟨⟨by omega, by omega⟩, q_203 (fun z => absurd (ev ▸ z) mx1) (fun _ => ?_)⟩
          simp only [Option.toList, List.getElem?_cons_zero, List.getElem?_cons_succ, List.set_cons_zero, List.set_cons_succ, List.cons_append, List.nil_append, List.replicate_succ, List.replicate_zero, List.take_succ_cons, List.take_zero, List.drop_succ_cons, List.drop_zero, List.reverse_cons, List.reverse_nil, List.length_cons, List.length_nil, Option.toList, true_and, and_true, eq_self, ↓reduceIte, not_true_eq_false, not_false_eq_true, true_or, or_true, List.append_eq, w_if, cI, Int.reduceToNat]
          refine ⟨by unfold R32; omega, fun _ => ?_, fun z => by simp at z⟩
          rw [At.eq k198_257]
          simp only [w_aload, List.getElem?_cons_zero, List.getElem?_cons_succ, List.set_cons_zero, List.set_cons_succ, List.cons_append, List.nil_append, List.replicate_succ, List.replicate_zero, List.take_succ_cons, List.take_zero, List.drop_succ_cons, List.drop_zero, List.reverse_cons, List.reverse_nil, List.length_cons, List.length_nil, Option.toList, true_and, and_true, eq_self, ↓reduceIte, not_true_eq_false, not_false_eq_true, true_or, or_true, List.append_eq]
          refine po_get hP (by decide) rfl ?_
          simp only [w_iload, List.getElem?_cons_zero, List.getElem?_cons_succ, List.set_cons_zero, List.set_cons_succ, List.cons_append, List.nil_append, List.replicate_succ, List.replicate_zero, List.take_succ_cons, List.take_zero, List.drop_succ_cons, List.drop_zero, List.reverse_cons, List.reverse_nil, List.length_cons, List.length_nil, Option.toList, true_and, and_true, eq_self, ↓reduceIte, not_true_eq_false, not_false_eq_true, true_or, or_true, List.append_eq]
          refine po_ist (len := 7) hP (by decide) hG (by omega) (fun m2 H2 => ?_)
          simp only [w_iinc, lgB, Nat.reduceSub, w_goto, Int.reduceToNat, List.getElem?_cons_zero, List.getElem?_cons_succ, List.set_cons_zero, List.set_cons_succ, List.cons_append, List.nil_append, List.replicate_succ, List.replicate_zero, List.take_succ_cons, List.take_zero, List.drop_succ_cons, List.drop_zero, List.reverse_cons, List.reverse_nil, List.length_cons, List.length_nil, Option.toList, true_and, and_true, eq_self, ↓reduceIte, not_true_eq_false, not_false_eq_true, true_or, or_true, List.append_eq]
          try refine ⟨trivial, ?_⟩
          rw [show (n : Int) + 1 = ((n + 1 : Nat) : Int) by omega]
          refine ih (n + 1) _ _ m2 (by omega) (by omega) (PO_cg H2 (fun b b0 b1 => ?_))
          show (if b = 312 then _ else (if b = 312 then _ else cX b (S0 b))) = (if b = 312 then _ else cX b (S0 b))
          by_cases z : b = 312
          · rw [if_pos z, if_pos z]
            refine congrArg (ca 0 7) (funext fun j => ?_)
            show (if j = ((n : Int)).toNat then (v : Int) else if j < n then worthT j else 0) = if j < n + 1 then worthT j else 0
            by_cases w : j = n
            · rw [if_pos (by omega), if_pos (by omega), w]; exact ev
            · rw [if_neg (by omega)]
              by_cases u : j < n
              · rw [if_pos u, if_pos (by omega)]
              · rw [if_neg u, if_neg (by omega)]
          · rw [if_neg z, if_neg z, if_neg z]
        | succ y ihy =>
          intro v hv
          have bv : bitB (seenZ n n) (v : Int) := mx4 ⟨v, by omega⟩ (by show (v : Int) < _; omega)
          rw [At.eq k198_243]
          simp only [w_iload, w_call, List.getElem?_cons_zero, List.getElem?_cons_succ, List.set_cons_zero, List.set_cons_succ, List.cons_append, List.nil_append, List.replicate_succ, List.replicate_zero, List.take_succ_cons, List.take_zero, List.drop_succ_cons, List.drop_zero, List.reverse_cons, List.reverse_nil, List.length_cons, List.length_nil, Option.toList, true_and, and_true, eq_self, ↓reduceIte, not_true_eq_false, not_false_eq_true, true_or, or_true, List.append_eq]
          refine ⟨⟨by omega, by omega⟩, q_203 (fun _ => ?_) (fun z => absurd bv z)⟩
          simp only [Option.toList, List.getElem?_cons_zero, List.getElem?_cons_succ, List.set_cons_zero, List.set_cons_succ, List.cons_append, List.nil_append, List.replicate_succ, List.replicate_zero, List.take_succ_cons, List.take_zero, List.drop_succ_cons, List.drop_zero, List.reverse_cons, List.reverse_nil, List.length_cons, List.length_nil, Option.toList, true_and, and_true, eq_self, ↓reduceIte, not_true_eq_false, not_false_eq_true, true_or, or_true, List.append_eq, w_if, cI, Int.reduceToNat]
          refine ⟨by unfold R32; omega, fun z => absurd z (by decide), fun _ => ?_⟩
          simp only [w_iinc, lgB, Nat.reduceSub, w_goto, Int.reduceToNat, List.getElem?_cons_zero, List.getElem?_cons_succ, List.set_cons_zero, List.set_cons_succ, List.cons_append, List.nil_append, List.replicate_succ, List.replicate_zero, List.take_succ_cons, List.take_zero, List.drop_succ_cons, List.drop_zero, List.reverse_cons, List.reverse_nil, List.length_cons, List.length_nil, Option.toList, true_and, and_true, eq_self, ↓reduceIte, not_true_eq_false, not_false_eq_true, true_or, or_true, List.append_eq]
          try refine ⟨trivial, ?_⟩
          rw [show (v : Int) + 1 = ((v + 1 : Nat) : Int) by omega]
          exact ihy (v + 1) (by omega)
      have hS : ∀ (y k : Nat), k + y = n → At tb (d + 1) 198 K 178 [vr 300, vi (n : Int), vi (seenZ n k), vi (k : Int)] [] m := by
        intro y
        induction y with
        | zero =>
          intro k hk
          have e : k = n := by omega
          subst e
          rw [At.eq k198_178]
          simp only [w_iload, w_ifc, cI, Int.reduceToNat, List.getElem?_cons_zero, List.getElem?_cons_succ, List.set_cons_zero, List.set_cons_succ, List.cons_append, List.nil_append, List.replicate_succ, List.replicate_zero, List.take_succ_cons, List.take_zero, List.drop_succ_cons, List.drop_zero, List.reverse_cons, List.reverse_nil, List.length_cons, List.length_nil, Option.toList, true_and, and_true, eq_self, ↓reduceIte, not_true_eq_false, not_false_eq_true, true_or, or_true, List.append_eq]
          refine ⟨fun _ => ?_, fun z => absurd (Int.le_refl _) z⟩
          rw [At.eq k198_241]
          simp only [w_iconst, w_istore, w_fall, Int.reduceToNat, List.getElem?_cons_zero, List.getElem?_cons_succ, List.set_cons_zero, List.set_cons_succ, List.cons_append, List.nil_append, List.replicate_succ, List.replicate_zero, List.take_succ_cons, List.take_zero, List.drop_succ_cons, List.drop_zero, List.reverse_cons, List.reverse_nil, List.length_cons, List.length_nil, Option.toList, true_and, and_true, eq_self, ↓reduceIte, not_true_eq_false, not_false_eq_true, true_or, or_true, List.append_eq]
          exact hV (worthT k).toNat 0 (by omega)
        | succ y ihy =>
          intro k hk
          have e1 : (if ((k : Int)).toNat < n then worthT ((k : Int)).toNat else 0) = worthT k := by rw [Int.toNat_natCast, if_pos (by omega)]
          have e2 : (if ((n : Int) - 1 - k).toNat < n then worthT ((n : Int) - 1 - k).toNat else 0) = worthT ((n : Int) - 1 - k).toNat := if_pos (by omega)
          rw [At.eq k198_178]
          simp only [w_iload, w_ifc, w_iconst, w_aload, cI, Int.reduceToNat, List.getElem?_cons_zero, List.getElem?_cons_succ, List.set_cons_zero, List.set_cons_succ, List.cons_append, List.nil_append, List.replicate_succ, List.replicate_zero, List.take_succ_cons, List.take_zero, List.drop_succ_cons, List.drop_zero, List.reverse_cons, List.reverse_nil, List.length_cons, List.length_nil, Option.toList, true_and, and_true, eq_self, ↓reduceIte, not_true_eq_false, not_false_eq_true, true_or, or_true, List.append_eq]
          refine ⟨Or.inl (by unfold R32; omega), fun z => absurd z (by omega), fun _ => ?_⟩
          refine po_get hP (by decide) rfl ?_
          simp only [w_iload, List.getElem?_cons_zero, List.getElem?_cons_succ, List.set_cons_zero, List.set_cons_succ, List.cons_append, List.nil_append, List.replicate_succ, List.replicate_zero, List.take_succ_cons, List.take_zero, List.drop_succ_cons, List.drop_zero, List.reverse_cons, List.reverse_nil, List.length_cons, List.length_nil, Option.toList, true_and, and_true, eq_self, ↓reduceIte, not_true_eq_false, not_false_eq_true, true_or, or_true, List.append_eq]
          refine po_ild (len := 7) hP (by decide) hG (by omega) ?_
          simp only [w_aload, List.getElem?_cons_zero, List.getElem?_cons_succ, List.set_cons_zero, List.set_cons_succ, List.cons_append, List.nil_append, List.replicate_succ, List.replicate_zero, List.take_succ_cons, List.take_zero, List.drop_succ_cons, List.drop_zero, List.reverse_cons, List.reverse_nil, List.length_cons, List.length_nil, Option.toList, true_and, and_true, eq_self, ↓reduceIte, not_true_eq_false, not_false_eq_true, true_or, or_true, List.append_eq]
          refine po_get hP (by decide) rfl ?_
          simp only [w_iload, w_iconst, w_isub, List.getElem?_cons_zero, List.getElem?_cons_succ, List.set_cons_zero, List.set_cons_succ, List.cons_append, List.nil_append, List.replicate_succ, List.replicate_zero, List.take_succ_cons, List.take_zero, List.drop_succ_cons, List.drop_zero, List.reverse_cons, List.reverse_nil, List.length_cons, List.length_nil, Option.toList, true_and, and_true, eq_self, ↓reduceIte, not_true_eq_false, not_false_eq_true, true_or, or_true, List.append_eq]
          refine po_ild (len := 7) hP (by decide) hG (by omega) ?_
          rw [e1, e2]
          simp only [w_iload, w_iconst, w_isub, w_ixor, w_ishl, w_ior, w_istore, w_if, cI, Int.reduceToNat, List.getElem?_cons_zero, List.getElem?_cons_succ, List.set_cons_zero, List.set_cons_succ, List.cons_append, List.nil_append, List.replicate_succ, List.replicate_zero, List.take_succ_cons, List.take_zero, List.drop_succ_cons, List.drop_zero, List.reverse_cons, List.reverse_nil, List.length_cons, List.length_nil, Option.toList, true_and, and_true, eq_self, ↓reduceIte, not_true_eq_false, not_false_eq_true, true_or, or_true, List.append_eq]
          refine ⟨by unfold R32; omega, fun z => ?_, fun z => ?_⟩
          · rw [At.eq k198_235]
            simp only [w_iinc, lgB, Nat.reduceSub, w_goto, Int.reduceToNat, List.getElem?_cons_zero, List.getElem?_cons_succ, List.set_cons_zero, List.set_cons_succ, List.cons_append, List.nil_append, List.replicate_succ, List.replicate_zero, List.take_succ_cons, List.take_zero, List.drop_succ_cons, List.drop_zero, List.reverse_cons, List.reverse_nil, List.length_cons, List.length_nil, Option.toList, true_and, and_true, eq_self, ↓reduceIte, not_true_eq_false, not_false_eq_true, true_or, or_true, List.append_eq]
            try refine ⟨trivial, ?_⟩
            rw [show (k : Int) + 1 = ((k + 1 : Nat) : Int) by omega]
            have es : seenZ n (k + 1) = orI (seenZ n k) (shlI 1 (xorI (worthT k) (worthT ((n : Int) - 1 - k).toNat))) := if_pos (by omega)
            rw [← es]
            exact ihy (k + 1) (by omega)
          · have e3 : (if ((n : Int) - 2 - k).toNat < n then worthT ((n : Int) - 2 - k).toNat else 0) = worthT ((n : Int) - 2 - k).toNat := if_pos (by omega)
            simp only [w_iload, w_iconst, w_aload, List.getElem?_cons_zero, List.getElem?_cons_succ, List.set_cons_zero, List.set_cons_succ, List.cons_append, List.nil_append, List.replicate_succ, List.replicate_zero, List.take_succ_cons, List.take_zero, List.drop_succ_cons, List.drop_zero, List.reverse_cons, List.reverse_nil, List.length_cons, List.length_nil, Option.toList, true_and, and_true, eq_self, ↓reduceIte, not_true_eq_false, not_false_eq_true, true_or, or_true, List.append_eq]
            refine po_get hP (by decide) rfl ?_
            simp only [w_iload, List.getElem?_cons_zero, List.getElem?_cons_succ, List.set_cons_zero, List.set_cons_succ, List.cons_append, List.nil_append, List.replicate_succ, List.replicate_zero, List.take_succ_cons, List.take_zero, List.drop_succ_cons, List.drop_zero, List.reverse_cons, List.reverse_nil, List.length_cons, List.length_nil, Option.toList, true_and, and_true, eq_self, ↓reduceIte, not_true_eq_false, not_false_eq_true, true_or, or_true, List.append_eq]
            refine po_ild (len := 7) hP (by decide) hG (by omega) ?_
            simp only [w_aload, List.getElem?_cons_zero, List.getElem?_cons_succ, List.set_cons_zero, List.set_cons_succ, List.cons_append, List.nil_append, List.replicate_succ, List.replicate_zero, List.take_succ_cons, List.take_zero, List.drop_succ_cons, List.drop_zero, List.reverse_cons, List.reverse_nil, List.length_cons, List.length_nil, Option.toList, true_and, and_true, eq_self, ↓reduceIte, not_true_eq_false, not_false_eq_true, true_or, or_true, List.append_eq]
            refine po_get hP (by decide) rfl ?_
            simp only [w_iload, w_iconst, w_isub, List.getElem?_cons_zero, List.getElem?_cons_succ, List.set_cons_zero, List.set_cons_succ, List.cons_append, List.nil_append, List.replicate_succ, List.replicate_zero, List.take_succ_cons, List.take_zero, List.drop_succ_cons, List.drop_zero, List.reverse_cons, List.reverse_nil, List.length_cons, List.length_nil, Option.toList, true_and, and_true, eq_self, ↓reduceIte, not_true_eq_false, not_false_eq_true, true_or, or_true, List.append_eq]
            refine po_ild (len := 7) hP (by decide) hG (by omega) ?_
            rw [e1, e3]
            simp only [w_ixor, w_ishl, w_ior, w_istore, w_fall, Int.reduceToNat, List.getElem?_cons_zero, List.getElem?_cons_succ, List.set_cons_zero, List.set_cons_succ, List.cons_append, List.nil_append, List.replicate_succ, List.replicate_zero, List.take_succ_cons, List.take_zero, List.drop_succ_cons, List.drop_zero, List.reverse_cons, List.reverse_nil, List.length_cons, List.length_nil, Option.toList, true_and, and_true, eq_self, ↓reduceIte, not_true_eq_false, not_false_eq_true, true_or, or_true, List.append_eq]
            rw [At.eq k198_235]
            simp only [w_iinc, lgB, Nat.reduceSub, w_goto, Int.reduceToNat, List.getElem?_cons_zero, List.getElem?_cons_succ, List.set_cons_zero, List.set_cons_succ, List.cons_append, List.nil_append, List.replicate_succ, List.replicate_zero, List.take_succ_cons, List.take_zero, List.drop_succ_cons, List.drop_zero, List.reverse_cons, List.reverse_nil, List.length_cons, List.length_nil, Option.toList, true_and, and_true, eq_self, ↓reduceIte, not_true_eq_false, not_false_eq_true, true_or, or_true, List.append_eq]
            try refine ⟨trivial, ?_⟩
            rw [show (k : Int) + 1 = ((k + 1 : Nat) : Int) by omega]
            have es : seenZ n (k + 1) = orI (orI (seenZ n k) (shlI 1 (xorI (worthT k) (worthT ((n : Int) - 1 - k).toNat)))) (shlI 1 (xorI (worthT k) (worthT ((n : Int) - 2 - k).toNat))) := if_neg (by omega)
            rw [← es]
            exact ihy (k + 1) (by omega)
      rw [At.eq k198_168]
      simp only [w_iload, w_ifc, w_iconst, w_istore, w_fall, cI, Int.reduceToNat, List.getElem?_cons_zero, List.getElem?_cons_succ, List.set_cons_zero, List.set_cons_succ, List.cons_append, List.nil_append, List.replicate_succ, List.replicate_zero, List.take_succ_cons, List.take_zero, List.drop_succ_cons, List.drop_zero, List.reverse_cons, List.reverse_nil, List.length_cons, List.length_nil, Option.toList, true_and, and_true, eq_self, ↓reduceIte, not_true_eq_false, not_false_eq_true, true_or, or_true, List.append_eq]
      refine ⟨Or.inl (by unfold R32; omega), fun z => absurd z (by omega), fun _ => ?_⟩
      exact hS n 0 (by omega)
  rw [At.eq k198_0]
  try simp only [w_aload, w_iconst, w_init, w_null, w_return, w_iload, List.getElem?_cons_zero, List.getElem?_cons_succ, List.length_nil, List.length_cons, Nat.zero_le, true_and, List.append_eq, List.cons_append, List.nil_append, List.replicate_zero, List.replicate_succ]
  refine po_newi H (if_pos rfl) (by decide) (fun mm1 (H1 : PO m1 300 10 [vi 0, vn, vn, vi 0, vn, vn, vi 0, vn, vi 0, vi 0, vi 0, vi 0, vi 0, vi 0, vn, vi 0, vi 0, vi 0, vi 0, vi 0, vn, vn, vn, vn, vn, vn, vn, vn, vn] (302) (fun b => if b = 301 then ca 0 815 (fun _ => 0) else if b = 312 then ca 0 7 (fun _ => 0) else cX b (S0 b)) mm1) => ?_)
  try simp only [w_aload, w_iconst, w_init, w_null, w_return, w_iload, List.getElem?_cons_zero, List.getElem?_cons_succ, List.length_nil, List.length_cons, Nat.zero_le, true_and, List.append_eq, List.cons_append, List.nil_append, List.replicate_zero, List.replicate_succ]
  refine po_putr H1 (by decide) (fun mm2 (H2 : PO m1 300 10 [vi 0, vr 301, vn, vi 0, vn, vn, vi 0, vn, vi 0, vi 0, vi 0, vi 0, vi 0, vi 0, vn, vi 0, vi 0, vi 0, vi 0, vi 0, vn, vn, vn, vn, vn, vn, vn, vn, vn] (302) (fun b => if b = 301 then ca 0 815 (fun _ => 0) else if b = 312 then ca 0 7 (fun _ => 0) else cX b (S0 b)) mm2) => ?_)
  try simp only [w_aload, w_iconst, w_init, w_null, w_return, w_iload, List.getElem?_cons_zero, List.getElem?_cons_succ, List.length_nil, List.length_cons, Nat.zero_le, true_and, List.append_eq, List.cons_append, List.nil_append, List.replicate_zero, List.replicate_succ]
  refine po_newi H2 ((if_neg (by decide)).trans ((if_neg (by decide)).trans (G_i isA_302 (by rw [len_302]; rfl) (fun j => rfl)))) (by decide) (fun mm3 (H3 : PO m1 300 10 [vi 0, vr 301, vn, vi 0, vn, vn, vi 0, vn, vi 0, vi 0, vi 0, vi 0, vi 0, vi 0, vn, vi 0, vi 0, vi 0, vi 0, vi 0, vn, vn, vn, vn, vn, vn, vn, vn, vn] (303) (fun b => if b = 301 then ca 0 815 (fun _ => 0) else if b = 312 then ca 0 7 (fun _ => 0) else cX b (S0 b)) mm3) => ?_)
  try simp only [w_aload, w_iconst, w_init, w_null, w_return, w_iload, List.getElem?_cons_zero, List.getElem?_cons_succ, List.length_nil, List.length_cons, Nat.zero_le, true_and, List.append_eq, List.cons_append, List.nil_append, List.replicate_zero, List.replicate_succ]
  refine po_putr H3 (by decide) (fun mm4 (H4 : PO m1 300 10 [vi 0, vr 301, vr 302, vi 0, vn, vn, vi 0, vn, vi 0, vi 0, vi 0, vi 0, vi 0, vi 0, vn, vi 0, vi 0, vi 0, vi 0, vi 0, vn, vn, vn, vn, vn, vn, vn, vn, vn] (303) (fun b => if b = 301 then ca 0 815 (fun _ => 0) else if b = 312 then ca 0 7 (fun _ => 0) else cX b (S0 b)) mm4) => ?_)
  try simp only [w_aload, w_iconst, w_init, w_null, w_return, w_iload, List.getElem?_cons_zero, List.getElem?_cons_succ, List.length_nil, List.length_cons, Nat.zero_le, true_and, List.append_eq, List.cons_append, List.nil_append, List.replicate_zero, List.replicate_succ]
  refine po_newi H4 ((if_neg (by decide)).trans ((if_neg (by decide)).trans (G_i isA_303 (by rw [len_303]; rfl) (fun j => rfl)))) (by decide) (fun mm5 (H5 : PO m1 300 10 [vi 0, vr 301, vr 302, vi 0, vn, vn, vi 0, vn, vi 0, vi 0, vi 0, vi 0, vi 0, vi 0, vn, vi 0, vi 0, vi 0, vi 0, vi 0, vn, vn, vn, vn, vn, vn, vn, vn, vn] (304) (fun b => if b = 301 then ca 0 815 (fun _ => 0) else if b = 312 then ca 0 7 (fun _ => 0) else cX b (S0 b)) mm5) => ?_)
  try simp only [w_aload, w_iconst, w_init, w_null, w_return, w_iload, List.getElem?_cons_zero, List.getElem?_cons_succ, List.length_nil, List.length_cons, Nat.zero_le, true_and, List.append_eq, List.cons_append, List.nil_append, List.replicate_zero, List.replicate_succ]
  refine po_putr H5 (by decide) (fun mm6 (H6 : PO m1 300 10 [vi 0, vr 301, vr 302, vi 0, vr 303, vn, vi 0, vn, vi 0, vi 0, vi 0, vi 0, vi 0, vi 0, vn, vi 0, vi 0, vi 0, vi 0, vi 0, vn, vn, vn, vn, vn, vn, vn, vn, vn] (304) (fun b => if b = 301 then ca 0 815 (fun _ => 0) else if b = 312 then ca 0 7 (fun _ => 0) else cX b (S0 b)) mm6) => ?_)
  try simp only [w_aload, w_iconst, w_init, w_null, w_return, w_iload, List.getElem?_cons_zero, List.getElem?_cons_succ, List.length_nil, List.length_cons, Nat.zero_le, true_and, List.append_eq, List.cons_append, List.nil_append, List.replicate_zero, List.replicate_succ]
  refine po_newi H6 ((if_neg (by decide)).trans ((if_neg (by decide)).trans (G_i isA_304 (by rw [len_304]; rfl) (fun j => rfl)))) (by decide) (fun mm7 (H7 : PO m1 300 10 [vi 0, vr 301, vr 302, vi 0, vr 303, vn, vi 0, vn, vi 0, vi 0, vi 0, vi 0, vi 0, vi 0, vn, vi 0, vi 0, vi 0, vi 0, vi 0, vn, vn, vn, vn, vn, vn, vn, vn, vn] (305) (fun b => if b = 301 then ca 0 815 (fun _ => 0) else if b = 312 then ca 0 7 (fun _ => 0) else cX b (S0 b)) mm7) => ?_)
  try simp only [w_aload, w_iconst, w_init, w_null, w_return, w_iload, List.getElem?_cons_zero, List.getElem?_cons_succ, List.length_nil, List.length_cons, Nat.zero_le, true_and, List.append_eq, List.cons_append, List.nil_append, List.replicate_zero, List.replicate_succ]
  refine po_putr H7 (by decide) (fun mm8 (H8 : PO m1 300 10 [vi 0, vr 301, vr 302, vi 0, vr 303, vr 304, vi 0, vn, vi 0, vi 0, vi 0, vi 0, vi 0, vi 0, vn, vi 0, vi 0, vi 0, vi 0, vi 0, vn, vn, vn, vn, vn, vn, vn, vn, vn] (305) (fun b => if b = 301 then ca 0 815 (fun _ => 0) else if b = 312 then ca 0 7 (fun _ => 0) else cX b (S0 b)) mm8) => ?_)
  try simp only [w_aload, w_iconst, w_init, w_null, w_return, w_iload, List.getElem?_cons_zero, List.getElem?_cons_succ, List.length_nil, List.length_cons, Nat.zero_le, true_and, List.append_eq, List.cons_append, List.nil_append, List.replicate_zero, List.replicate_succ]
  refine po_newi H8 ((if_neg (by decide)).trans ((if_neg (by decide)).trans (G_i isA_305 (by rw [len_305]; rfl) (fun j => rfl)))) (by decide) (fun mm9 (H9 : PO m1 300 10 [vi 0, vr 301, vr 302, vi 0, vr 303, vr 304, vi 0, vn, vi 0, vi 0, vi 0, vi 0, vi 0, vi 0, vn, vi 0, vi 0, vi 0, vi 0, vi 0, vn, vn, vn, vn, vn, vn, vn, vn, vn] (306) (fun b => if b = 301 then ca 0 815 (fun _ => 0) else if b = 312 then ca 0 7 (fun _ => 0) else cX b (S0 b)) mm9) => ?_)
  try simp only [w_aload, w_iconst, w_init, w_null, w_return, w_iload, List.getElem?_cons_zero, List.getElem?_cons_succ, List.length_nil, List.length_cons, Nat.zero_le, true_and, List.append_eq, List.cons_append, List.nil_append, List.replicate_zero, List.replicate_succ]
  refine po_putr H9 (by decide) (fun mm10 (H10 : PO m1 300 10 [vi 0, vr 301, vr 302, vi 0, vr 303, vr 304, vi 0, vr 305, vi 0, vi 0, vi 0, vi 0, vi 0, vi 0, vn, vi 0, vi 0, vi 0, vi 0, vi 0, vn, vn, vn, vn, vn, vn, vn, vn, vn] (306) (fun b => if b = 301 then ca 0 815 (fun _ => 0) else if b = 312 then ca 0 7 (fun _ => 0) else cX b (S0 b)) mm10) => ?_)
  try simp only [w_aload, w_iconst, w_init, w_null, w_return, w_iload, List.getElem?_cons_zero, List.getElem?_cons_succ, List.length_nil, List.length_cons, Nat.zero_le, true_and, List.append_eq, List.cons_append, List.nil_append, List.replicate_zero, List.replicate_succ]
  refine po_putf H10 (by decide) (fun mm11 (H11 : PO m1 300 10 [vi 0, vr 301, vr 302, vi 0, vr 303, vr 304, vi 0, vr 305, vi 0, vi 0, vi 0, vi 0, vi (-1), vi 0, vn, vi 0, vi 0, vi 0, vi 0, vi 0, vn, vn, vn, vn, vn, vn, vn, vn, vn] (306) (fun b => if b = 301 then ca 0 815 (fun _ => 0) else if b = 312 then ca 0 7 (fun _ => 0) else cX b (S0 b)) mm11) => ?_)
  try simp only [w_aload, w_iconst, w_init, w_null, w_return, w_iload, List.getElem?_cons_zero, List.getElem?_cons_succ, List.length_nil, List.length_cons, Nat.zero_le, true_and, List.append_eq, List.cons_append, List.nil_append, List.replicate_zero, List.replicate_succ]
  refine po_newi H11 ((if_neg (by decide)).trans ((if_neg (by decide)).trans (congrArg (ca 0 7) (funext fun j => rfl)))) (by decide) (fun mm12 (H12 : PO m1 300 10 [vi 0, vr 301, vr 302, vi 0, vr 303, vr 304, vi 0, vr 305, vi 0, vi 0, vi 0, vi 0, vi (-1), vi 0, vn, vi 0, vi 0, vi 0, vi 0, vi 0, vn, vn, vn, vn, vn, vn, vn, vn, vn] (307) (fun b => if b = 301 then ca 0 815 (fun _ => 0) else if b = 312 then ca 0 7 (fun _ => 0) else cX b (S0 b)) mm12) => ?_)
  try simp only [w_aload, w_iconst, w_init, w_null, w_return, w_iload, List.getElem?_cons_zero, List.getElem?_cons_succ, List.length_nil, List.length_cons, Nat.zero_le, true_and, List.append_eq, List.cons_append, List.nil_append, List.replicate_zero, List.replicate_succ]
  refine po_putr H12 (by decide) (fun mm13 (H13 : PO m1 300 10 [vi 0, vr 301, vr 302, vi 0, vr 303, vr 304, vi 0, vr 305, vi 0, vi 0, vi 0, vi 0, vi (-1), vi 0, vr 306, vi 0, vi 0, vi 0, vi 0, vi 0, vn, vn, vn, vn, vn, vn, vn, vn, vn] (307) (fun b => if b = 301 then ca 0 815 (fun _ => 0) else if b = 312 then ca 0 7 (fun _ => 0) else cX b (S0 b)) mm13) => ?_)
  try simp only [w_aload, w_iconst, w_init, w_null, w_return, w_iload, List.getElem?_cons_zero, List.getElem?_cons_succ, List.length_nil, List.length_cons, Nat.zero_le, true_and, List.append_eq, List.cons_append, List.nil_append, List.replicate_zero, List.replicate_succ]
  refine po_newi H13 ((if_neg (by decide)).trans ((if_neg (by decide)).trans (G_i isA_307 (by rw [len_307]; rfl) (fun j => rfl)))) (by decide) (fun mm14 (H14 : PO m1 300 10 [vi 0, vr 301, vr 302, vi 0, vr 303, vr 304, vi 0, vr 305, vi 0, vi 0, vi 0, vi 0, vi (-1), vi 0, vr 306, vi 0, vi 0, vi 0, vi 0, vi 0, vn, vn, vn, vn, vn, vn, vn, vn, vn] (308) (fun b => if b = 301 then ca 0 815 (fun _ => 0) else if b = 312 then ca 0 7 (fun _ => 0) else cX b (S0 b)) mm14) => ?_)
  try simp only [w_aload, w_iconst, w_init, w_null, w_return, w_iload, List.getElem?_cons_zero, List.getElem?_cons_succ, List.length_nil, List.length_cons, Nat.zero_le, true_and, List.append_eq, List.cons_append, List.nil_append, List.replicate_zero, List.replicate_succ]
  refine po_putr H14 (by decide) (fun mm15 (H15 : PO m1 300 10 [vi 0, vr 301, vr 302, vi 0, vr 303, vr 304, vi 0, vr 305, vi 0, vi 0, vi 0, vi 0, vi (-1), vi 0, vr 306, vi 0, vi 0, vi 0, vi 0, vi 0, vr 307, vn, vn, vn, vn, vn, vn, vn, vn] (308) (fun b => if b = 301 then ca 0 815 (fun _ => 0) else if b = 312 then ca 0 7 (fun _ => 0) else cX b (S0 b)) mm15) => ?_)
  try simp only [w_aload, w_iconst, w_init, w_null, w_return, w_iload, List.getElem?_cons_zero, List.getElem?_cons_succ, List.length_nil, List.length_cons, Nat.zero_le, true_and, List.append_eq, List.cons_append, List.nil_append, List.replicate_zero, List.replicate_succ]
  refine po_newi H15 ((if_neg (by decide)).trans ((if_neg (by decide)).trans (G_i isA_308 (by rw [len_308]; rfl) (fun j => rfl)))) (by decide) (fun mm16 (H16 : PO m1 300 10 [vi 0, vr 301, vr 302, vi 0, vr 303, vr 304, vi 0, vr 305, vi 0, vi 0, vi 0, vi 0, vi (-1), vi 0, vr 306, vi 0, vi 0, vi 0, vi 0, vi 0, vr 307, vn, vn, vn, vn, vn, vn, vn, vn] (309) (fun b => if b = 301 then ca 0 815 (fun _ => 0) else if b = 312 then ca 0 7 (fun _ => 0) else cX b (S0 b)) mm16) => ?_)
  try simp only [w_aload, w_iconst, w_init, w_null, w_return, w_iload, List.getElem?_cons_zero, List.getElem?_cons_succ, List.length_nil, List.length_cons, Nat.zero_le, true_and, List.append_eq, List.cons_append, List.nil_append, List.replicate_zero, List.replicate_succ]
  refine po_putr H16 (by decide) (fun mm17 (H17 : PO m1 300 10 [vi 0, vr 301, vr 302, vi 0, vr 303, vr 304, vi 0, vr 305, vi 0, vi 0, vi 0, vi 0, vi (-1), vi 0, vr 306, vi 0, vi 0, vi 0, vi 0, vi 0, vr 307, vr 308, vn, vn, vn, vn, vn, vn, vn] (309) (fun b => if b = 301 then ca 0 815 (fun _ => 0) else if b = 312 then ca 0 7 (fun _ => 0) else cX b (S0 b)) mm17) => ?_)
  try simp only [w_aload, w_iconst, w_init, w_null, w_return, w_iload, List.getElem?_cons_zero, List.getElem?_cons_succ, List.length_nil, List.length_cons, Nat.zero_le, true_and, List.append_eq, List.cons_append, List.nil_append, List.replicate_zero, List.replicate_succ]
  refine po_newi H17 ((if_neg (by decide)).trans ((if_neg (by decide)).trans (G_i isA_309 (by rw [len_309]; rfl) (fun j => rfl)))) (by decide) (fun mm18 (H18 : PO m1 300 10 [vi 0, vr 301, vr 302, vi 0, vr 303, vr 304, vi 0, vr 305, vi 0, vi 0, vi 0, vi 0, vi (-1), vi 0, vr 306, vi 0, vi 0, vi 0, vi 0, vi 0, vr 307, vr 308, vn, vn, vn, vn, vn, vn, vn] (310) (fun b => if b = 301 then ca 0 815 (fun _ => 0) else if b = 312 then ca 0 7 (fun _ => 0) else cX b (S0 b)) mm18) => ?_)
  try simp only [w_aload, w_iconst, w_init, w_null, w_return, w_iload, List.getElem?_cons_zero, List.getElem?_cons_succ, List.length_nil, List.length_cons, Nat.zero_le, true_and, List.append_eq, List.cons_append, List.nil_append, List.replicate_zero, List.replicate_succ]
  refine po_putr H18 (by decide) (fun mm19 (H19 : PO m1 300 10 [vi 0, vr 301, vr 302, vi 0, vr 303, vr 304, vi 0, vr 305, vi 0, vi 0, vi 0, vi 0, vi (-1), vi 0, vr 306, vi 0, vi 0, vi 0, vi 0, vi 0, vr 307, vr 308, vr 309, vn, vn, vn, vn, vn, vn] (310) (fun b => if b = 301 then ca 0 815 (fun _ => 0) else if b = 312 then ca 0 7 (fun _ => 0) else cX b (S0 b)) mm19) => ?_)
  try simp only [w_aload, w_iconst, w_init, w_null, w_return, w_iload, List.getElem?_cons_zero, List.getElem?_cons_succ, List.length_nil, List.length_cons, Nat.zero_le, true_and, List.append_eq, List.cons_append, List.nil_append, List.replicate_zero, List.replicate_succ]
  refine po_newi H19 ((if_neg (by decide)).trans ((if_neg (by decide)).trans (G_i isA_310 (by rw [len_310]; rfl) (fun j => rfl)))) (by decide) (fun mm20 (H20 : PO m1 300 10 [vi 0, vr 301, vr 302, vi 0, vr 303, vr 304, vi 0, vr 305, vi 0, vi 0, vi 0, vi 0, vi (-1), vi 0, vr 306, vi 0, vi 0, vi 0, vi 0, vi 0, vr 307, vr 308, vr 309, vn, vn, vn, vn, vn, vn] (311) (fun b => if b = 301 then ca 0 815 (fun _ => 0) else if b = 312 then ca 0 7 (fun _ => 0) else cX b (S0 b)) mm20) => ?_)
  try simp only [w_aload, w_iconst, w_init, w_null, w_return, w_iload, List.getElem?_cons_zero, List.getElem?_cons_succ, List.length_nil, List.length_cons, Nat.zero_le, true_and, List.append_eq, List.cons_append, List.nil_append, List.replicate_zero, List.replicate_succ]
  refine po_putr H20 (by decide) (fun mm21 (H21 : PO m1 300 10 [vi 0, vr 301, vr 302, vi 0, vr 303, vr 304, vi 0, vr 305, vi 0, vi 0, vi 0, vi 0, vi (-1), vi 0, vr 306, vi 0, vi 0, vi 0, vi 0, vi 0, vr 307, vr 308, vr 309, vr 310, vn, vn, vn, vn, vn] (311) (fun b => if b = 301 then ca 0 815 (fun _ => 0) else if b = 312 then ca 0 7 (fun _ => 0) else cX b (S0 b)) mm21) => ?_)
  try simp only [w_aload, w_iconst, w_init, w_null, w_return, w_iload, List.getElem?_cons_zero, List.getElem?_cons_succ, List.length_nil, List.length_cons, Nat.zero_le, true_and, List.append_eq, List.cons_append, List.nil_append, List.replicate_zero, List.replicate_succ]
  refine po_newi H21 ((if_neg (by decide)).trans ((if_neg (by decide)).trans (G_i isA_311 (by rw [len_311]; rfl) (fun j => rfl)))) (by decide) (fun mm22 (H22 : PO m1 300 10 [vi 0, vr 301, vr 302, vi 0, vr 303, vr 304, vi 0, vr 305, vi 0, vi 0, vi 0, vi 0, vi (-1), vi 0, vr 306, vi 0, vi 0, vi 0, vi 0, vi 0, vr 307, vr 308, vr 309, vr 310, vn, vn, vn, vn, vn] (312) (fun b => if b = 301 then ca 0 815 (fun _ => 0) else if b = 312 then ca 0 7 (fun _ => 0) else cX b (S0 b)) mm22) => ?_)
  try simp only [w_aload, w_iconst, w_init, w_null, w_return, w_iload, List.getElem?_cons_zero, List.getElem?_cons_succ, List.length_nil, List.length_cons, Nat.zero_le, true_and, List.append_eq, List.cons_append, List.nil_append, List.replicate_zero, List.replicate_succ]
  refine po_putr H22 (by decide) (fun mm23 (H23 : PO m1 300 10 [vi 0, vr 301, vr 302, vi 0, vr 303, vr 304, vi 0, vr 305, vi 0, vi 0, vi 0, vi 0, vi (-1), vi 0, vr 306, vi 0, vi 0, vi 0, vi 0, vi 0, vr 307, vr 308, vr 309, vr 310, vr 311, vn, vn, vn, vn] (312) (fun b => if b = 301 then ca 0 815 (fun _ => 0) else if b = 312 then ca 0 7 (fun _ => 0) else cX b (S0 b)) mm23) => ?_)
  try simp only [w_aload, w_iconst, w_init, w_null, w_return, w_iload, List.getElem?_cons_zero, List.getElem?_cons_succ, List.length_nil, List.length_cons, Nat.zero_le, true_and, List.append_eq, List.cons_append, List.nil_append, List.replicate_zero, List.replicate_succ]
  refine po_newi H23 ((if_neg (by decide)).trans (if_pos rfl)) (by decide) (fun mm24 (H24 : PO m1 300 10 [vi 0, vr 301, vr 302, vi 0, vr 303, vr 304, vi 0, vr 305, vi 0, vi 0, vi 0, vi 0, vi (-1), vi 0, vr 306, vi 0, vi 0, vi 0, vi 0, vi 0, vr 307, vr 308, vr 309, vr 310, vr 311, vn, vn, vn, vn] (313) (fun b => if b = 301 then ca 0 815 (fun _ => 0) else if b = 312 then ca 0 7 (fun _ => 0) else cX b (S0 b)) mm24) => ?_)
  try simp only [w_aload, w_iconst, w_init, w_null, w_return, w_iload, List.getElem?_cons_zero, List.getElem?_cons_succ, List.length_nil, List.length_cons, Nat.zero_le, true_and, List.append_eq, List.cons_append, List.nil_append, List.replicate_zero, List.replicate_succ]
  refine po_putr H24 (by decide) (fun mm25 (H25 : PO m1 300 10 [vi 0, vr 301, vr 302, vi 0, vr 303, vr 304, vi 0, vr 305, vi 0, vi 0, vi 0, vi 0, vi (-1), vi 0, vr 306, vi 0, vi 0, vi 0, vi 0, vi 0, vr 307, vr 308, vr 309, vr 310, vr 311, vr 312, vn, vn, vn] (313) (fun b => if b = 301 then ca 0 815 (fun _ => 0) else if b = 312 then ca 0 7 (fun _ => 0) else cX b (S0 b)) mm25) => ?_)
  try simp only [w_aload, w_iconst, w_init, w_null, w_return, w_iload, List.getElem?_cons_zero, List.getElem?_cons_succ, List.length_nil, List.length_cons, Nat.zero_le, true_and, List.append_eq, List.cons_append, List.nil_append, List.replicate_zero, List.replicate_succ]
  refine po_newz H25 ((if_neg (by decide)).trans ((if_neg (by decide)).trans rfl)) (by decide) (fun mm26 (H26 : PO m1 300 10 [vi 0, vr 301, vr 302, vi 0, vr 303, vr 304, vi 0, vr 305, vi 0, vi 0, vi 0, vi 0, vi (-1), vi 0, vr 306, vi 0, vi 0, vi 0, vi 0, vi 0, vr 307, vr 308, vr 309, vr 310, vr 311, vr 312, vn, vn, vn] (314) (fun b => if b = 301 then ca 0 815 (fun _ => 0) else if b = 312 then ca 0 7 (fun _ => 0) else cX b (S0 b)) mm26) => ?_)
  try simp only [w_aload, w_iconst, w_init, w_null, w_return, w_iload, List.getElem?_cons_zero, List.getElem?_cons_succ, List.length_nil, List.length_cons, Nat.zero_le, true_and, List.append_eq, List.cons_append, List.nil_append, List.replicate_zero, List.replicate_succ]
  refine po_putr H26 (by decide) (fun mm27 (H27 : PO m1 300 10 [vi 0, vr 301, vr 302, vi 0, vr 303, vr 304, vi 0, vr 305, vi 0, vi 0, vi 0, vi 0, vi (-1), vi 0, vr 306, vi 0, vi 0, vi 0, vi 0, vi 0, vr 307, vr 308, vr 309, vr 310, vr 311, vr 312, vr 313, vn, vn] (314) (fun b => if b = 301 then ca 0 815 (fun _ => 0) else if b = 312 then ca 0 7 (fun _ => 0) else cX b (S0 b)) mm27) => ?_)
  try simp only [w_aload, w_iconst, w_init, w_null, w_return, w_iload, List.getElem?_cons_zero, List.getElem?_cons_succ, List.length_nil, List.length_cons, Nat.zero_le, true_and, List.append_eq, List.cons_append, List.nil_append, List.replicate_zero, List.replicate_succ]
  refine po_newi H27 ((if_neg (by decide)).trans ((if_neg (by decide)).trans (G_i isA_314 (by rw [len_314]; rfl) (fun j => rfl)))) (by decide) (fun mm28 (H28 : PO m1 300 10 [vi 0, vr 301, vr 302, vi 0, vr 303, vr 304, vi 0, vr 305, vi 0, vi 0, vi 0, vi 0, vi (-1), vi 0, vr 306, vi 0, vi 0, vi 0, vi 0, vi 0, vr 307, vr 308, vr 309, vr 310, vr 311, vr 312, vr 313, vn, vn] (315) (fun b => if b = 301 then ca 0 815 (fun _ => 0) else if b = 312 then ca 0 7 (fun _ => 0) else cX b (S0 b)) mm28) => ?_)
  try simp only [w_aload, w_iconst, w_init, w_null, w_return, w_iload, List.getElem?_cons_zero, List.getElem?_cons_succ, List.length_nil, List.length_cons, Nat.zero_le, true_and, List.append_eq, List.cons_append, List.nil_append, List.replicate_zero, List.replicate_succ]
  refine po_putr H28 (by decide) (fun mm29 (H29 : PO m1 300 10 [vi 0, vr 301, vr 302, vi 0, vr 303, vr 304, vi 0, vr 305, vi 0, vi 0, vi 0, vi 0, vi (-1), vi 0, vr 306, vi 0, vi 0, vi 0, vi 0, vi 0, vr 307, vr 308, vr 309, vr 310, vr 311, vr 312, vr 313, vr 314, vn] (315) (fun b => if b = 301 then ca 0 815 (fun _ => 0) else if b = 312 then ca 0 7 (fun _ => 0) else cX b (S0 b)) mm29) => ?_)
  try simp only [w_aload, w_iconst, w_init, w_null, w_return, w_iload, List.getElem?_cons_zero, List.getElem?_cons_succ, List.length_nil, List.length_cons, Nat.zero_le, true_and, List.append_eq, List.cons_append, List.nil_append, List.replicate_zero, List.replicate_succ]
  refine po_newi H29 ((if_neg (by decide)).trans ((if_neg (by decide)).trans (G_i isA_315 (by rw [len_315]; rfl) (fun j => rfl)))) (by decide) (fun mm30 (H30 : PO m1 300 10 [vi 0, vr 301, vr 302, vi 0, vr 303, vr 304, vi 0, vr 305, vi 0, vi 0, vi 0, vi 0, vi (-1), vi 0, vr 306, vi 0, vi 0, vi 0, vi 0, vi 0, vr 307, vr 308, vr 309, vr 310, vr 311, vr 312, vr 313, vr 314, vn] (316) (fun b => if b = 301 then ca 0 815 (fun _ => 0) else if b = 312 then ca 0 7 (fun _ => 0) else cX b (S0 b)) mm30) => ?_)
  try simp only [w_aload, w_iconst, w_init, w_null, w_return, w_iload, List.getElem?_cons_zero, List.getElem?_cons_succ, List.length_nil, List.length_cons, Nat.zero_le, true_and, List.append_eq, List.cons_append, List.nil_append, List.replicate_zero, List.replicate_succ]
  refine po_putr H30 (by decide) (fun mm31 (H31 : PO m1 300 10 [vi 0, vr 301, vr 302, vi 0, vr 303, vr 304, vi 0, vr 305, vi 0, vi 0, vi 0, vi 0, vi (-1), vi 0, vr 306, vi 0, vi 0, vi 0, vi 0, vi 0, vr 307, vr 308, vr 309, vr 310, vr 311, vr 312, vr 313, vr 314, vr 315] (316) (fun b => if b = 301 then ca 0 815 (fun _ => 0) else if b = 312 then ca 0 7 (fun _ => 0) else cX b (S0 b)) mm31) => ?_)
  try simp only [w_aload, w_iconst, w_init, w_null, w_return, w_iload, List.getElem?_cons_zero, List.getElem?_cons_succ, List.length_nil, List.length_cons, Nat.zero_le, true_and, List.append_eq, List.cons_append, List.nil_append, List.replicate_zero, List.replicate_succ]
  refine po_get H31 (by decide) rfl ?_
  try simp only [w_aload, w_iconst, w_init, w_null, w_return, w_iload, List.getElem?_cons_zero, List.getElem?_cons_succ, List.length_nil, List.length_cons, Nat.zero_le, true_and, List.append_eq, List.cons_append, List.nil_append, List.replicate_zero, List.replicate_succ]
  refine po_ist (len := 815) (f := fun _ => 0) H31 (by decide) (if_pos rfl) (by decide) (fun mm32 H32 => ?_)
  try simp only [w_aload, w_iconst, w_init, w_null, w_return, w_iload, List.getElem?_cons_zero, List.getElem?_cons_succ, List.length_nil, List.length_cons, Nat.zero_le, true_and, List.append_eq, List.cons_append, List.nil_append, List.replicate_zero, List.replicate_succ]
  refine po_get H32 (by decide) rfl ?_
  try simp only [w_aload, w_iconst, w_init, w_null, w_return, w_iload, List.getElem?_cons_zero, List.getElem?_cons_succ, List.length_nil, List.length_cons, Nat.zero_le, true_and, List.append_eq, List.cons_append, List.nil_append, List.replicate_zero, List.replicate_succ]
  refine po_ist (len := 815) (f := up (fun _ => 0) 1 (-1)) H32 (by decide) (if_pos rfl) (by decide) (fun mm33 H33 => ?_)
  try simp only [w_aload, w_iconst, w_init, w_null, w_return, w_iload, List.getElem?_cons_zero, List.getElem?_cons_succ, List.length_nil, List.length_cons, Nat.zero_le, true_and, List.append_eq, List.cons_append, List.nil_append, List.replicate_zero, List.replicate_succ]
  refine po_get H33 (by decide) rfl ?_
  try simp only [w_aload, w_iconst, w_init, w_null, w_return, w_iload, List.getElem?_cons_zero, List.getElem?_cons_succ, List.length_nil, List.length_cons, Nat.zero_le, true_and, List.append_eq, List.cons_append, List.nil_append, List.replicate_zero, List.replicate_succ]
  refine po_ist (len := 815) (f := up (up (fun _ => 0) 1 (-1)) 6 (5)) H33 (by decide) (if_pos rfl) (by decide) (fun mm34 H34 => ?_)
  try simp only [w_aload, w_iconst, w_init, w_null, w_return, w_iload, List.getElem?_cons_zero, List.getElem?_cons_succ, List.length_nil, List.length_cons, Nat.zero_le, true_and, List.append_eq, List.cons_append, List.nil_append, List.replicate_zero, List.replicate_succ]
  refine po_get H34 (by decide) rfl ?_
  try simp only [w_aload, w_iconst, w_init, w_null, w_return, w_iload, List.getElem?_cons_zero, List.getElem?_cons_succ, List.length_nil, List.length_cons, Nat.zero_le, true_and, List.append_eq, List.cons_append, List.nil_append, List.replicate_zero, List.replicate_succ]
  refine po_ist (len := 815) (f := up (up (up (fun _ => 0) 1 (-1)) 6 (5)) 7 (50)) H34 (by decide) (if_pos rfl) (by decide) (fun mm35 H35 => ?_)
  try simp only [w_aload, w_iconst, w_init, w_null, w_return, w_iload, List.getElem?_cons_zero, List.getElem?_cons_succ, List.length_nil, List.length_cons, Nat.zero_le, true_and, List.append_eq, List.cons_append, List.nil_append, List.replicate_zero, List.replicate_succ]
  simp only [w_istore, w_fall, Int.reduceToNat, List.set_cons_zero, List.set_cons_succ]
  refine hL 6 1 _ _ _ rfl (by decide) (PO_cg H35 (fun b b0 b1 => ?_))
  show (if b = 301 then _ else if b = 301 then _ else if b = 301 then _ else if b = 301 then _ else if b = 301 then _ else if b = 312 then _ else cX b (S0 b)) = (if b = 312 then _ else cX b (S0 b))
  by_cases z : b = 301
  · rw [if_pos z, z, if_neg (by decide), isA_301.2, len_301]
    refine congrArg (ca 0 815) (funext fun j => ?_)
    show (if j = 12 then (1 : Int) else if j = 7 then 50 else if j = 6 then 5 else if j = 1 then -1 else 0) = (if (j : Int) = 1 then -1 else if (j : Int) = 6 then 5 else if (j : Int) = 7 then 50 else if (j : Int) = 12 then 1 else 0)
    by_cases z1 : j = 1
    · subst z1; rfl
    · by_cases z6 : j = 6
      · subst z6; rfl
      · by_cases z7 : j = 7
        · subst z7; rfl
        · by_cases z12 : j = 12
          · subst z12; rfl
          · rw [if_neg z12, if_neg z7, if_neg z6, if_neg z1, if_neg (by omega), if_neg (by omega), if_neg (by omega), if_neg (by omega)]
  · rw [if_neg z, if_neg z, if_neg z, if_neg z, if_neg z]
    by_cases y : b = 312
    · rw [if_pos y, if_pos y]
      refine congrArg (ca 0 7) (funext fun j => ?_)
      show (0 : Int) = if j < 1 then worthT j else 0
      by_cases w : j < 1
      · rw [if_pos w, show j = 0 by omega]; rfl
      · rw [if_neg w]
    · rw [if_neg y, if_neg y]
