/-! ===== THE LAW'S OWN METHODS ===== -/
theorem isA_316x : isA 316 1 := ⟨by decide, fun _ => rfl⟩
theorem len_316x : lenX 316 = 1 := rfl
/-- a call of the class, its exception told as a number -/
def LRw (tb : Tab) (N : Nat) (bs : List AV) (c : Int) (S1 : Nat → Int → Int) (m1 : AM) : Prop := NEXT0 tb N bs S1 m1 (fun th b => th = c ∧ (c = 0 → S1 316 0 = b ∧ R32 b))
def WT (tb : Tab) (W N : Nat) (as bs : List AV) (S : Nat → Int → Int) (m : AM) : Prop := ∀ (d : Nat) (K : Out → AM → Prop), (∀ c S1 m1, 0 ≤ c → c ≤ 3 → GRW m m1 → LRw tb N bs c S1 m1 → K (.inl (some (vi c))) (X S1 m1)) → Runs tb pg (d + 72) W as (X S m) K
theorem LRw_v {tb : Tab} {N : Nat} {bs : List AV} {S1 : Nat → Int → Int} {m1 : AM} {v : Int} (hr : True → R32 v) (nx : NEXT tb N bs S1 m1 (fun th b => th = 0 ∧ b = v)) : LRw tb N bs 0 (upS S1 316 0 v) m1 := by
  intro d2 K2 k2
  refine nx (upS S1 316 0 v) (fun a ha => up_lit ha) d2 K2 (fun T b r2 th en p => k2 T b r2 th en ⟨p.1, fun _ => ⟨?_, ?_⟩⟩)
  · rw [upS_at, if_pos ⟨rfl, rfl⟩]; exact p.2.symm
  · rw [p.2]; exact hr trivial
theorem LRw_e {tb : Tab} {N : Nat} {bs : List AV} {S1 : Nat → Int → Int} {m1 : AM} {c : Int} (hc : c ≠ 0) (nx : NEXT tb N bs S1 m1 (fun th _ => th = c)) : LRw tb N bs c S1 m1 := by
  intro d2 K2 k2
  exact nx S1 (fun _ _ => rfl) d2 K2 (fun T b r2 th en p => k2 T b r2 th en ⟨p, fun z => absurd z hc⟩)
/-- the same, where a truth is told -/
def LRm (tb : Tab) (N : Nat) (bs : List AV) (c : Int) (S1 : Nat → Int → Int) (m1 : AM) : Prop := NEXT0 tb N bs S1 m1 (fun th b => th = c ∧ (c = 0 → R32 b ∧ S1 316 0 = if b = 0 then 0 else 1))
def WTm (tb : Tab) (W N : Nat) (as bs : List AV) (S : Nat → Int → Int) (m : AM) : Prop := ∀ (d : Nat) (K : Out → AM → Prop), (∀ c S1 m1, 0 ≤ c → c ≤ 3 → GRW m m1 → LRm tb N bs c S1 m1 → K (.inl (some (vi c))) (X S1 m1)) → Runs tb pg (d + 72) W as (X S m) K
theorem LRm_v {tb : Tab} {N : Nat} {bs : List AV} {S1 : Nat → Int → Int} {m1 : AM} {v w : Int} (hr : True → R32 v) (hw : ∀ b, b = v → w = if b = 0 then 0 else 1) (nx : NEXT tb N bs S1 m1 (fun th b => th = 0 ∧ b = v)) : LRm tb N bs 0 (upS S1 316 0 w) m1 := by
  intro d2 K2 k2
  refine nx (upS S1 316 0 w) (fun a ha => up_lit ha) d2 K2 (fun T b r2 th en p => k2 T b r2 th en ⟨p.1, fun _ => ⟨?_, ?_⟩⟩)
  · rw [p.2]; exact hr trivial
  · rw [upS_at, if_pos ⟨rfl, rfl⟩]; exact hw b p.2
theorem LRm_e {tb : Tab} {N : Nat} {bs : List AV} {S1 : Nat → Int → Int} {m1 : AM} {c : Int} (hc : c ≠ 0) (nx : NEXT tb N bs S1 m1 (fun th _ => th = c)) : LRm tb N bs c S1 m1 := by
  intro d2 K2 k2
  exact nx S1 (fun _ _ => rfl) d2 K2 (fun T b r2 th en p => k2 T b r2 th en ⟨p, fun z => absurd z hc⟩)
section LawM
variable {tb : Tab} {S : Nat → Int → Int} {m : AM}
theorem k348_0 : pg.1 348 0 = [.aload 1, .bipush 0, .aload 0, .invokeinterface 131 1, .i2l, .lastore, .goto 17] := rfl
theorem a348_0 {tb : Tab} {d : Nat} {K : Out → AM → Prop} {ls st : List AV} {m : AM} : At tb d 348 K 0 ls st m = wpB tb (pg.2.1 348) (Runs tb pg d) K (At tb d 348 K) [.aload 1, .bipush 0, .aload 0, .invokeinterface 131 1, .i2l, .lastore, .goto 17] ls st m := At.eq k348_0
theorem k348_12 : pg.1 348 12 = [.bipush 1, .ireturn] := rfl
theorem a348_12 {tb : Tab} {d : Nat} {K : Out → AM → Prop} {ls st : List AV} {m : AM} : At tb d 348 K 12 ls st m = wpB tb (pg.2.1 348) (Runs tb pg d) K (At tb d 348 K) [.bipush 1, .ireturn] ls st m := At.eq k348_12
theorem k348_15 : pg.1 348 15 = [.bipush 2, .ireturn] := rfl
theorem a348_15 {tb : Tab} {d : Nat} {K : Out → AM → Prop} {ls st : List AV} {m : AM} : At tb d 348 K 15 ls st m = wpB tb (pg.2.1 348) (Runs tb pg d) K (At tb d 348 K) [.bipush 2, .ireturn] ls st m := At.eq k348_15
theorem k348_17 : pg.1 348 17 = [.bipush 0, .ireturn] := rfl
theorem a348_17 {tb : Tab} {d : Nat} {K : Out → AM → Prop} {ls st : List AV} {m : AM} : At tb d 348 K 17 ls st m = wpB tb (pg.2.1 348) (Runs tb pg d) K (At tb d 348 K) [.bipush 0, .ireturn] ls st m := At.eq k348_17
theorem hs348_1 : pg.2.1 348 1 = some (2, 12) := rfl
theorem hs348_3 : pg.2.1 348 3 = some (2, 15) := rfl
theorem y_348 {N : Nat} {bs : List AV} (hJ : JT tb 131 N [vr 0] bs True [(1, 1), (3, 2)] S m) : WT tb 348 N [vr 0, vr 316] bs S m := by
  intro d K hK
  refine Runs.of (al := [vr 0, vr 316]) (n := 1) trivial rfl rfl trivial ?_
  rw [a348_0]
  simp only [w_aload, w_iload, w_iconst, w_call, List.getElem?_cons_zero, List.getElem?_cons_succ, List.set_cons_zero, List.set_cons_succ, List.cons_append, List.nil_append, List.replicate_succ, List.replicate_zero, List.take_succ_cons, List.take_zero, List.drop_succ_cons, List.drop_zero, List.reverse_cons, List.reverse_nil, List.length_cons, List.length_nil, Option.toList, true_and, and_true, eq_self, ↓reduceIte, not_true_eq_false, not_false_eq_true, true_or, or_true, List.append_eq]
  refine ⟨⟨by omega, by omega⟩, hJ (d + 1) _ (fun v S1 m1 hr g nx => ?_) (fun E c S1 m1 he g nx => ?_)⟩
  · simp only [Option.toList, w_i2l, x_last isA_316x, len_316x, w_goto, Int.reduceToNat, a348_17, w_iconst, w_ireturn, List.getElem?_cons_zero, List.getElem?_cons_succ, List.set_cons_zero, List.set_cons_succ, List.cons_append, List.nil_append, List.replicate_succ, List.replicate_zero, List.take_succ_cons, List.take_zero, List.drop_succ_cons, List.drop_zero, List.reverse_cons, List.reverse_nil, List.length_cons, List.length_nil, Option.toList, true_and, and_true, eq_self, ↓reduceIte, not_true_eq_false, not_false_eq_true, true_or, or_true, List.append_eq]
    exact ⟨hr trivial, ⟨by decide, by decide⟩, hK 0 _ _ (by decide) (by decide) g (LRw_v hr nx)⟩
  · simp only [List.mem_cons, Prod.mk.injEq, List.not_mem_nil, or_false] at he
    rcases he with ⟨rfl, rfl⟩ | ⟨rfl, rfl⟩
    · simp only [hs348_1, a348_12, w_iconst, w_ireturn]
      exact hK 1 _ _ (by decide) (by decide) g (LRw_e (by decide) nx)
    · simp only [hs348_3, a348_15, w_iconst, w_ireturn]
      exact hK 2 _ _ (by decide) (by decide) g (LRw_e (by decide) nx)
theorem k349_0 : pg.1 349 0 = [.aload 1, .bipush 0, .aload 0, .invokeinterface 132 1, .i2l, .lastore, .goto 14] := rfl
theorem a349_0 {tb : Tab} {d : Nat} {K : Out → AM → Prop} {ls st : List AV} {m : AM} : At tb d 349 K 0 ls st m = wpB tb (pg.2.1 349) (Runs tb pg d) K (At tb d 349 K) [.aload 1, .bipush 0, .aload 0, .invokeinterface 132 1, .i2l, .lastore, .goto 14] ls st m := At.eq k349_0
theorem k349_12 : pg.1 349 12 = [.bipush 1, .ireturn] := rfl
theorem a349_12 {tb : Tab} {d : Nat} {K : Out → AM → Prop} {ls st : List AV} {m : AM} : At tb d 349 K 12 ls st m = wpB tb (pg.2.1 349) (Runs tb pg d) K (At tb d 349 K) [.bipush 1, .ireturn] ls st m := At.eq k349_12
theorem k349_14 : pg.1 349 14 = [.bipush 0, .ireturn] := rfl
theorem a349_14 {tb : Tab} {d : Nat} {K : Out → AM → Prop} {ls st : List AV} {m : AM} : At tb d 349 K 14 ls st m = wpB tb (pg.2.1 349) (Runs tb pg d) K (At tb d 349 K) [.bipush 0, .ireturn] ls st m := At.eq k349_14
theorem hs349_1 : pg.2.1 349 1 = some (2, 12) := rfl
theorem y_349 {N : Nat} {bs : List AV} (hJ : JT tb 132 N [vr 0] bs True [(1, 1)] S m) : WT tb 349 N [vr 0, vr 316] bs S m := by
  intro d K hK
  refine Runs.of (al := [vr 0, vr 316]) (n := 1) trivial rfl rfl trivial ?_
  rw [a349_0]
  simp only [w_aload, w_iload, w_iconst, w_call, List.getElem?_cons_zero, List.getElem?_cons_succ, List.set_cons_zero, List.set_cons_succ, List.cons_append, List.nil_append, List.replicate_succ, List.replicate_zero, List.take_succ_cons, List.take_zero, List.drop_succ_cons, List.drop_zero, List.reverse_cons, List.reverse_nil, List.length_cons, List.length_nil, Option.toList, true_and, and_true, eq_self, ↓reduceIte, not_true_eq_false, not_false_eq_true, true_or, or_true, List.append_eq]
  refine ⟨⟨by omega, by omega⟩, hJ (d + 1) _ (fun v S1 m1 hr g nx => ?_) (fun E c S1 m1 he g nx => ?_)⟩
  · simp only [Option.toList, w_i2l, x_last isA_316x, len_316x, w_goto, Int.reduceToNat, a349_14, w_iconst, w_ireturn, List.getElem?_cons_zero, List.getElem?_cons_succ, List.set_cons_zero, List.set_cons_succ, List.cons_append, List.nil_append, List.replicate_succ, List.replicate_zero, List.take_succ_cons, List.take_zero, List.drop_succ_cons, List.drop_zero, List.reverse_cons, List.reverse_nil, List.length_cons, List.length_nil, Option.toList, true_and, and_true, eq_self, ↓reduceIte, not_true_eq_false, not_false_eq_true, true_or, or_true, List.append_eq]
    exact ⟨hr trivial, ⟨by decide, by decide⟩, hK 0 _ _ (by decide) (by decide) g (LRw_v hr nx)⟩
  · simp only [List.mem_cons, Prod.mk.injEq, List.not_mem_nil, or_false] at he
    rcases he with ⟨rfl, rfl⟩
    · simp only [hs349_1, a349_12, w_iconst, w_ireturn]
      exact hK 1 _ _ (by decide) (by decide) g (LRw_e (by decide) nx)
theorem k350_0 : pg.1 350 0 = [.aload 3, .bipush 0, .aload 0, .iload 1, .iload 2, .invokeinterface 135 3, .i2l, .lastore, .goto 21] := rfl
theorem a350_0 {tb : Tab} {d : Nat} {K : Out → AM → Prop} {ls st : List AV} {m : AM} : At tb d 350 K 0 ls st m = wpB tb (pg.2.1 350) (Runs tb pg d) K (At tb d 350 K) [.aload 3, .bipush 0, .aload 0, .iload 1, .iload 2, .invokeinterface 135 3, .i2l, .lastore, .goto 21] ls st m := At.eq k350_0
theorem k350_15 : pg.1 350 15 = [.bipush 1, .ireturn] := rfl
theorem a350_15 {tb : Tab} {d : Nat} {K : Out → AM → Prop} {ls st : List AV} {m : AM} : At tb d 350 K 15 ls st m = wpB tb (pg.2.1 350) (Runs tb pg d) K (At tb d 350 K) [.bipush 1, .ireturn] ls st m := At.eq k350_15
theorem k350_19 : pg.1 350 19 = [.bipush 2, .ireturn] := rfl
theorem a350_19 {tb : Tab} {d : Nat} {K : Out → AM → Prop} {ls st : List AV} {m : AM} : At tb d 350 K 19 ls st m = wpB tb (pg.2.1 350) (Runs tb pg d) K (At tb d 350 K) [.bipush 2, .ireturn] ls st m := At.eq k350_19
theorem k350_21 : pg.1 350 21 = [.bipush 0, .ireturn] := rfl
theorem a350_21 {tb : Tab} {d : Nat} {K : Out → AM → Prop} {ls st : List AV} {m : AM} : At tb d 350 K 21 ls st m = wpB tb (pg.2.1 350) (Runs tb pg d) K (At tb d 350 K) [.bipush 0, .ireturn] ls st m := At.eq k350_21
theorem hs350_2 : pg.2.1 350 2 = some (4, 15) := rfl
theorem hs350_4 : pg.2.1 350 4 = some (4, 19) := rfl
theorem y_350 {a0 a1 : Int} {N : Nat} {bs : List AV} (hJ : JT tb 135 N [vr 0, vi a0, vi a1] bs True [(2, 1), (4, 2)] S m) : WT tb 350 N [vr 0, vi a0, vi a1, vr 316] bs S m := by
  intro d K hK
  refine Runs.of (al := [vr 0, vi a0, vi a1, vr 316]) (n := 1) trivial rfl rfl trivial ?_
  rw [a350_0]
  simp only [w_aload, w_iload, w_iconst, w_call, List.getElem?_cons_zero, List.getElem?_cons_succ, List.set_cons_zero, List.set_cons_succ, List.cons_append, List.nil_append, List.replicate_succ, List.replicate_zero, List.take_succ_cons, List.take_zero, List.drop_succ_cons, List.drop_zero, List.reverse_cons, List.reverse_nil, List.length_cons, List.length_nil, Option.toList, true_and, and_true, eq_self, ↓reduceIte, not_true_eq_false, not_false_eq_true, true_or, or_true, List.append_eq]
  refine ⟨⟨by omega, by omega⟩, hJ (d + 1) _ (fun v S1 m1 hr g nx => ?_) (fun E c S1 m1 he g nx => ?_)⟩
  · simp only [Option.toList, w_i2l, x_last isA_316x, len_316x, w_goto, Int.reduceToNat, a350_21, w_iconst, w_ireturn, List.getElem?_cons_zero, List.getElem?_cons_succ, List.set_cons_zero, List.set_cons_succ, List.cons_append, List.nil_append, List.replicate_succ, List.replicate_zero, List.take_succ_cons, List.take_zero, List.drop_succ_cons, List.drop_zero, List.reverse_cons, List.reverse_nil, List.length_cons, List.length_nil, Option.toList, true_and, and_true, eq_self, ↓reduceIte, not_true_eq_false, not_false_eq_true, true_or, or_true, List.append_eq]
    exact ⟨hr trivial, ⟨by decide, by decide⟩, hK 0 _ _ (by decide) (by decide) g (LRw_v hr nx)⟩
  · simp only [List.mem_cons, Prod.mk.injEq, List.not_mem_nil, or_false] at he
    rcases he with ⟨rfl, rfl⟩ | ⟨rfl, rfl⟩
    · simp only [hs350_2, a350_15, w_iconst, w_ireturn]
      exact hK 1 _ _ (by decide) (by decide) g (LRw_e (by decide) nx)
    · simp only [hs350_4, a350_19, w_iconst, w_ireturn]
      exact hK 2 _ _ (by decide) (by decide) g (LRw_e (by decide) nx)
theorem k351_0 : pg.1 351 0 = [.aload 3, .bipush 0, .aload 0, .iload 1, .iload 2, .invokeinterface 136 3, .i2l, .lastore, .goto 21] := rfl
theorem a351_0 {tb : Tab} {d : Nat} {K : Out → AM → Prop} {ls st : List AV} {m : AM} : At tb d 351 K 0 ls st m = wpB tb (pg.2.1 351) (Runs tb pg d) K (At tb d 351 K) [.aload 3, .bipush 0, .aload 0, .iload 1, .iload 2, .invokeinterface 136 3, .i2l, .lastore, .goto 21] ls st m := At.eq k351_0
theorem k351_15 : pg.1 351 15 = [.bipush 1, .ireturn] := rfl
theorem a351_15 {tb : Tab} {d : Nat} {K : Out → AM → Prop} {ls st : List AV} {m : AM} : At tb d 351 K 15 ls st m = wpB tb (pg.2.1 351) (Runs tb pg d) K (At tb d 351 K) [.bipush 1, .ireturn] ls st m := At.eq k351_15
theorem k351_19 : pg.1 351 19 = [.bipush 2, .ireturn] := rfl
theorem a351_19 {tb : Tab} {d : Nat} {K : Out → AM → Prop} {ls st : List AV} {m : AM} : At tb d 351 K 19 ls st m = wpB tb (pg.2.1 351) (Runs tb pg d) K (At tb d 351 K) [.bipush 2, .ireturn] ls st m := At.eq k351_19
theorem k351_21 : pg.1 351 21 = [.bipush 0, .ireturn] := rfl
theorem a351_21 {tb : Tab} {d : Nat} {K : Out → AM → Prop} {ls st : List AV} {m : AM} : At tb d 351 K 21 ls st m = wpB tb (pg.2.1 351) (Runs tb pg d) K (At tb d 351 K) [.bipush 0, .ireturn] ls st m := At.eq k351_21
theorem hs351_2 : pg.2.1 351 2 = some (4, 15) := rfl
theorem hs351_4 : pg.2.1 351 4 = some (4, 19) := rfl
theorem y_351 {a0 a1 : Int} {N : Nat} {bs : List AV} (hJ : JT tb 136 N [vr 0, vi a0, vi a1] bs True [(2, 1), (4, 2)] S m) : WT tb 351 N [vr 0, vi a0, vi a1, vr 316] bs S m := by
  intro d K hK
  refine Runs.of (al := [vr 0, vi a0, vi a1, vr 316]) (n := 1) trivial rfl rfl trivial ?_
  rw [a351_0]
  simp only [w_aload, w_iload, w_iconst, w_call, List.getElem?_cons_zero, List.getElem?_cons_succ, List.set_cons_zero, List.set_cons_succ, List.cons_append, List.nil_append, List.replicate_succ, List.replicate_zero, List.take_succ_cons, List.take_zero, List.drop_succ_cons, List.drop_zero, List.reverse_cons, List.reverse_nil, List.length_cons, List.length_nil, Option.toList, true_and, and_true, eq_self, ↓reduceIte, not_true_eq_false, not_false_eq_true, true_or, or_true, List.append_eq]
  refine ⟨⟨by omega, by omega⟩, hJ (d + 1) _ (fun v S1 m1 hr g nx => ?_) (fun E c S1 m1 he g nx => ?_)⟩
  · simp only [Option.toList, w_i2l, x_last isA_316x, len_316x, w_goto, Int.reduceToNat, a351_21, w_iconst, w_ireturn, List.getElem?_cons_zero, List.getElem?_cons_succ, List.set_cons_zero, List.set_cons_succ, List.cons_append, List.nil_append, List.replicate_succ, List.replicate_zero, List.take_succ_cons, List.take_zero, List.drop_succ_cons, List.drop_zero, List.reverse_cons, List.reverse_nil, List.length_cons, List.length_nil, Option.toList, true_and, and_true, eq_self, ↓reduceIte, not_true_eq_false, not_false_eq_true, true_or, or_true, List.append_eq]
    exact ⟨hr trivial, ⟨by decide, by decide⟩, hK 0 _ _ (by decide) (by decide) g (LRw_v hr nx)⟩
  · simp only [List.mem_cons, Prod.mk.injEq, List.not_mem_nil, or_false] at he
    rcases he with ⟨rfl, rfl⟩ | ⟨rfl, rfl⟩
    · simp only [hs351_2, a351_15, w_iconst, w_ireturn]
      exact hK 1 _ _ (by decide) (by decide) g (LRw_e (by decide) nx)
    · simp only [hs351_4, a351_19, w_iconst, w_ireturn]
      exact hK 2 _ _ (by decide) (by decide) g (LRw_e (by decide) nx)
theorem k352_0 : pg.1 352 0 = [.aload 4, .bipush 0, .aload 0, .iload 1, .iload 2, .iload 3, .invokeinterface 138 4, .i2l, .lastore, .goto 23] := rfl
theorem a352_0 {tb : Tab} {d : Nat} {K : Out → AM → Prop} {ls st : List AV} {m : AM} : At tb d 352 K 0 ls st m = wpB tb (pg.2.1 352) (Runs tb pg d) K (At tb d 352 K) [.aload 4, .bipush 0, .aload 0, .iload 1, .iload 2, .iload 3, .invokeinterface 138 4, .i2l, .lastore, .goto 23] ls st m := At.eq k352_0
theorem k352_17 : pg.1 352 17 = [.bipush 1, .ireturn] := rfl
theorem a352_17 {tb : Tab} {d : Nat} {K : Out → AM → Prop} {ls st : List AV} {m : AM} : At tb d 352 K 17 ls st m = wpB tb (pg.2.1 352) (Runs tb pg d) K (At tb d 352 K) [.bipush 1, .ireturn] ls st m := At.eq k352_17
theorem k352_21 : pg.1 352 21 = [.bipush 2, .ireturn] := rfl
theorem a352_21 {tb : Tab} {d : Nat} {K : Out → AM → Prop} {ls st : List AV} {m : AM} : At tb d 352 K 21 ls st m = wpB tb (pg.2.1 352) (Runs tb pg d) K (At tb d 352 K) [.bipush 2, .ireturn] ls st m := At.eq k352_21
theorem k352_23 : pg.1 352 23 = [.bipush 0, .ireturn] := rfl
theorem a352_23 {tb : Tab} {d : Nat} {K : Out → AM → Prop} {ls st : List AV} {m : AM} : At tb d 352 K 23 ls st m = wpB tb (pg.2.1 352) (Runs tb pg d) K (At tb d 352 K) [.bipush 0, .ireturn] ls st m := At.eq k352_23
theorem hs352_2 : pg.2.1 352 2 = some (5, 17) := rfl
theorem hs352_4 : pg.2.1 352 4 = some (5, 21) := rfl
theorem y_352 {a0 a1 a2 : Int} {N : Nat} {bs : List AV} (hJ : JT tb 138 N [vr 0, vi a0, vi a1, vi a2] bs True [(2, 1), (4, 2)] S m) : WT tb 352 N [vr 0, vi a0, vi a1, vi a2, vr 316] bs S m := by
  intro d K hK
  refine Runs.of (al := [vr 0, vi a0, vi a1, vi a2, vr 316]) (n := 1) trivial rfl rfl trivial ?_
  rw [a352_0]
  simp only [w_aload, w_iload, w_iconst, w_call, List.getElem?_cons_zero, List.getElem?_cons_succ, List.set_cons_zero, List.set_cons_succ, List.cons_append, List.nil_append, List.replicate_succ, List.replicate_zero, List.take_succ_cons, List.take_zero, List.drop_succ_cons, List.drop_zero, List.reverse_cons, List.reverse_nil, List.length_cons, List.length_nil, Option.toList, true_and, and_true, eq_self, ↓reduceIte, not_true_eq_false, not_false_eq_true, true_or, or_true, List.append_eq]
  refine ⟨⟨by omega, by omega⟩, hJ (d + 1) _ (fun v S1 m1 hr g nx => ?_) (fun E c S1 m1 he g nx => ?_)⟩
  · simp only [Option.toList, w_i2l, x_last isA_316x, len_316x, w_goto, Int.reduceToNat, a352_23, w_iconst, w_ireturn, List.getElem?_cons_zero, List.getElem?_cons_succ, List.set_cons_zero, List.set_cons_succ, List.cons_append, List.nil_append, List.replicate_succ, List.replicate_zero, List.take_succ_cons, List.take_zero, List.drop_succ_cons, List.drop_zero, List.reverse_cons, List.reverse_nil, List.length_cons, List.length_nil, Option.toList, true_and, and_true, eq_self, ↓reduceIte, not_true_eq_false, not_false_eq_true, true_or, or_true, List.append_eq]
    exact ⟨hr trivial, ⟨by decide, by decide⟩, hK 0 _ _ (by decide) (by decide) g (LRw_v hr nx)⟩
  · simp only [List.mem_cons, Prod.mk.injEq, List.not_mem_nil, or_false] at he
    rcases he with ⟨rfl, rfl⟩ | ⟨rfl, rfl⟩
    · simp only [hs352_2, a352_17, w_iconst, w_ireturn]
      exact hK 1 _ _ (by decide) (by decide) g (LRw_e (by decide) nx)
    · simp only [hs352_4, a352_21, w_iconst, w_ireturn]
      exact hK 2 _ _ (by decide) (by decide) g (LRw_e (by decide) nx)
theorem k353_0 : pg.1 353 0 = [.aload 3, .bipush 0, .aload 0, .iload 1, .iload 2, .invokeinterface 139 3, .i2l, .lastore, .goto 21] := rfl
theorem a353_0 {tb : Tab} {d : Nat} {K : Out → AM → Prop} {ls st : List AV} {m : AM} : At tb d 353 K 0 ls st m = wpB tb (pg.2.1 353) (Runs tb pg d) K (At tb d 353 K) [.aload 3, .bipush 0, .aload 0, .iload 1, .iload 2, .invokeinterface 139 3, .i2l, .lastore, .goto 21] ls st m := At.eq k353_0
theorem k353_15 : pg.1 353 15 = [.bipush 1, .ireturn] := rfl
theorem a353_15 {tb : Tab} {d : Nat} {K : Out → AM → Prop} {ls st : List AV} {m : AM} : At tb d 353 K 15 ls st m = wpB tb (pg.2.1 353) (Runs tb pg d) K (At tb d 353 K) [.bipush 1, .ireturn] ls st m := At.eq k353_15
theorem k353_19 : pg.1 353 19 = [.bipush 2, .ireturn] := rfl
theorem a353_19 {tb : Tab} {d : Nat} {K : Out → AM → Prop} {ls st : List AV} {m : AM} : At tb d 353 K 19 ls st m = wpB tb (pg.2.1 353) (Runs tb pg d) K (At tb d 353 K) [.bipush 2, .ireturn] ls st m := At.eq k353_19
theorem k353_21 : pg.1 353 21 = [.bipush 0, .ireturn] := rfl
theorem a353_21 {tb : Tab} {d : Nat} {K : Out → AM → Prop} {ls st : List AV} {m : AM} : At tb d 353 K 21 ls st m = wpB tb (pg.2.1 353) (Runs tb pg d) K (At tb d 353 K) [.bipush 0, .ireturn] ls st m := At.eq k353_21
theorem hs353_2 : pg.2.1 353 2 = some (4, 15) := rfl
theorem hs353_4 : pg.2.1 353 4 = some (4, 19) := rfl
theorem y_353 {a0 a1 : Int} {N : Nat} {bs : List AV} (hJ : JT tb 139 N [vr 0, vi a0, vi a1] bs True [(2, 1), (4, 2)] S m) : WT tb 353 N [vr 0, vi a0, vi a1, vr 316] bs S m := by
  intro d K hK
  refine Runs.of (al := [vr 0, vi a0, vi a1, vr 316]) (n := 1) trivial rfl rfl trivial ?_
  rw [a353_0]
  simp only [w_aload, w_iload, w_iconst, w_call, List.getElem?_cons_zero, List.getElem?_cons_succ, List.set_cons_zero, List.set_cons_succ, List.cons_append, List.nil_append, List.replicate_succ, List.replicate_zero, List.take_succ_cons, List.take_zero, List.drop_succ_cons, List.drop_zero, List.reverse_cons, List.reverse_nil, List.length_cons, List.length_nil, Option.toList, true_and, and_true, eq_self, ↓reduceIte, not_true_eq_false, not_false_eq_true, true_or, or_true, List.append_eq]
  refine ⟨⟨by omega, by omega⟩, hJ (d + 1) _ (fun v S1 m1 hr g nx => ?_) (fun E c S1 m1 he g nx => ?_)⟩
  · simp only [Option.toList, w_i2l, x_last isA_316x, len_316x, w_goto, Int.reduceToNat, a353_21, w_iconst, w_ireturn, List.getElem?_cons_zero, List.getElem?_cons_succ, List.set_cons_zero, List.set_cons_succ, List.cons_append, List.nil_append, List.replicate_succ, List.replicate_zero, List.take_succ_cons, List.take_zero, List.drop_succ_cons, List.drop_zero, List.reverse_cons, List.reverse_nil, List.length_cons, List.length_nil, Option.toList, true_and, and_true, eq_self, ↓reduceIte, not_true_eq_false, not_false_eq_true, true_or, or_true, List.append_eq]
    exact ⟨hr trivial, ⟨by decide, by decide⟩, hK 0 _ _ (by decide) (by decide) g (LRw_v hr nx)⟩
  · simp only [List.mem_cons, Prod.mk.injEq, List.not_mem_nil, or_false] at he
    rcases he with ⟨rfl, rfl⟩ | ⟨rfl, rfl⟩
    · simp only [hs353_2, a353_15, w_iconst, w_ireturn]
      exact hK 1 _ _ (by decide) (by decide) g (LRw_e (by decide) nx)
    · simp only [hs353_4, a353_19, w_iconst, w_ireturn]
      exact hK 2 _ _ (by decide) (by decide) g (LRw_e (by decide) nx)
theorem k354_0 : pg.1 354 0 = [.aload 3, .bipush 0, .aload 0, .iload 1, .iload 2, .invokeinterface 140 3, .i2l, .lastore, .goto 17] := rfl
theorem a354_0 {tb : Tab} {d : Nat} {K : Out → AM → Prop} {ls st : List AV} {m : AM} : At tb d 354 K 0 ls st m = wpB tb (pg.2.1 354) (Runs tb pg d) K (At tb d 354 K) [.aload 3, .bipush 0, .aload 0, .iload 1, .iload 2, .invokeinterface 140 3, .i2l, .lastore, .goto 17] ls st m := At.eq k354_0
theorem k354_15 : pg.1 354 15 = [.bipush 1, .ireturn] := rfl
theorem a354_15 {tb : Tab} {d : Nat} {K : Out → AM → Prop} {ls st : List AV} {m : AM} : At tb d 354 K 15 ls st m = wpB tb (pg.2.1 354) (Runs tb pg d) K (At tb d 354 K) [.bipush 1, .ireturn] ls st m := At.eq k354_15
theorem k354_17 : pg.1 354 17 = [.bipush 0, .ireturn] := rfl
theorem a354_17 {tb : Tab} {d : Nat} {K : Out → AM → Prop} {ls st : List AV} {m : AM} : At tb d 354 K 17 ls st m = wpB tb (pg.2.1 354) (Runs tb pg d) K (At tb d 354 K) [.bipush 0, .ireturn] ls st m := At.eq k354_17
theorem hs354_2 : pg.2.1 354 2 = some (4, 15) := rfl
theorem y_354 {a0 a1 : Int} {N : Nat} {bs : List AV} (hJ : JT tb 140 N [vr 0, vi a0, vi a1] bs True [(2, 1)] S m) : WT tb 354 N [vr 0, vi a0, vi a1, vr 316] bs S m := by
  intro d K hK
  refine Runs.of (al := [vr 0, vi a0, vi a1, vr 316]) (n := 1) trivial rfl rfl trivial ?_
  rw [a354_0]
  simp only [w_aload, w_iload, w_iconst, w_call, List.getElem?_cons_zero, List.getElem?_cons_succ, List.set_cons_zero, List.set_cons_succ, List.cons_append, List.nil_append, List.replicate_succ, List.replicate_zero, List.take_succ_cons, List.take_zero, List.drop_succ_cons, List.drop_zero, List.reverse_cons, List.reverse_nil, List.length_cons, List.length_nil, Option.toList, true_and, and_true, eq_self, ↓reduceIte, not_true_eq_false, not_false_eq_true, true_or, or_true, List.append_eq]
  refine ⟨⟨by omega, by omega⟩, hJ (d + 1) _ (fun v S1 m1 hr g nx => ?_) (fun E c S1 m1 he g nx => ?_)⟩
  · simp only [Option.toList, w_i2l, x_last isA_316x, len_316x, w_goto, Int.reduceToNat, a354_17, w_iconst, w_ireturn, List.getElem?_cons_zero, List.getElem?_cons_succ, List.set_cons_zero, List.set_cons_succ, List.cons_append, List.nil_append, List.replicate_succ, List.replicate_zero, List.take_succ_cons, List.take_zero, List.drop_succ_cons, List.drop_zero, List.reverse_cons, List.reverse_nil, List.length_cons, List.length_nil, Option.toList, true_and, and_true, eq_self, ↓reduceIte, not_true_eq_false, not_false_eq_true, true_or, or_true, List.append_eq]
    exact ⟨hr trivial, ⟨by decide, by decide⟩, hK 0 _ _ (by decide) (by decide) g (LRw_v hr nx)⟩
  · simp only [List.mem_cons, Prod.mk.injEq, List.not_mem_nil, or_false] at he
    rcases he with ⟨rfl, rfl⟩
    · simp only [hs354_2, a354_15, w_iconst, w_ireturn]
      exact hK 1 _ _ (by decide) (by decide) g (LRw_e (by decide) nx)
theorem k355_0 : pg.1 355 0 = [.aload 3, .bipush 0, .aload 0, .iload 1, .iload 2, .invokeinterface 141 3, .i2l, .lastore, .goto 17] := rfl
theorem a355_0 {tb : Tab} {d : Nat} {K : Out → AM → Prop} {ls st : List AV} {m : AM} : At tb d 355 K 0 ls st m = wpB tb (pg.2.1 355) (Runs tb pg d) K (At tb d 355 K) [.aload 3, .bipush 0, .aload 0, .iload 1, .iload 2, .invokeinterface 141 3, .i2l, .lastore, .goto 17] ls st m := At.eq k355_0
theorem k355_15 : pg.1 355 15 = [.bipush 1, .ireturn] := rfl
theorem a355_15 {tb : Tab} {d : Nat} {K : Out → AM → Prop} {ls st : List AV} {m : AM} : At tb d 355 K 15 ls st m = wpB tb (pg.2.1 355) (Runs tb pg d) K (At tb d 355 K) [.bipush 1, .ireturn] ls st m := At.eq k355_15
theorem k355_17 : pg.1 355 17 = [.bipush 0, .ireturn] := rfl
theorem a355_17 {tb : Tab} {d : Nat} {K : Out → AM → Prop} {ls st : List AV} {m : AM} : At tb d 355 K 17 ls st m = wpB tb (pg.2.1 355) (Runs tb pg d) K (At tb d 355 K) [.bipush 0, .ireturn] ls st m := At.eq k355_17
theorem hs355_2 : pg.2.1 355 2 = some (4, 15) := rfl
theorem y_355 {a0 a1 : Int} {N : Nat} {bs : List AV} (hJ : JT tb 141 N [vr 0, vi a0, vi a1] bs True [(2, 1)] S m) : WT tb 355 N [vr 0, vi a0, vi a1, vr 316] bs S m := by
  intro d K hK
  refine Runs.of (al := [vr 0, vi a0, vi a1, vr 316]) (n := 1) trivial rfl rfl trivial ?_
  rw [a355_0]
  simp only [w_aload, w_iload, w_iconst, w_call, List.getElem?_cons_zero, List.getElem?_cons_succ, List.set_cons_zero, List.set_cons_succ, List.cons_append, List.nil_append, List.replicate_succ, List.replicate_zero, List.take_succ_cons, List.take_zero, List.drop_succ_cons, List.drop_zero, List.reverse_cons, List.reverse_nil, List.length_cons, List.length_nil, Option.toList, true_and, and_true, eq_self, ↓reduceIte, not_true_eq_false, not_false_eq_true, true_or, or_true, List.append_eq]
  refine ⟨⟨by omega, by omega⟩, hJ (d + 1) _ (fun v S1 m1 hr g nx => ?_) (fun E c S1 m1 he g nx => ?_)⟩
  · simp only [Option.toList, w_i2l, x_last isA_316x, len_316x, w_goto, Int.reduceToNat, a355_17, w_iconst, w_ireturn, List.getElem?_cons_zero, List.getElem?_cons_succ, List.set_cons_zero, List.set_cons_succ, List.cons_append, List.nil_append, List.replicate_succ, List.replicate_zero, List.take_succ_cons, List.take_zero, List.drop_succ_cons, List.drop_zero, List.reverse_cons, List.reverse_nil, List.length_cons, List.length_nil, Option.toList, true_and, and_true, eq_self, ↓reduceIte, not_true_eq_false, not_false_eq_true, true_or, or_true, List.append_eq]
    exact ⟨hr trivial, ⟨by decide, by decide⟩, hK 0 _ _ (by decide) (by decide) g (LRw_v hr nx)⟩
  · simp only [List.mem_cons, Prod.mk.injEq, List.not_mem_nil, or_false] at he
    rcases he with ⟨rfl, rfl⟩
    · simp only [hs355_2, a355_15, w_iconst, w_ireturn]
      exact hK 1 _ _ (by decide) (by decide) g (LRw_e (by decide) nx)
theorem k356_0 : pg.1 356 0 = [.aload 2, .bipush 0, .aload 0, .iload 1, .invokeinterface 146 2, .i2l, .lastore, .goto 15] := rfl
theorem a356_0 {tb : Tab} {d : Nat} {K : Out → AM → Prop} {ls st : List AV} {m : AM} : At tb d 356 K 0 ls st m = wpB tb (pg.2.1 356) (Runs tb pg d) K (At tb d 356 K) [.aload 2, .bipush 0, .aload 0, .iload 1, .invokeinterface 146 2, .i2l, .lastore, .goto 15] ls st m := At.eq k356_0
theorem k356_13 : pg.1 356 13 = [.bipush 1, .ireturn] := rfl
theorem a356_13 {tb : Tab} {d : Nat} {K : Out → AM → Prop} {ls st : List AV} {m : AM} : At tb d 356 K 13 ls st m = wpB tb (pg.2.1 356) (Runs tb pg d) K (At tb d 356 K) [.bipush 1, .ireturn] ls st m := At.eq k356_13
theorem k356_15 : pg.1 356 15 = [.bipush 0, .ireturn] := rfl
theorem a356_15 {tb : Tab} {d : Nat} {K : Out → AM → Prop} {ls st : List AV} {m : AM} : At tb d 356 K 15 ls st m = wpB tb (pg.2.1 356) (Runs tb pg d) K (At tb d 356 K) [.bipush 0, .ireturn] ls st m := At.eq k356_15
theorem hs356_1 : pg.2.1 356 1 = some (3, 13) := rfl
theorem y_356 {a0 : Int} {N : Nat} {bs : List AV} (hJ : JT tb 146 N [vr 0, vi a0] bs True [(1, 1)] S m) : WT tb 356 N [vr 0, vi a0, vr 316] bs S m := by
  intro d K hK
  refine Runs.of (al := [vr 0, vi a0, vr 316]) (n := 1) trivial rfl rfl trivial ?_
  rw [a356_0]
  simp only [w_aload, w_iload, w_iconst, w_call, List.getElem?_cons_zero, List.getElem?_cons_succ, List.set_cons_zero, List.set_cons_succ, List.cons_append, List.nil_append, List.replicate_succ, List.replicate_zero, List.take_succ_cons, List.take_zero, List.drop_succ_cons, List.drop_zero, List.reverse_cons, List.reverse_nil, List.length_cons, List.length_nil, Option.toList, true_and, and_true, eq_self, ↓reduceIte, not_true_eq_false, not_false_eq_true, true_or, or_true, List.append_eq]
  refine ⟨⟨by omega, by omega⟩, hJ (d + 1) _ (fun v S1 m1 hr g nx => ?_) (fun E c S1 m1 he g nx => ?_)⟩
  · simp only [Option.toList, w_i2l, x_last isA_316x, len_316x, w_goto, Int.reduceToNat, a356_15, w_iconst, w_ireturn, List.getElem?_cons_zero, List.getElem?_cons_succ, List.set_cons_zero, List.set_cons_succ, List.cons_append, List.nil_append, List.replicate_succ, List.replicate_zero, List.take_succ_cons, List.take_zero, List.drop_succ_cons, List.drop_zero, List.reverse_cons, List.reverse_nil, List.length_cons, List.length_nil, Option.toList, true_and, and_true, eq_self, ↓reduceIte, not_true_eq_false, not_false_eq_true, true_or, or_true, List.append_eq]
    exact ⟨hr trivial, ⟨by decide, by decide⟩, hK 0 _ _ (by decide) (by decide) g (LRw_v hr nx)⟩
  · simp only [List.mem_cons, Prod.mk.injEq, List.not_mem_nil, or_false] at he
    rcases he with ⟨rfl, rfl⟩
    · simp only [hs356_1, a356_13, w_iconst, w_ireturn]
      exact hK 1 _ _ (by decide) (by decide) g (LRw_e (by decide) nx)
theorem k357_0 : pg.1 357 0 = [.aload 3, .bipush 0, .aload 0, .iload 1, .iload 2, .invokeinterface 147 3, .i2l, .lastore, .goto 21] := rfl
theorem a357_0 {tb : Tab} {d : Nat} {K : Out → AM → Prop} {ls st : List AV} {m : AM} : At tb d 357 K 0 ls st m = wpB tb (pg.2.1 357) (Runs tb pg d) K (At tb d 357 K) [.aload 3, .bipush 0, .aload 0, .iload 1, .iload 2, .invokeinterface 147 3, .i2l, .lastore, .goto 21] ls st m := At.eq k357_0
theorem k357_15 : pg.1 357 15 = [.bipush 1, .ireturn] := rfl
theorem a357_15 {tb : Tab} {d : Nat} {K : Out → AM → Prop} {ls st : List AV} {m : AM} : At tb d 357 K 15 ls st m = wpB tb (pg.2.1 357) (Runs tb pg d) K (At tb d 357 K) [.bipush 1, .ireturn] ls st m := At.eq k357_15
theorem k357_19 : pg.1 357 19 = [.bipush 2, .ireturn] := rfl
theorem a357_19 {tb : Tab} {d : Nat} {K : Out → AM → Prop} {ls st : List AV} {m : AM} : At tb d 357 K 19 ls st m = wpB tb (pg.2.1 357) (Runs tb pg d) K (At tb d 357 K) [.bipush 2, .ireturn] ls st m := At.eq k357_19
theorem k357_21 : pg.1 357 21 = [.bipush 0, .ireturn] := rfl
theorem a357_21 {tb : Tab} {d : Nat} {K : Out → AM → Prop} {ls st : List AV} {m : AM} : At tb d 357 K 21 ls st m = wpB tb (pg.2.1 357) (Runs tb pg d) K (At tb d 357 K) [.bipush 0, .ireturn] ls st m := At.eq k357_21
theorem hs357_2 : pg.2.1 357 2 = some (4, 15) := rfl
theorem hs357_0 : pg.2.1 357 0 = some (4, 19) := rfl
theorem y_357 {a0 a1 : Int} {N : Nat} {bs : List AV} (hJ : JT tb 147 N [vr 0, vi a0, vi a1] bs True [(2, 1), (0, 2)] S m) : WT tb 357 N [vr 0, vi a0, vi a1, vr 316] bs S m := by
  intro d K hK
  refine Runs.of (al := [vr 0, vi a0, vi a1, vr 316]) (n := 1) trivial rfl rfl trivial ?_
  rw [a357_0]
  simp only [w_aload, w_iload, w_iconst, w_call, List.getElem?_cons_zero, List.getElem?_cons_succ, List.set_cons_zero, List.set_cons_succ, List.cons_append, List.nil_append, List.replicate_succ, List.replicate_zero, List.take_succ_cons, List.take_zero, List.drop_succ_cons, List.drop_zero, List.reverse_cons, List.reverse_nil, List.length_cons, List.length_nil, Option.toList, true_and, and_true, eq_self, ↓reduceIte, not_true_eq_false, not_false_eq_true, true_or, or_true, List.append_eq]
  refine ⟨⟨by omega, by omega⟩, hJ (d + 1) _ (fun v S1 m1 hr g nx => ?_) (fun E c S1 m1 he g nx => ?_)⟩
  · simp only [Option.toList, w_i2l, x_last isA_316x, len_316x, w_goto, Int.reduceToNat, a357_21, w_iconst, w_ireturn, List.getElem?_cons_zero, List.getElem?_cons_succ, List.set_cons_zero, List.set_cons_succ, List.cons_append, List.nil_append, List.replicate_succ, List.replicate_zero, List.take_succ_cons, List.take_zero, List.drop_succ_cons, List.drop_zero, List.reverse_cons, List.reverse_nil, List.length_cons, List.length_nil, Option.toList, true_and, and_true, eq_self, ↓reduceIte, not_true_eq_false, not_false_eq_true, true_or, or_true, List.append_eq]
    exact ⟨hr trivial, ⟨by decide, by decide⟩, hK 0 _ _ (by decide) (by decide) g (LRw_v hr nx)⟩
  · simp only [List.mem_cons, Prod.mk.injEq, List.not_mem_nil, or_false] at he
    rcases he with ⟨rfl, rfl⟩ | ⟨rfl, rfl⟩
    · simp only [hs357_2, a357_15, w_iconst, w_ireturn]
      exact hK 1 _ _ (by decide) (by decide) g (LRw_e (by decide) nx)
    · simp only [hs357_0, a357_19, w_iconst, w_ireturn]
      exact hK 2 _ _ (by decide) (by decide) g (LRw_e (by decide) nx)
theorem k358_0 : pg.1 358 0 = [.aload 2, .bipush 0, .aload 0, .iload 1, .invokeinterface 148 2, .i2l, .lastore, .goto 18] := rfl
theorem a358_0 {tb : Tab} {d : Nat} {K : Out → AM → Prop} {ls st : List AV} {m : AM} : At tb d 358 K 0 ls st m = wpB tb (pg.2.1 358) (Runs tb pg d) K (At tb d 358 K) [.aload 2, .bipush 0, .aload 0, .iload 1, .invokeinterface 148 2, .i2l, .lastore, .goto 18] ls st m := At.eq k358_0
theorem k358_13 : pg.1 358 13 = [.bipush 1, .ireturn] := rfl
theorem a358_13 {tb : Tab} {d : Nat} {K : Out → AM → Prop} {ls st : List AV} {m : AM} : At tb d 358 K 13 ls st m = wpB tb (pg.2.1 358) (Runs tb pg d) K (At tb d 358 K) [.bipush 1, .ireturn] ls st m := At.eq k358_13
theorem k358_16 : pg.1 358 16 = [.bipush 2, .ireturn] := rfl
theorem a358_16 {tb : Tab} {d : Nat} {K : Out → AM → Prop} {ls st : List AV} {m : AM} : At tb d 358 K 16 ls st m = wpB tb (pg.2.1 358) (Runs tb pg d) K (At tb d 358 K) [.bipush 2, .ireturn] ls st m := At.eq k358_16
theorem k358_18 : pg.1 358 18 = [.bipush 0, .ireturn] := rfl
theorem a358_18 {tb : Tab} {d : Nat} {K : Out → AM → Prop} {ls st : List AV} {m : AM} : At tb d 358 K 18 ls st m = wpB tb (pg.2.1 358) (Runs tb pg d) K (At tb d 358 K) [.bipush 0, .ireturn] ls st m := At.eq k358_18
theorem hs358_2 : pg.2.1 358 2 = some (3, 13) := rfl
theorem hs358_0 : pg.2.1 358 0 = some (3, 16) := rfl
theorem y_358 {a0 : Int} {N : Nat} {bs : List AV} (hJ : JT tb 148 N [vr 0, vi a0] bs True [(2, 1), (0, 2)] S m) : WT tb 358 N [vr 0, vi a0, vr 316] bs S m := by
  intro d K hK
  refine Runs.of (al := [vr 0, vi a0, vr 316]) (n := 1) trivial rfl rfl trivial ?_
  rw [a358_0]
  simp only [w_aload, w_iload, w_iconst, w_call, List.getElem?_cons_zero, List.getElem?_cons_succ, List.set_cons_zero, List.set_cons_succ, List.cons_append, List.nil_append, List.replicate_succ, List.replicate_zero, List.take_succ_cons, List.take_zero, List.drop_succ_cons, List.drop_zero, List.reverse_cons, List.reverse_nil, List.length_cons, List.length_nil, Option.toList, true_and, and_true, eq_self, ↓reduceIte, not_true_eq_false, not_false_eq_true, true_or, or_true, List.append_eq]
  refine ⟨⟨by omega, by omega⟩, hJ (d + 1) _ (fun v S1 m1 hr g nx => ?_) (fun E c S1 m1 he g nx => ?_)⟩
  · simp only [Option.toList, w_i2l, x_last isA_316x, len_316x, w_goto, Int.reduceToNat, a358_18, w_iconst, w_ireturn, List.getElem?_cons_zero, List.getElem?_cons_succ, List.set_cons_zero, List.set_cons_succ, List.cons_append, List.nil_append, List.replicate_succ, List.replicate_zero, List.take_succ_cons, List.take_zero, List.drop_succ_cons, List.drop_zero, List.reverse_cons, List.reverse_nil, List.length_cons, List.length_nil, Option.toList, true_and, and_true, eq_self, ↓reduceIte, not_true_eq_false, not_false_eq_true, true_or, or_true, List.append_eq]
    exact ⟨hr trivial, ⟨by decide, by decide⟩, hK 0 _ _ (by decide) (by decide) g (LRw_v hr nx)⟩
  · simp only [List.mem_cons, Prod.mk.injEq, List.not_mem_nil, or_false] at he
    rcases he with ⟨rfl, rfl⟩ | ⟨rfl, rfl⟩
    · simp only [hs358_2, a358_13, w_iconst, w_ireturn]
      exact hK 1 _ _ (by decide) (by decide) g (LRw_e (by decide) nx)
    · simp only [hs358_0, a358_16, w_iconst, w_ireturn]
      exact hK 2 _ _ (by decide) (by decide) g (LRw_e (by decide) nx)
theorem k359_0 : pg.1 359 0 = [.aload 3, .bipush 0, .aload 0, .iload 1, .iload 2, .invokeinterface 149 3, .i2l, .lastore, .goto 25] := rfl
theorem a359_0 {tb : Tab} {d : Nat} {K : Out → AM → Prop} {ls st : List AV} {m : AM} : At tb d 359 K 0 ls st m = wpB tb (pg.2.1 359) (Runs tb pg d) K (At tb d 359 K) [.aload 3, .bipush 0, .aload 0, .iload 1, .iload 2, .invokeinterface 149 3, .i2l, .lastore, .goto 25] ls st m := At.eq k359_0
theorem k359_15 : pg.1 359 15 = [.bipush 1, .ireturn] := rfl
theorem a359_15 {tb : Tab} {d : Nat} {K : Out → AM → Prop} {ls st : List AV} {m : AM} : At tb d 359 K 15 ls st m = wpB tb (pg.2.1 359) (Runs tb pg d) K (At tb d 359 K) [.bipush 1, .ireturn] ls st m := At.eq k359_15
theorem k359_19 : pg.1 359 19 = [.bipush 2, .ireturn] := rfl
theorem a359_19 {tb : Tab} {d : Nat} {K : Out → AM → Prop} {ls st : List AV} {m : AM} : At tb d 359 K 19 ls st m = wpB tb (pg.2.1 359) (Runs tb pg d) K (At tb d 359 K) [.bipush 2, .ireturn] ls st m := At.eq k359_19
theorem k359_23 : pg.1 359 23 = [.bipush 3, .ireturn] := rfl
theorem a359_23 {tb : Tab} {d : Nat} {K : Out → AM → Prop} {ls st : List AV} {m : AM} : At tb d 359 K 23 ls st m = wpB tb (pg.2.1 359) (Runs tb pg d) K (At tb d 359 K) [.bipush 3, .ireturn] ls st m := At.eq k359_23
theorem k359_25 : pg.1 359 25 = [.bipush 0, .ireturn] := rfl
theorem a359_25 {tb : Tab} {d : Nat} {K : Out → AM → Prop} {ls st : List AV} {m : AM} : At tb d 359 K 25 ls st m = wpB tb (pg.2.1 359) (Runs tb pg d) K (At tb d 359 K) [.bipush 0, .ireturn] ls st m := At.eq k359_25
theorem hs359_2 : pg.2.1 359 2 = some (4, 15) := rfl
theorem hs359_1 : pg.2.1 359 1 = some (4, 19) := rfl
theorem hs359_0 : pg.2.1 359 0 = some (4, 23) := rfl
theorem y_359 {a0 a1 : Int} {N : Nat} {bs : List AV} (hJ : JT tb 149 N [vr 0, vi a0, vi a1] bs True [(2, 1), (1, 2), (0, 3)] S m) : WT tb 359 N [vr 0, vi a0, vi a1, vr 316] bs S m := by
  intro d K hK
  refine Runs.of (al := [vr 0, vi a0, vi a1, vr 316]) (n := 1) trivial rfl rfl trivial ?_
  rw [a359_0]
  simp only [w_aload, w_iload, w_iconst, w_call, List.getElem?_cons_zero, List.getElem?_cons_succ, List.set_cons_zero, List.set_cons_succ, List.cons_append, List.nil_append, List.replicate_succ, List.replicate_zero, List.take_succ_cons, List.take_zero, List.drop_succ_cons, List.drop_zero, List.reverse_cons, List.reverse_nil, List.length_cons, List.length_nil, Option.toList, true_and, and_true, eq_self, ↓reduceIte, not_true_eq_false, not_false_eq_true, true_or, or_true, List.append_eq]
  refine ⟨⟨by omega, by omega⟩, hJ (d + 1) _ (fun v S1 m1 hr g nx => ?_) (fun E c S1 m1 he g nx => ?_)⟩
  · simp only [Option.toList, w_i2l, x_last isA_316x, len_316x, w_goto, Int.reduceToNat, a359_25, w_iconst, w_ireturn, List.getElem?_cons_zero, List.getElem?_cons_succ, List.set_cons_zero, List.set_cons_succ, List.cons_append, List.nil_append, List.replicate_succ, List.replicate_zero, List.take_succ_cons, List.take_zero, List.drop_succ_cons, List.drop_zero, List.reverse_cons, List.reverse_nil, List.length_cons, List.length_nil, Option.toList, true_and, and_true, eq_self, ↓reduceIte, not_true_eq_false, not_false_eq_true, true_or, or_true, List.append_eq]
    exact ⟨hr trivial, ⟨by decide, by decide⟩, hK 0 _ _ (by decide) (by decide) g (LRw_v hr nx)⟩
  · simp only [List.mem_cons, Prod.mk.injEq, List.not_mem_nil, or_false] at he
    rcases he with ⟨rfl, rfl⟩ | ⟨rfl, rfl⟩ | ⟨rfl, rfl⟩
    · simp only [hs359_2, a359_15, w_iconst, w_ireturn]
      exact hK 1 _ _ (by decide) (by decide) g (LRw_e (by decide) nx)
    · simp only [hs359_1, a359_19, w_iconst, w_ireturn]
      exact hK 2 _ _ (by decide) (by decide) g (LRw_e (by decide) nx)
    · simp only [hs359_0, a359_23, w_iconst, w_ireturn]
      exact hK 3 _ _ (by decide) (by decide) g (LRw_e (by decide) nx)
theorem k360_0 : pg.1 360 0 = [.aload 4, .bipush 0, .aload 0, .iload 1, .iload 2, .iload 3, .invokeinterface 150 4, .i2l, .lastore, .goto 27] := rfl
theorem a360_0 {tb : Tab} {d : Nat} {K : Out → AM → Prop} {ls st : List AV} {m : AM} : At tb d 360 K 0 ls st m = wpB tb (pg.2.1 360) (Runs tb pg d) K (At tb d 360 K) [.aload 4, .bipush 0, .aload 0, .iload 1, .iload 2, .iload 3, .invokeinterface 150 4, .i2l, .lastore, .goto 27] ls st m := At.eq k360_0
theorem k360_17 : pg.1 360 17 = [.bipush 1, .ireturn] := rfl
theorem a360_17 {tb : Tab} {d : Nat} {K : Out → AM → Prop} {ls st : List AV} {m : AM} : At tb d 360 K 17 ls st m = wpB tb (pg.2.1 360) (Runs tb pg d) K (At tb d 360 K) [.bipush 1, .ireturn] ls st m := At.eq k360_17
theorem k360_21 : pg.1 360 21 = [.bipush 2, .ireturn] := rfl
theorem a360_21 {tb : Tab} {d : Nat} {K : Out → AM → Prop} {ls st : List AV} {m : AM} : At tb d 360 K 21 ls st m = wpB tb (pg.2.1 360) (Runs tb pg d) K (At tb d 360 K) [.bipush 2, .ireturn] ls st m := At.eq k360_21
theorem k360_25 : pg.1 360 25 = [.bipush 3, .ireturn] := rfl
theorem a360_25 {tb : Tab} {d : Nat} {K : Out → AM → Prop} {ls st : List AV} {m : AM} : At tb d 360 K 25 ls st m = wpB tb (pg.2.1 360) (Runs tb pg d) K (At tb d 360 K) [.bipush 3, .ireturn] ls st m := At.eq k360_25
theorem k360_27 : pg.1 360 27 = [.bipush 0, .ireturn] := rfl
theorem a360_27 {tb : Tab} {d : Nat} {K : Out → AM → Prop} {ls st : List AV} {m : AM} : At tb d 360 K 27 ls st m = wpB tb (pg.2.1 360) (Runs tb pg d) K (At tb d 360 K) [.bipush 0, .ireturn] ls st m := At.eq k360_27
theorem hs360_2 : pg.2.1 360 2 = some (5, 17) := rfl
theorem hs360_1 : pg.2.1 360 1 = some (5, 21) := rfl
theorem hs360_0 : pg.2.1 360 0 = some (5, 25) := rfl
theorem y_360 {a0 a1 a2 : Int} {N : Nat} {bs : List AV} (hJ : JT tb 150 N [vr 0, vi a0, vi a1, vi a2] bs True [(2, 1), (1, 2), (0, 3)] S m) : WT tb 360 N [vr 0, vi a0, vi a1, vi a2, vr 316] bs S m := by
  intro d K hK
  refine Runs.of (al := [vr 0, vi a0, vi a1, vi a2, vr 316]) (n := 1) trivial rfl rfl trivial ?_
  rw [a360_0]
  simp only [w_aload, w_iload, w_iconst, w_call, List.getElem?_cons_zero, List.getElem?_cons_succ, List.set_cons_zero, List.set_cons_succ, List.cons_append, List.nil_append, List.replicate_succ, List.replicate_zero, List.take_succ_cons, List.take_zero, List.drop_succ_cons, List.drop_zero, List.reverse_cons, List.reverse_nil, List.length_cons, List.length_nil, Option.toList, true_and, and_true, eq_self, ↓reduceIte, not_true_eq_false, not_false_eq_true, true_or, or_true, List.append_eq]
  refine ⟨⟨by omega, by omega⟩, hJ (d + 1) _ (fun v S1 m1 hr g nx => ?_) (fun E c S1 m1 he g nx => ?_)⟩
  · simp only [Option.toList, w_i2l, x_last isA_316x, len_316x, w_goto, Int.reduceToNat, a360_27, w_iconst, w_ireturn, List.getElem?_cons_zero, List.getElem?_cons_succ, List.set_cons_zero, List.set_cons_succ, List.cons_append, List.nil_append, List.replicate_succ, List.replicate_zero, List.take_succ_cons, List.take_zero, List.drop_succ_cons, List.drop_zero, List.reverse_cons, List.reverse_nil, List.length_cons, List.length_nil, Option.toList, true_and, and_true, eq_self, ↓reduceIte, not_true_eq_false, not_false_eq_true, true_or, or_true, List.append_eq]
    exact ⟨hr trivial, ⟨by decide, by decide⟩, hK 0 _ _ (by decide) (by decide) g (LRw_v hr nx)⟩
  · simp only [List.mem_cons, Prod.mk.injEq, List.not_mem_nil, or_false] at he
    rcases he with ⟨rfl, rfl⟩ | ⟨rfl, rfl⟩ | ⟨rfl, rfl⟩
    · simp only [hs360_2, a360_17, w_iconst, w_ireturn]
      exact hK 1 _ _ (by decide) (by decide) g (LRw_e (by decide) nx)
    · simp only [hs360_1, a360_21, w_iconst, w_ireturn]
      exact hK 2 _ _ (by decide) (by decide) g (LRw_e (by decide) nx)
    · simp only [hs360_0, a360_25, w_iconst, w_ireturn]
      exact hK 3 _ _ (by decide) (by decide) g (LRw_e (by decide) nx)
theorem k361_0 : pg.1 361 0 = [.aload 2, .bipush 0, .aload 0, .iload 1, .invokeinterface 151 2, .i2l, .lastore, .goto 18] := rfl
theorem a361_0 {tb : Tab} {d : Nat} {K : Out → AM → Prop} {ls st : List AV} {m : AM} : At tb d 361 K 0 ls st m = wpB tb (pg.2.1 361) (Runs tb pg d) K (At tb d 361 K) [.aload 2, .bipush 0, .aload 0, .iload 1, .invokeinterface 151 2, .i2l, .lastore, .goto 18] ls st m := At.eq k361_0
theorem k361_13 : pg.1 361 13 = [.bipush 1, .ireturn] := rfl
theorem a361_13 {tb : Tab} {d : Nat} {K : Out → AM → Prop} {ls st : List AV} {m : AM} : At tb d 361 K 13 ls st m = wpB tb (pg.2.1 361) (Runs tb pg d) K (At tb d 361 K) [.bipush 1, .ireturn] ls st m := At.eq k361_13
theorem k361_16 : pg.1 361 16 = [.bipush 2, .ireturn] := rfl
theorem a361_16 {tb : Tab} {d : Nat} {K : Out → AM → Prop} {ls st : List AV} {m : AM} : At tb d 361 K 16 ls st m = wpB tb (pg.2.1 361) (Runs tb pg d) K (At tb d 361 K) [.bipush 2, .ireturn] ls st m := At.eq k361_16
theorem k361_18 : pg.1 361 18 = [.bipush 0, .ireturn] := rfl
theorem a361_18 {tb : Tab} {d : Nat} {K : Out → AM → Prop} {ls st : List AV} {m : AM} : At tb d 361 K 18 ls st m = wpB tb (pg.2.1 361) (Runs tb pg d) K (At tb d 361 K) [.bipush 0, .ireturn] ls st m := At.eq k361_18
theorem hs361_2 : pg.2.1 361 2 = some (3, 13) := rfl
theorem hs361_0 : pg.2.1 361 0 = some (3, 16) := rfl
theorem y_361 {a0 : Int} {N : Nat} {bs : List AV} (hJ : JT tb 151 N [vr 0, vi a0] bs True [(2, 1), (0, 2)] S m) : WT tb 361 N [vr 0, vi a0, vr 316] bs S m := by
  intro d K hK
  refine Runs.of (al := [vr 0, vi a0, vr 316]) (n := 1) trivial rfl rfl trivial ?_
  rw [a361_0]
  simp only [w_aload, w_iload, w_iconst, w_call, List.getElem?_cons_zero, List.getElem?_cons_succ, List.set_cons_zero, List.set_cons_succ, List.cons_append, List.nil_append, List.replicate_succ, List.replicate_zero, List.take_succ_cons, List.take_zero, List.drop_succ_cons, List.drop_zero, List.reverse_cons, List.reverse_nil, List.length_cons, List.length_nil, Option.toList, true_and, and_true, eq_self, ↓reduceIte, not_true_eq_false, not_false_eq_true, true_or, or_true, List.append_eq]
  refine ⟨⟨by omega, by omega⟩, hJ (d + 1) _ (fun v S1 m1 hr g nx => ?_) (fun E c S1 m1 he g nx => ?_)⟩
  · simp only [Option.toList, w_i2l, x_last isA_316x, len_316x, w_goto, Int.reduceToNat, a361_18, w_iconst, w_ireturn, List.getElem?_cons_zero, List.getElem?_cons_succ, List.set_cons_zero, List.set_cons_succ, List.cons_append, List.nil_append, List.replicate_succ, List.replicate_zero, List.take_succ_cons, List.take_zero, List.drop_succ_cons, List.drop_zero, List.reverse_cons, List.reverse_nil, List.length_cons, List.length_nil, Option.toList, true_and, and_true, eq_self, ↓reduceIte, not_true_eq_false, not_false_eq_true, true_or, or_true, List.append_eq]
    exact ⟨hr trivial, ⟨by decide, by decide⟩, hK 0 _ _ (by decide) (by decide) g (LRw_v hr nx)⟩
  · simp only [List.mem_cons, Prod.mk.injEq, List.not_mem_nil, or_false] at he
    rcases he with ⟨rfl, rfl⟩ | ⟨rfl, rfl⟩
    · simp only [hs361_2, a361_13, w_iconst, w_ireturn]
      exact hK 1 _ _ (by decide) (by decide) g (LRw_e (by decide) nx)
    · simp only [hs361_0, a361_16, w_iconst, w_ireturn]
      exact hK 2 _ _ (by decide) (by decide) g (LRw_e (by decide) nx)
theorem k362_0 : pg.1 362 0 = [.aload 3, .bipush 0, .aload 0, .iload 1, .iload 2, .invokeinterface 152 3, .i2l, .lastore, .goto 21] := rfl
theorem a362_0 {tb : Tab} {d : Nat} {K : Out → AM → Prop} {ls st : List AV} {m : AM} : At tb d 362 K 0 ls st m = wpB tb (pg.2.1 362) (Runs tb pg d) K (At tb d 362 K) [.aload 3, .bipush 0, .aload 0, .iload 1, .iload 2, .invokeinterface 152 3, .i2l, .lastore, .goto 21] ls st m := At.eq k362_0
theorem k362_15 : pg.1 362 15 = [.bipush 1, .ireturn] := rfl
theorem a362_15 {tb : Tab} {d : Nat} {K : Out → AM → Prop} {ls st : List AV} {m : AM} : At tb d 362 K 15 ls st m = wpB tb (pg.2.1 362) (Runs tb pg d) K (At tb d 362 K) [.bipush 1, .ireturn] ls st m := At.eq k362_15
theorem k362_19 : pg.1 362 19 = [.bipush 2, .ireturn] := rfl
theorem a362_19 {tb : Tab} {d : Nat} {K : Out → AM → Prop} {ls st : List AV} {m : AM} : At tb d 362 K 19 ls st m = wpB tb (pg.2.1 362) (Runs tb pg d) K (At tb d 362 K) [.bipush 2, .ireturn] ls st m := At.eq k362_19
theorem k362_21 : pg.1 362 21 = [.bipush 0, .ireturn] := rfl
theorem a362_21 {tb : Tab} {d : Nat} {K : Out → AM → Prop} {ls st : List AV} {m : AM} : At tb d 362 K 21 ls st m = wpB tb (pg.2.1 362) (Runs tb pg d) K (At tb d 362 K) [.bipush 0, .ireturn] ls st m := At.eq k362_21
theorem hs362_2 : pg.2.1 362 2 = some (4, 15) := rfl
theorem hs362_1 : pg.2.1 362 1 = some (4, 19) := rfl
theorem y_362 {a0 a1 : Int} {N : Nat} {bs : List AV} (hJ : JT tb 152 N [vr 0, vi a0, vi a1] bs True [(2, 1), (1, 2)] S m) : WT tb 362 N [vr 0, vi a0, vi a1, vr 316] bs S m := by
  intro d K hK
  refine Runs.of (al := [vr 0, vi a0, vi a1, vr 316]) (n := 1) trivial rfl rfl trivial ?_
  rw [a362_0]
  simp only [w_aload, w_iload, w_iconst, w_call, List.getElem?_cons_zero, List.getElem?_cons_succ, List.set_cons_zero, List.set_cons_succ, List.cons_append, List.nil_append, List.replicate_succ, List.replicate_zero, List.take_succ_cons, List.take_zero, List.drop_succ_cons, List.drop_zero, List.reverse_cons, List.reverse_nil, List.length_cons, List.length_nil, Option.toList, true_and, and_true, eq_self, ↓reduceIte, not_true_eq_false, not_false_eq_true, true_or, or_true, List.append_eq]
  refine ⟨⟨by omega, by omega⟩, hJ (d + 1) _ (fun v S1 m1 hr g nx => ?_) (fun E c S1 m1 he g nx => ?_)⟩
  · simp only [Option.toList, w_i2l, x_last isA_316x, len_316x, w_goto, Int.reduceToNat, a362_21, w_iconst, w_ireturn, List.getElem?_cons_zero, List.getElem?_cons_succ, List.set_cons_zero, List.set_cons_succ, List.cons_append, List.nil_append, List.replicate_succ, List.replicate_zero, List.take_succ_cons, List.take_zero, List.drop_succ_cons, List.drop_zero, List.reverse_cons, List.reverse_nil, List.length_cons, List.length_nil, Option.toList, true_and, and_true, eq_self, ↓reduceIte, not_true_eq_false, not_false_eq_true, true_or, or_true, List.append_eq]
    exact ⟨hr trivial, ⟨by decide, by decide⟩, hK 0 _ _ (by decide) (by decide) g (LRw_v hr nx)⟩
  · simp only [List.mem_cons, Prod.mk.injEq, List.not_mem_nil, or_false] at he
    rcases he with ⟨rfl, rfl⟩ | ⟨rfl, rfl⟩
    · simp only [hs362_2, a362_15, w_iconst, w_ireturn]
      exact hK 1 _ _ (by decide) (by decide) g (LRw_e (by decide) nx)
    · simp only [hs362_1, a362_19, w_iconst, w_ireturn]
      exact hK 2 _ _ (by decide) (by decide) g (LRw_e (by decide) nx)
theorem k363_0 : pg.1 363 0 = [.aload 3, .bipush 0, .aload 0, .iload 1, .iload 2, .invokeinterface 153 3, .i2l, .lastore, .goto 21] := rfl
theorem a363_0 {tb : Tab} {d : Nat} {K : Out → AM → Prop} {ls st : List AV} {m : AM} : At tb d 363 K 0 ls st m = wpB tb (pg.2.1 363) (Runs tb pg d) K (At tb d 363 K) [.aload 3, .bipush 0, .aload 0, .iload 1, .iload 2, .invokeinterface 153 3, .i2l, .lastore, .goto 21] ls st m := At.eq k363_0
theorem k363_15 : pg.1 363 15 = [.bipush 1, .ireturn] := rfl
theorem a363_15 {tb : Tab} {d : Nat} {K : Out → AM → Prop} {ls st : List AV} {m : AM} : At tb d 363 K 15 ls st m = wpB tb (pg.2.1 363) (Runs tb pg d) K (At tb d 363 K) [.bipush 1, .ireturn] ls st m := At.eq k363_15
theorem k363_19 : pg.1 363 19 = [.bipush 2, .ireturn] := rfl
theorem a363_19 {tb : Tab} {d : Nat} {K : Out → AM → Prop} {ls st : List AV} {m : AM} : At tb d 363 K 19 ls st m = wpB tb (pg.2.1 363) (Runs tb pg d) K (At tb d 363 K) [.bipush 2, .ireturn] ls st m := At.eq k363_19
theorem k363_21 : pg.1 363 21 = [.bipush 0, .ireturn] := rfl
theorem a363_21 {tb : Tab} {d : Nat} {K : Out → AM → Prop} {ls st : List AV} {m : AM} : At tb d 363 K 21 ls st m = wpB tb (pg.2.1 363) (Runs tb pg d) K (At tb d 363 K) [.bipush 0, .ireturn] ls st m := At.eq k363_21
theorem hs363_2 : pg.2.1 363 2 = some (4, 15) := rfl
theorem hs363_1 : pg.2.1 363 1 = some (4, 19) := rfl
theorem y_363 {a0 a1 : Int} {N : Nat} {bs : List AV} (hJ : JT tb 153 N [vr 0, vi a0, vi a1] bs True [(2, 1), (1, 2)] S m) : WT tb 363 N [vr 0, vi a0, vi a1, vr 316] bs S m := by
  intro d K hK
  refine Runs.of (al := [vr 0, vi a0, vi a1, vr 316]) (n := 1) trivial rfl rfl trivial ?_
  rw [a363_0]
  simp only [w_aload, w_iload, w_iconst, w_call, List.getElem?_cons_zero, List.getElem?_cons_succ, List.set_cons_zero, List.set_cons_succ, List.cons_append, List.nil_append, List.replicate_succ, List.replicate_zero, List.take_succ_cons, List.take_zero, List.drop_succ_cons, List.drop_zero, List.reverse_cons, List.reverse_nil, List.length_cons, List.length_nil, Option.toList, true_and, and_true, eq_self, ↓reduceIte, not_true_eq_false, not_false_eq_true, true_or, or_true, List.append_eq]
  refine ⟨⟨by omega, by omega⟩, hJ (d + 1) _ (fun v S1 m1 hr g nx => ?_) (fun E c S1 m1 he g nx => ?_)⟩
  · simp only [Option.toList, w_i2l, x_last isA_316x, len_316x, w_goto, Int.reduceToNat, a363_21, w_iconst, w_ireturn, List.getElem?_cons_zero, List.getElem?_cons_succ, List.set_cons_zero, List.set_cons_succ, List.cons_append, List.nil_append, List.replicate_succ, List.replicate_zero, List.take_succ_cons, List.take_zero, List.drop_succ_cons, List.drop_zero, List.reverse_cons, List.reverse_nil, List.length_cons, List.length_nil, Option.toList, true_and, and_true, eq_self, ↓reduceIte, not_true_eq_false, not_false_eq_true, true_or, or_true, List.append_eq]
    exact ⟨hr trivial, ⟨by decide, by decide⟩, hK 0 _ _ (by decide) (by decide) g (LRw_v hr nx)⟩
  · simp only [List.mem_cons, Prod.mk.injEq, List.not_mem_nil, or_false] at he
    rcases he with ⟨rfl, rfl⟩ | ⟨rfl, rfl⟩
    · simp only [hs363_2, a363_15, w_iconst, w_ireturn]
      exact hK 1 _ _ (by decide) (by decide) g (LRw_e (by decide) nx)
    · simp only [hs363_1, a363_19, w_iconst, w_ireturn]
      exact hK 2 _ _ (by decide) (by decide) g (LRw_e (by decide) nx)
theorem k364_0 : pg.1 364 0 = [.aload 3, .bipush 0, .aload 0, .iload 1, .iload 2, .invokeinterface 156 3, .i2l, .lastore, .goto 21] := rfl
theorem a364_0 {tb : Tab} {d : Nat} {K : Out → AM → Prop} {ls st : List AV} {m : AM} : At tb d 364 K 0 ls st m = wpB tb (pg.2.1 364) (Runs tb pg d) K (At tb d 364 K) [.aload 3, .bipush 0, .aload 0, .iload 1, .iload 2, .invokeinterface 156 3, .i2l, .lastore, .goto 21] ls st m := At.eq k364_0
theorem k364_15 : pg.1 364 15 = [.bipush 1, .ireturn] := rfl
theorem a364_15 {tb : Tab} {d : Nat} {K : Out → AM → Prop} {ls st : List AV} {m : AM} : At tb d 364 K 15 ls st m = wpB tb (pg.2.1 364) (Runs tb pg d) K (At tb d 364 K) [.bipush 1, .ireturn] ls st m := At.eq k364_15
theorem k364_19 : pg.1 364 19 = [.bipush 2, .ireturn] := rfl
theorem a364_19 {tb : Tab} {d : Nat} {K : Out → AM → Prop} {ls st : List AV} {m : AM} : At tb d 364 K 19 ls st m = wpB tb (pg.2.1 364) (Runs tb pg d) K (At tb d 364 K) [.bipush 2, .ireturn] ls st m := At.eq k364_19
theorem k364_21 : pg.1 364 21 = [.bipush 0, .ireturn] := rfl
theorem a364_21 {tb : Tab} {d : Nat} {K : Out → AM → Prop} {ls st : List AV} {m : AM} : At tb d 364 K 21 ls st m = wpB tb (pg.2.1 364) (Runs tb pg d) K (At tb d 364 K) [.bipush 0, .ireturn] ls st m := At.eq k364_21
theorem hs364_2 : pg.2.1 364 2 = some (4, 15) := rfl
theorem hs364_1 : pg.2.1 364 1 = some (4, 19) := rfl
theorem y_364 {a0 a1 : Int} {N : Nat} {bs : List AV} (hJ : JT tb 156 N [vr 0, vi a0, vi a1] bs True [(2, 1), (1, 2)] S m) : WT tb 364 N [vr 0, vi a0, vi a1, vr 316] bs S m := by
  intro d K hK
  refine Runs.of (al := [vr 0, vi a0, vi a1, vr 316]) (n := 1) trivial rfl rfl trivial ?_
  rw [a364_0]
  simp only [w_aload, w_iload, w_iconst, w_call, List.getElem?_cons_zero, List.getElem?_cons_succ, List.set_cons_zero, List.set_cons_succ, List.cons_append, List.nil_append, List.replicate_succ, List.replicate_zero, List.take_succ_cons, List.take_zero, List.drop_succ_cons, List.drop_zero, List.reverse_cons, List.reverse_nil, List.length_cons, List.length_nil, Option.toList, true_and, and_true, eq_self, ↓reduceIte, not_true_eq_false, not_false_eq_true, true_or, or_true, List.append_eq]
  refine ⟨⟨by omega, by omega⟩, hJ (d + 1) _ (fun v S1 m1 hr g nx => ?_) (fun E c S1 m1 he g nx => ?_)⟩
  · simp only [Option.toList, w_i2l, x_last isA_316x, len_316x, w_goto, Int.reduceToNat, a364_21, w_iconst, w_ireturn, List.getElem?_cons_zero, List.getElem?_cons_succ, List.set_cons_zero, List.set_cons_succ, List.cons_append, List.nil_append, List.replicate_succ, List.replicate_zero, List.take_succ_cons, List.take_zero, List.drop_succ_cons, List.drop_zero, List.reverse_cons, List.reverse_nil, List.length_cons, List.length_nil, Option.toList, true_and, and_true, eq_self, ↓reduceIte, not_true_eq_false, not_false_eq_true, true_or, or_true, List.append_eq]
    exact ⟨hr trivial, ⟨by decide, by decide⟩, hK 0 _ _ (by decide) (by decide) g (LRw_v hr nx)⟩
  · simp only [List.mem_cons, Prod.mk.injEq, List.not_mem_nil, or_false] at he
    rcases he with ⟨rfl, rfl⟩ | ⟨rfl, rfl⟩
    · simp only [hs364_2, a364_15, w_iconst, w_ireturn]
      exact hK 1 _ _ (by decide) (by decide) g (LRw_e (by decide) nx)
    · simp only [hs364_1, a364_19, w_iconst, w_ireturn]
      exact hK 2 _ _ (by decide) (by decide) g (LRw_e (by decide) nx)
theorem k365_0 : pg.1 365 0 = [.aload 1, .bipush 0, .aload 0, .invokeinterface 157 1, .i2l, .lastore, .goto 14] := rfl
theorem a365_0 {tb : Tab} {d : Nat} {K : Out → AM → Prop} {ls st : List AV} {m : AM} : At tb d 365 K 0 ls st m = wpB tb (pg.2.1 365) (Runs tb pg d) K (At tb d 365 K) [.aload 1, .bipush 0, .aload 0, .invokeinterface 157 1, .i2l, .lastore, .goto 14] ls st m := At.eq k365_0
theorem k365_12 : pg.1 365 12 = [.bipush 1, .ireturn] := rfl
theorem a365_12 {tb : Tab} {d : Nat} {K : Out → AM → Prop} {ls st : List AV} {m : AM} : At tb d 365 K 12 ls st m = wpB tb (pg.2.1 365) (Runs tb pg d) K (At tb d 365 K) [.bipush 1, .ireturn] ls st m := At.eq k365_12
theorem k365_14 : pg.1 365 14 = [.bipush 0, .ireturn] := rfl
theorem a365_14 {tb : Tab} {d : Nat} {K : Out → AM → Prop} {ls st : List AV} {m : AM} : At tb d 365 K 14 ls st m = wpB tb (pg.2.1 365) (Runs tb pg d) K (At tb d 365 K) [.bipush 0, .ireturn] ls st m := At.eq k365_14
theorem hs365_1 : pg.2.1 365 1 = some (2, 12) := rfl
theorem y_365 {N : Nat} {bs : List AV} (hJ : JT tb 157 N [vr 0] bs True [(1, 1)] S m) : WT tb 365 N [vr 0, vr 316] bs S m := by
  intro d K hK
  refine Runs.of (al := [vr 0, vr 316]) (n := 1) trivial rfl rfl trivial ?_
  rw [a365_0]
  simp only [w_aload, w_iload, w_iconst, w_call, List.getElem?_cons_zero, List.getElem?_cons_succ, List.set_cons_zero, List.set_cons_succ, List.cons_append, List.nil_append, List.replicate_succ, List.replicate_zero, List.take_succ_cons, List.take_zero, List.drop_succ_cons, List.drop_zero, List.reverse_cons, List.reverse_nil, List.length_cons, List.length_nil, Option.toList, true_and, and_true, eq_self, ↓reduceIte, not_true_eq_false, not_false_eq_true, true_or, or_true, List.append_eq]
  refine ⟨⟨by omega, by omega⟩, hJ (d + 1) _ (fun v S1 m1 hr g nx => ?_) (fun E c S1 m1 he g nx => ?_)⟩
  · simp only [Option.toList, w_i2l, x_last isA_316x, len_316x, w_goto, Int.reduceToNat, a365_14, w_iconst, w_ireturn, List.getElem?_cons_zero, List.getElem?_cons_succ, List.set_cons_zero, List.set_cons_succ, List.cons_append, List.nil_append, List.replicate_succ, List.replicate_zero, List.take_succ_cons, List.take_zero, List.drop_succ_cons, List.drop_zero, List.reverse_cons, List.reverse_nil, List.length_cons, List.length_nil, Option.toList, true_and, and_true, eq_self, ↓reduceIte, not_true_eq_false, not_false_eq_true, true_or, or_true, List.append_eq]
    exact ⟨hr trivial, ⟨by decide, by decide⟩, hK 0 _ _ (by decide) (by decide) g (LRw_v hr nx)⟩
  · simp only [List.mem_cons, Prod.mk.injEq, List.not_mem_nil, or_false] at he
    rcases he with ⟨rfl, rfl⟩
    · simp only [hs365_1, a365_12, w_iconst, w_ireturn]
      exact hK 1 _ _ (by decide) (by decide) g (LRw_e (by decide) nx)
theorem k366_0 : pg.1 366 0 = [.aload 1, .bipush 0, .aload 0, .invokeinterface 158 1, .i2l, .lastore, .goto 14] := rfl
theorem a366_0 {tb : Tab} {d : Nat} {K : Out → AM → Prop} {ls st : List AV} {m : AM} : At tb d 366 K 0 ls st m = wpB tb (pg.2.1 366) (Runs tb pg d) K (At tb d 366 K) [.aload 1, .bipush 0, .aload 0, .invokeinterface 158 1, .i2l, .lastore, .goto 14] ls st m := At.eq k366_0
theorem k366_12 : pg.1 366 12 = [.bipush 1, .ireturn] := rfl
theorem a366_12 {tb : Tab} {d : Nat} {K : Out → AM → Prop} {ls st : List AV} {m : AM} : At tb d 366 K 12 ls st m = wpB tb (pg.2.1 366) (Runs tb pg d) K (At tb d 366 K) [.bipush 1, .ireturn] ls st m := At.eq k366_12
theorem k366_14 : pg.1 366 14 = [.bipush 0, .ireturn] := rfl
theorem a366_14 {tb : Tab} {d : Nat} {K : Out → AM → Prop} {ls st : List AV} {m : AM} : At tb d 366 K 14 ls st m = wpB tb (pg.2.1 366) (Runs tb pg d) K (At tb d 366 K) [.bipush 0, .ireturn] ls st m := At.eq k366_14
theorem hs366_1 : pg.2.1 366 1 = some (2, 12) := rfl
theorem y_366 {N : Nat} {bs : List AV} (hJ : JT tb 158 N [vr 0] bs True [(1, 1)] S m) : WT tb 366 N [vr 0, vr 316] bs S m := by
  intro d K hK
  refine Runs.of (al := [vr 0, vr 316]) (n := 1) trivial rfl rfl trivial ?_
  rw [a366_0]
  simp only [w_aload, w_iload, w_iconst, w_call, List.getElem?_cons_zero, List.getElem?_cons_succ, List.set_cons_zero, List.set_cons_succ, List.cons_append, List.nil_append, List.replicate_succ, List.replicate_zero, List.take_succ_cons, List.take_zero, List.drop_succ_cons, List.drop_zero, List.reverse_cons, List.reverse_nil, List.length_cons, List.length_nil, Option.toList, true_and, and_true, eq_self, ↓reduceIte, not_true_eq_false, not_false_eq_true, true_or, or_true, List.append_eq]
  refine ⟨⟨by omega, by omega⟩, hJ (d + 1) _ (fun v S1 m1 hr g nx => ?_) (fun E c S1 m1 he g nx => ?_)⟩
  · simp only [Option.toList, w_i2l, x_last isA_316x, len_316x, w_goto, Int.reduceToNat, a366_14, w_iconst, w_ireturn, List.getElem?_cons_zero, List.getElem?_cons_succ, List.set_cons_zero, List.set_cons_succ, List.cons_append, List.nil_append, List.replicate_succ, List.replicate_zero, List.take_succ_cons, List.take_zero, List.drop_succ_cons, List.drop_zero, List.reverse_cons, List.reverse_nil, List.length_cons, List.length_nil, Option.toList, true_and, and_true, eq_self, ↓reduceIte, not_true_eq_false, not_false_eq_true, true_or, or_true, List.append_eq]
    exact ⟨hr trivial, ⟨by decide, by decide⟩, hK 0 _ _ (by decide) (by decide) g (LRw_v hr nx)⟩
  · simp only [List.mem_cons, Prod.mk.injEq, List.not_mem_nil, or_false] at he
    rcases he with ⟨rfl, rfl⟩
    · simp only [hs366_1, a366_12, w_iconst, w_ireturn]
      exact hK 1 _ _ (by decide) (by decide) g (LRw_e (by decide) nx)
theorem k367_0 : pg.1 367 0 = [.aload 1, .bipush 0, .aload 0, .invokeinterface 159 1, .i2l, .lastore, .goto 14] := rfl
theorem a367_0 {tb : Tab} {d : Nat} {K : Out → AM → Prop} {ls st : List AV} {m : AM} : At tb d 367 K 0 ls st m = wpB tb (pg.2.1 367) (Runs tb pg d) K (At tb d 367 K) [.aload 1, .bipush 0, .aload 0, .invokeinterface 159 1, .i2l, .lastore, .goto 14] ls st m := At.eq k367_0
theorem k367_12 : pg.1 367 12 = [.bipush 1, .ireturn] := rfl
theorem a367_12 {tb : Tab} {d : Nat} {K : Out → AM → Prop} {ls st : List AV} {m : AM} : At tb d 367 K 12 ls st m = wpB tb (pg.2.1 367) (Runs tb pg d) K (At tb d 367 K) [.bipush 1, .ireturn] ls st m := At.eq k367_12
theorem k367_14 : pg.1 367 14 = [.bipush 0, .ireturn] := rfl
theorem a367_14 {tb : Tab} {d : Nat} {K : Out → AM → Prop} {ls st : List AV} {m : AM} : At tb d 367 K 14 ls st m = wpB tb (pg.2.1 367) (Runs tb pg d) K (At tb d 367 K) [.bipush 0, .ireturn] ls st m := At.eq k367_14
theorem hs367_1 : pg.2.1 367 1 = some (2, 12) := rfl
theorem y_367 {N : Nat} {bs : List AV} (hJ : JT tb 159 N [vr 0] bs True [(1, 1)] S m) : WT tb 367 N [vr 0, vr 316] bs S m := by
  intro d K hK
  refine Runs.of (al := [vr 0, vr 316]) (n := 1) trivial rfl rfl trivial ?_
  rw [a367_0]
  simp only [w_aload, w_iload, w_iconst, w_call, List.getElem?_cons_zero, List.getElem?_cons_succ, List.set_cons_zero, List.set_cons_succ, List.cons_append, List.nil_append, List.replicate_succ, List.replicate_zero, List.take_succ_cons, List.take_zero, List.drop_succ_cons, List.drop_zero, List.reverse_cons, List.reverse_nil, List.length_cons, List.length_nil, Option.toList, true_and, and_true, eq_self, ↓reduceIte, not_true_eq_false, not_false_eq_true, true_or, or_true, List.append_eq]
  refine ⟨⟨by omega, by omega⟩, hJ (d + 1) _ (fun v S1 m1 hr g nx => ?_) (fun E c S1 m1 he g nx => ?_)⟩
  · simp only [Option.toList, w_i2l, x_last isA_316x, len_316x, w_goto, Int.reduceToNat, a367_14, w_iconst, w_ireturn, List.getElem?_cons_zero, List.getElem?_cons_succ, List.set_cons_zero, List.set_cons_succ, List.cons_append, List.nil_append, List.replicate_succ, List.replicate_zero, List.take_succ_cons, List.take_zero, List.drop_succ_cons, List.drop_zero, List.reverse_cons, List.reverse_nil, List.length_cons, List.length_nil, Option.toList, true_and, and_true, eq_self, ↓reduceIte, not_true_eq_false, not_false_eq_true, true_or, or_true, List.append_eq]
    exact ⟨hr trivial, ⟨by decide, by decide⟩, hK 0 _ _ (by decide) (by decide) g (LRw_v hr nx)⟩
  · simp only [List.mem_cons, Prod.mk.injEq, List.not_mem_nil, or_false] at he
    rcases he with ⟨rfl, rfl⟩
    · simp only [hs367_1, a367_12, w_iconst, w_ireturn]
      exact hK 1 _ _ (by decide) (by decide) g (LRw_e (by decide) nx)
theorem k368_0 : pg.1 368 0 = [.aload 3, .bipush 0, .aload 0, .iload 1, .iload 2, .invokeinterface 162 3, .i2l, .lastore, .goto 17] := rfl
theorem a368_0 {tb : Tab} {d : Nat} {K : Out → AM → Prop} {ls st : List AV} {m : AM} : At tb d 368 K 0 ls st m = wpB tb (pg.2.1 368) (Runs tb pg d) K (At tb d 368 K) [.aload 3, .bipush 0, .aload 0, .iload 1, .iload 2, .invokeinterface 162 3, .i2l, .lastore, .goto 17] ls st m := At.eq k368_0
theorem k368_15 : pg.1 368 15 = [.bipush 1, .ireturn] := rfl
theorem a368_15 {tb : Tab} {d : Nat} {K : Out → AM → Prop} {ls st : List AV} {m : AM} : At tb d 368 K 15 ls st m = wpB tb (pg.2.1 368) (Runs tb pg d) K (At tb d 368 K) [.bipush 1, .ireturn] ls st m := At.eq k368_15
theorem k368_17 : pg.1 368 17 = [.bipush 0, .ireturn] := rfl
theorem a368_17 {tb : Tab} {d : Nat} {K : Out → AM → Prop} {ls st : List AV} {m : AM} : At tb d 368 K 17 ls st m = wpB tb (pg.2.1 368) (Runs tb pg d) K (At tb d 368 K) [.bipush 0, .ireturn] ls st m := At.eq k368_17
theorem hs368_2 : pg.2.1 368 2 = some (4, 15) := rfl
theorem y_368 {a0 a1 : Int} {N : Nat} {bs : List AV} (hJ : JT tb 162 N [vr 0, vi a0, vi a1] bs True [(2, 1)] S m) : WT tb 368 N [vr 0, vi a0, vi a1, vr 316] bs S m := by
  intro d K hK
  refine Runs.of (al := [vr 0, vi a0, vi a1, vr 316]) (n := 1) trivial rfl rfl trivial ?_
  rw [a368_0]
  simp only [w_aload, w_iload, w_iconst, w_call, List.getElem?_cons_zero, List.getElem?_cons_succ, List.set_cons_zero, List.set_cons_succ, List.cons_append, List.nil_append, List.replicate_succ, List.replicate_zero, List.take_succ_cons, List.take_zero, List.drop_succ_cons, List.drop_zero, List.reverse_cons, List.reverse_nil, List.length_cons, List.length_nil, Option.toList, true_and, and_true, eq_self, ↓reduceIte, not_true_eq_false, not_false_eq_true, true_or, or_true, List.append_eq]
  refine ⟨⟨by omega, by omega⟩, hJ (d + 1) _ (fun v S1 m1 hr g nx => ?_) (fun E c S1 m1 he g nx => ?_)⟩
  · simp only [Option.toList, w_i2l, x_last isA_316x, len_316x, w_goto, Int.reduceToNat, a368_17, w_iconst, w_ireturn, List.getElem?_cons_zero, List.getElem?_cons_succ, List.set_cons_zero, List.set_cons_succ, List.cons_append, List.nil_append, List.replicate_succ, List.replicate_zero, List.take_succ_cons, List.take_zero, List.drop_succ_cons, List.drop_zero, List.reverse_cons, List.reverse_nil, List.length_cons, List.length_nil, Option.toList, true_and, and_true, eq_self, ↓reduceIte, not_true_eq_false, not_false_eq_true, true_or, or_true, List.append_eq]
    exact ⟨hr trivial, ⟨by decide, by decide⟩, hK 0 _ _ (by decide) (by decide) g (LRw_v hr nx)⟩
  · simp only [List.mem_cons, Prod.mk.injEq, List.not_mem_nil, or_false] at he
    rcases he with ⟨rfl, rfl⟩
    · simp only [hs368_2, a368_15, w_iconst, w_ireturn]
      exact hK 1 _ _ (by decide) (by decide) g (LRw_e (by decide) nx)
theorem k369_0 : pg.1 369 0 = [.aload 3, .bipush 0, .aload 0, .iload 1, .iload 2, .invokeinterface 163 3, .ifCond .eq 15, .sipush 1, .goto 16] := rfl
theorem a369_0 {tb : Tab} {d : Nat} {K : Out → AM → Prop} {ls st : List AV} {m : AM} : At tb d 369 K 0 ls st m = wpB tb (pg.2.1 369) (Runs tb pg d) K (At tb d 369 K) [.aload 3, .bipush 0, .aload 0, .iload 1, .iload 2, .invokeinterface 163 3, .ifCond .eq 15, .sipush 1, .goto 16] ls st m := At.eq k369_0
theorem k369_15 : pg.1 369 15 = [.sipush 0, .jsr 16] := rfl
theorem a369_15 {tb : Tab} {d : Nat} {K : Out → AM → Prop} {ls st : List AV} {m : AM} : At tb d 369 K 15 ls st m = wpB tb (pg.2.1 369) (Runs tb pg d) K (At tb d 369 K) [.sipush 0, .jsr 16] ls st m := At.eq k369_15
theorem k369_16 : pg.1 369 16 = [.lastore, .goto 24] := rfl
theorem a369_16 {tb : Tab} {d : Nat} {K : Out → AM → Prop} {ls st : List AV} {m : AM} : At tb d 369 K 16 ls st m = wpB tb (pg.2.1 369) (Runs tb pg d) K (At tb d 369 K) [.lastore, .goto 24] ls st m := At.eq k369_16
theorem k369_22 : pg.1 369 22 = [.bipush 1, .ireturn] := rfl
theorem a369_22 {tb : Tab} {d : Nat} {K : Out → AM → Prop} {ls st : List AV} {m : AM} : At tb d 369 K 22 ls st m = wpB tb (pg.2.1 369) (Runs tb pg d) K (At tb d 369 K) [.bipush 1, .ireturn] ls st m := At.eq k369_22
theorem k369_24 : pg.1 369 24 = [.bipush 0, .ireturn] := rfl
theorem a369_24 {tb : Tab} {d : Nat} {K : Out → AM → Prop} {ls st : List AV} {m : AM} : At tb d 369 K 24 ls st m = wpB tb (pg.2.1 369) (Runs tb pg d) K (At tb d 369 K) [.bipush 0, .ireturn] ls st m := At.eq k369_24
theorem hs369_2 : pg.2.1 369 2 = some (4, 22) := rfl
theorem y_369 {a0 a1 : Int} {N : Nat} {bs : List AV} (hJ : JT tb 163 N [vr 0, vi a0, vi a1] bs True [(2, 1)] S m) : WTm tb 369 N [vr 0, vi a0, vi a1, vr 316] bs S m := by
  intro d K hK
  refine Runs.of (al := [vr 0, vi a0, vi a1, vr 316]) (n := 1) trivial rfl rfl trivial ?_
  rw [a369_0]
  simp only [w_aload, w_iload, w_iconst, w_call, List.getElem?_cons_zero, List.getElem?_cons_succ, List.set_cons_zero, List.set_cons_succ, List.cons_append, List.nil_append, List.replicate_succ, List.replicate_zero, List.take_succ_cons, List.take_zero, List.drop_succ_cons, List.drop_zero, List.reverse_cons, List.reverse_nil, List.length_cons, List.length_nil, Option.toList, true_and, and_true, eq_self, ↓reduceIte, not_true_eq_false, not_false_eq_true, true_or, or_true, List.append_eq]
  refine ⟨⟨by omega, by omega⟩, hJ (d + 1) _ (fun v S1 m1 hr g nx => ?_) (fun E c S1 m1 he g nx => ?_)⟩
  · simp only [Option.toList, w_if, cI, Int.reduceToNat, a369_15, w_lconst, w_fall, w_goto, a369_16, x_last isA_316x, len_316x, a369_24, w_iconst, w_ireturn, List.getElem?_cons_zero, List.getElem?_cons_succ, List.set_cons_zero, List.set_cons_succ, List.cons_append, List.nil_append, List.replicate_succ, List.replicate_zero, List.take_succ_cons, List.take_zero, List.drop_succ_cons, List.drop_zero, List.reverse_cons, List.reverse_nil, List.length_cons, List.length_nil, Option.toList, true_and, and_true, eq_self, ↓reduceIte, not_true_eq_false, not_false_eq_true, true_or, or_true, List.append_eq]
    refine ⟨hr trivial, fun z => ⟨⟨by decide, by decide⟩, hK 0 _ _ (by decide) (by decide) g (LRm_v (w := 0) hr (fun b e => by rw [e, z]; rfl) nx)⟩, fun z => ⟨⟨by decide, by decide⟩, hK 0 _ _ (by decide) (by decide) g (LRm_v (w := 1) hr (fun b e => by rw [e]; exact (if_neg z).symm) nx)⟩⟩
  · simp only [List.mem_cons, Prod.mk.injEq, List.not_mem_nil, or_false] at he
    rcases he with ⟨rfl, rfl⟩
    · simp only [hs369_2, a369_22, w_iconst, w_ireturn]
      exact hK 1 _ _ (by decide) (by decide) g (LRm_e (by decide) nx)
theorem k370_0 : pg.1 370 0 = [.aload 4, .bipush 0, .aload 0, .iload 1, .iload 2, .iload 3, .invokeinterface 165 4, .i2l, .lastore, .goto 23] := rfl
theorem a370_0 {tb : Tab} {d : Nat} {K : Out → AM → Prop} {ls st : List AV} {m : AM} : At tb d 370 K 0 ls st m = wpB tb (pg.2.1 370) (Runs tb pg d) K (At tb d 370 K) [.aload 4, .bipush 0, .aload 0, .iload 1, .iload 2, .iload 3, .invokeinterface 165 4, .i2l, .lastore, .goto 23] ls st m := At.eq k370_0
theorem k370_17 : pg.1 370 17 = [.bipush 1, .ireturn] := rfl
theorem a370_17 {tb : Tab} {d : Nat} {K : Out → AM → Prop} {ls st : List AV} {m : AM} : At tb d 370 K 17 ls st m = wpB tb (pg.2.1 370) (Runs tb pg d) K (At tb d 370 K) [.bipush 1, .ireturn] ls st m := At.eq k370_17
theorem k370_21 : pg.1 370 21 = [.bipush 2, .ireturn] := rfl
theorem a370_21 {tb : Tab} {d : Nat} {K : Out → AM → Prop} {ls st : List AV} {m : AM} : At tb d 370 K 21 ls st m = wpB tb (pg.2.1 370) (Runs tb pg d) K (At tb d 370 K) [.bipush 2, .ireturn] ls st m := At.eq k370_21
theorem k370_23 : pg.1 370 23 = [.bipush 0, .ireturn] := rfl
theorem a370_23 {tb : Tab} {d : Nat} {K : Out → AM → Prop} {ls st : List AV} {m : AM} : At tb d 370 K 23 ls st m = wpB tb (pg.2.1 370) (Runs tb pg d) K (At tb d 370 K) [.bipush 0, .ireturn] ls st m := At.eq k370_23
theorem hs370_2 : pg.2.1 370 2 = some (5, 17) := rfl
theorem hs370_1 : pg.2.1 370 1 = some (5, 21) := rfl
theorem y_370 {a0 a1 a2 : Int} {N : Nat} {bs : List AV} (hJ : JT tb 165 N [vr 0, vi a0, vi a1, vi a2] bs True [(2, 1), (1, 2)] S m) : WT tb 370 N [vr 0, vi a0, vi a1, vi a2, vr 316] bs S m := by
  intro d K hK
  refine Runs.of (al := [vr 0, vi a0, vi a1, vi a2, vr 316]) (n := 1) trivial rfl rfl trivial ?_
  rw [a370_0]
  simp only [w_aload, w_iload, w_iconst, w_call, List.getElem?_cons_zero, List.getElem?_cons_succ, List.set_cons_zero, List.set_cons_succ, List.cons_append, List.nil_append, List.replicate_succ, List.replicate_zero, List.take_succ_cons, List.take_zero, List.drop_succ_cons, List.drop_zero, List.reverse_cons, List.reverse_nil, List.length_cons, List.length_nil, Option.toList, true_and, and_true, eq_self, ↓reduceIte, not_true_eq_false, not_false_eq_true, true_or, or_true, List.append_eq]
  refine ⟨⟨by omega, by omega⟩, hJ (d + 1) _ (fun v S1 m1 hr g nx => ?_) (fun E c S1 m1 he g nx => ?_)⟩
  · simp only [Option.toList, w_i2l, x_last isA_316x, len_316x, w_goto, Int.reduceToNat, a370_23, w_iconst, w_ireturn, List.getElem?_cons_zero, List.getElem?_cons_succ, List.set_cons_zero, List.set_cons_succ, List.cons_append, List.nil_append, List.replicate_succ, List.replicate_zero, List.take_succ_cons, List.take_zero, List.drop_succ_cons, List.drop_zero, List.reverse_cons, List.reverse_nil, List.length_cons, List.length_nil, Option.toList, true_and, and_true, eq_self, ↓reduceIte, not_true_eq_false, not_false_eq_true, true_or, or_true, List.append_eq]
    exact ⟨hr trivial, ⟨by decide, by decide⟩, hK 0 _ _ (by decide) (by decide) g (LRw_v hr nx)⟩
  · simp only [List.mem_cons, Prod.mk.injEq, List.not_mem_nil, or_false] at he
    rcases he with ⟨rfl, rfl⟩ | ⟨rfl, rfl⟩
    · simp only [hs370_2, a370_17, w_iconst, w_ireturn]
      exact hK 1 _ _ (by decide) (by decide) g (LRw_e (by decide) nx)
    · simp only [hs370_1, a370_21, w_iconst, w_ireturn]
      exact hK 2 _ _ (by decide) (by decide) g (LRw_e (by decide) nx)
theorem k371_0 : pg.1 371 0 = [.aload 2, .bipush 0, .aload 0, .iload 1, .invokeinterface 166 2, .i2l, .lastore, .goto 15] := rfl
theorem a371_0 {tb : Tab} {d : Nat} {K : Out → AM → Prop} {ls st : List AV} {m : AM} : At tb d 371 K 0 ls st m = wpB tb (pg.2.1 371) (Runs tb pg d) K (At tb d 371 K) [.aload 2, .bipush 0, .aload 0, .iload 1, .invokeinterface 166 2, .i2l, .lastore, .goto 15] ls st m := At.eq k371_0
theorem k371_13 : pg.1 371 13 = [.bipush 1, .ireturn] := rfl
theorem a371_13 {tb : Tab} {d : Nat} {K : Out → AM → Prop} {ls st : List AV} {m : AM} : At tb d 371 K 13 ls st m = wpB tb (pg.2.1 371) (Runs tb pg d) K (At tb d 371 K) [.bipush 1, .ireturn] ls st m := At.eq k371_13
theorem k371_15 : pg.1 371 15 = [.bipush 0, .ireturn] := rfl
theorem a371_15 {tb : Tab} {d : Nat} {K : Out → AM → Prop} {ls st : List AV} {m : AM} : At tb d 371 K 15 ls st m = wpB tb (pg.2.1 371) (Runs tb pg d) K (At tb d 371 K) [.bipush 0, .ireturn] ls st m := At.eq k371_15
theorem hs371_2 : pg.2.1 371 2 = some (3, 13) := rfl
theorem y_371 {a0 : Int} {N : Nat} {bs : List AV} (hJ : JT tb 166 N [vr 0, vi a0] bs True [(2, 1)] S m) : WT tb 371 N [vr 0, vi a0, vr 316] bs S m := by
  intro d K hK
  refine Runs.of (al := [vr 0, vi a0, vr 316]) (n := 1) trivial rfl rfl trivial ?_
  rw [a371_0]
  simp only [w_aload, w_iload, w_iconst, w_call, List.getElem?_cons_zero, List.getElem?_cons_succ, List.set_cons_zero, List.set_cons_succ, List.cons_append, List.nil_append, List.replicate_succ, List.replicate_zero, List.take_succ_cons, List.take_zero, List.drop_succ_cons, List.drop_zero, List.reverse_cons, List.reverse_nil, List.length_cons, List.length_nil, Option.toList, true_and, and_true, eq_self, ↓reduceIte, not_true_eq_false, not_false_eq_true, true_or, or_true, List.append_eq]
  refine ⟨⟨by omega, by omega⟩, hJ (d + 1) _ (fun v S1 m1 hr g nx => ?_) (fun E c S1 m1 he g nx => ?_)⟩
  · simp only [Option.toList, w_i2l, x_last isA_316x, len_316x, w_goto, Int.reduceToNat, a371_15, w_iconst, w_ireturn, List.getElem?_cons_zero, List.getElem?_cons_succ, List.set_cons_zero, List.set_cons_succ, List.cons_append, List.nil_append, List.replicate_succ, List.replicate_zero, List.take_succ_cons, List.take_zero, List.drop_succ_cons, List.drop_zero, List.reverse_cons, List.reverse_nil, List.length_cons, List.length_nil, Option.toList, true_and, and_true, eq_self, ↓reduceIte, not_true_eq_false, not_false_eq_true, true_or, or_true, List.append_eq]
    exact ⟨hr trivial, ⟨by decide, by decide⟩, hK 0 _ _ (by decide) (by decide) g (LRw_v hr nx)⟩
  · simp only [List.mem_cons, Prod.mk.injEq, List.not_mem_nil, or_false] at he
    rcases he with ⟨rfl, rfl⟩
    · simp only [hs371_2, a371_13, w_iconst, w_ireturn]
      exact hK 1 _ _ (by decide) (by decide) g (LRw_e (by decide) nx)
theorem k372_0 : pg.1 372 0 = [.aload 3, .bipush 0, .aload 0, .iload 1, .iload 2, .invokeinterface 175 3, .i2l, .lastore, .goto 21] := rfl
theorem a372_0 {tb : Tab} {d : Nat} {K : Out → AM → Prop} {ls st : List AV} {m : AM} : At tb d 372 K 0 ls st m = wpB tb (pg.2.1 372) (Runs tb pg d) K (At tb d 372 K) [.aload 3, .bipush 0, .aload 0, .iload 1, .iload 2, .invokeinterface 175 3, .i2l, .lastore, .goto 21] ls st m := At.eq k372_0
theorem k372_15 : pg.1 372 15 = [.bipush 1, .ireturn] := rfl
theorem a372_15 {tb : Tab} {d : Nat} {K : Out → AM → Prop} {ls st : List AV} {m : AM} : At tb d 372 K 15 ls st m = wpB tb (pg.2.1 372) (Runs tb pg d) K (At tb d 372 K) [.bipush 1, .ireturn] ls st m := At.eq k372_15
theorem k372_19 : pg.1 372 19 = [.bipush 2, .ireturn] := rfl
theorem a372_19 {tb : Tab} {d : Nat} {K : Out → AM → Prop} {ls st : List AV} {m : AM} : At tb d 372 K 19 ls st m = wpB tb (pg.2.1 372) (Runs tb pg d) K (At tb d 372 K) [.bipush 2, .ireturn] ls st m := At.eq k372_19
theorem k372_21 : pg.1 372 21 = [.bipush 0, .ireturn] := rfl
theorem a372_21 {tb : Tab} {d : Nat} {K : Out → AM → Prop} {ls st : List AV} {m : AM} : At tb d 372 K 21 ls st m = wpB tb (pg.2.1 372) (Runs tb pg d) K (At tb d 372 K) [.bipush 0, .ireturn] ls st m := At.eq k372_21
theorem hs372_2 : pg.2.1 372 2 = some (4, 15) := rfl
theorem hs372_1 : pg.2.1 372 1 = some (4, 19) := rfl
theorem y_372 {a0 a1 : Int} {N : Nat} {bs : List AV} (hJ : JT tb 175 N [vr 0, vi a0, vi a1] bs True [(2, 1), (1, 2)] S m) : WT tb 372 N [vr 0, vi a0, vi a1, vr 316] bs S m := by
  intro d K hK
  refine Runs.of (al := [vr 0, vi a0, vi a1, vr 316]) (n := 1) trivial rfl rfl trivial ?_
  rw [a372_0]
  simp only [w_aload, w_iload, w_iconst, w_call, List.getElem?_cons_zero, List.getElem?_cons_succ, List.set_cons_zero, List.set_cons_succ, List.cons_append, List.nil_append, List.replicate_succ, List.replicate_zero, List.take_succ_cons, List.take_zero, List.drop_succ_cons, List.drop_zero, List.reverse_cons, List.reverse_nil, List.length_cons, List.length_nil, Option.toList, true_and, and_true, eq_self, ↓reduceIte, not_true_eq_false, not_false_eq_true, true_or, or_true, List.append_eq]
  refine ⟨⟨by omega, by omega⟩, hJ (d + 1) _ (fun v S1 m1 hr g nx => ?_) (fun E c S1 m1 he g nx => ?_)⟩
  · simp only [Option.toList, w_i2l, x_last isA_316x, len_316x, w_goto, Int.reduceToNat, a372_21, w_iconst, w_ireturn, List.getElem?_cons_zero, List.getElem?_cons_succ, List.set_cons_zero, List.set_cons_succ, List.cons_append, List.nil_append, List.replicate_succ, List.replicate_zero, List.take_succ_cons, List.take_zero, List.drop_succ_cons, List.drop_zero, List.reverse_cons, List.reverse_nil, List.length_cons, List.length_nil, Option.toList, true_and, and_true, eq_self, ↓reduceIte, not_true_eq_false, not_false_eq_true, true_or, or_true, List.append_eq]
    exact ⟨hr trivial, ⟨by decide, by decide⟩, hK 0 _ _ (by decide) (by decide) g (LRw_v hr nx)⟩
  · simp only [List.mem_cons, Prod.mk.injEq, List.not_mem_nil, or_false] at he
    rcases he with ⟨rfl, rfl⟩ | ⟨rfl, rfl⟩
    · simp only [hs372_2, a372_15, w_iconst, w_ireturn]
      exact hK 1 _ _ (by decide) (by decide) g (LRw_e (by decide) nx)
    · simp only [hs372_1, a372_19, w_iconst, w_ireturn]
      exact hK 2 _ _ (by decide) (by decide) g (LRw_e (by decide) nx)
theorem k373_0 : pg.1 373 0 = [.aload 3, .bipush 0, .aload 0, .iload 1, .iload 2, .invokeinterface 177 3, .i2l, .lastore, .goto 17] := rfl
theorem a373_0 {tb : Tab} {d : Nat} {K : Out → AM → Prop} {ls st : List AV} {m : AM} : At tb d 373 K 0 ls st m = wpB tb (pg.2.1 373) (Runs tb pg d) K (At tb d 373 K) [.aload 3, .bipush 0, .aload 0, .iload 1, .iload 2, .invokeinterface 177 3, .i2l, .lastore, .goto 17] ls st m := At.eq k373_0
theorem k373_15 : pg.1 373 15 = [.bipush 1, .ireturn] := rfl
theorem a373_15 {tb : Tab} {d : Nat} {K : Out → AM → Prop} {ls st : List AV} {m : AM} : At tb d 373 K 15 ls st m = wpB tb (pg.2.1 373) (Runs tb pg d) K (At tb d 373 K) [.bipush 1, .ireturn] ls st m := At.eq k373_15
theorem k373_17 : pg.1 373 17 = [.bipush 0, .ireturn] := rfl
theorem a373_17 {tb : Tab} {d : Nat} {K : Out → AM → Prop} {ls st : List AV} {m : AM} : At tb d 373 K 17 ls st m = wpB tb (pg.2.1 373) (Runs tb pg d) K (At tb d 373 K) [.bipush 0, .ireturn] ls st m := At.eq k373_17
theorem hs373_2 : pg.2.1 373 2 = some (4, 15) := rfl
theorem y_373 {a0 a1 : Int} {N : Nat} {bs : List AV} (hJ : JT tb 177 N [vr 0, vi a0, vi a1] bs True [(2, 1)] S m) : WT tb 373 N [vr 0, vi a0, vi a1, vr 316] bs S m := by
  intro d K hK
  refine Runs.of (al := [vr 0, vi a0, vi a1, vr 316]) (n := 1) trivial rfl rfl trivial ?_
  rw [a373_0]
  simp only [w_aload, w_iload, w_iconst, w_call, List.getElem?_cons_zero, List.getElem?_cons_succ, List.set_cons_zero, List.set_cons_succ, List.cons_append, List.nil_append, List.replicate_succ, List.replicate_zero, List.take_succ_cons, List.take_zero, List.drop_succ_cons, List.drop_zero, List.reverse_cons, List.reverse_nil, List.length_cons, List.length_nil, Option.toList, true_and, and_true, eq_self, ↓reduceIte, not_true_eq_false, not_false_eq_true, true_or, or_true, List.append_eq]
  refine ⟨⟨by omega, by omega⟩, hJ (d + 1) _ (fun v S1 m1 hr g nx => ?_) (fun E c S1 m1 he g nx => ?_)⟩
  · simp only [Option.toList, w_i2l, x_last isA_316x, len_316x, w_goto, Int.reduceToNat, a373_17, w_iconst, w_ireturn, List.getElem?_cons_zero, List.getElem?_cons_succ, List.set_cons_zero, List.set_cons_succ, List.cons_append, List.nil_append, List.replicate_succ, List.replicate_zero, List.take_succ_cons, List.take_zero, List.drop_succ_cons, List.drop_zero, List.reverse_cons, List.reverse_nil, List.length_cons, List.length_nil, Option.toList, true_and, and_true, eq_self, ↓reduceIte, not_true_eq_false, not_false_eq_true, true_or, or_true, List.append_eq]
    exact ⟨hr trivial, ⟨by decide, by decide⟩, hK 0 _ _ (by decide) (by decide) g (LRw_v hr nx)⟩
  · simp only [List.mem_cons, Prod.mk.injEq, List.not_mem_nil, or_false] at he
    rcases he with ⟨rfl, rfl⟩
    · simp only [hs373_2, a373_15, w_iconst, w_ireturn]
      exact hK 1 _ _ (by decide) (by decide) g (LRw_e (by decide) nx)
theorem k374_0 : pg.1 374 0 = [.aload 3, .bipush 0, .aload 0, .iload 1, .iload 2, .invokeinterface 180 3, .i2l, .lastore, .goto 17] := rfl
theorem a374_0 {tb : Tab} {d : Nat} {K : Out → AM → Prop} {ls st : List AV} {m : AM} : At tb d 374 K 0 ls st m = wpB tb (pg.2.1 374) (Runs tb pg d) K (At tb d 374 K) [.aload 3, .bipush 0, .aload 0, .iload 1, .iload 2, .invokeinterface 180 3, .i2l, .lastore, .goto 17] ls st m := At.eq k374_0
theorem k374_15 : pg.1 374 15 = [.bipush 1, .ireturn] := rfl
theorem a374_15 {tb : Tab} {d : Nat} {K : Out → AM → Prop} {ls st : List AV} {m : AM} : At tb d 374 K 15 ls st m = wpB tb (pg.2.1 374) (Runs tb pg d) K (At tb d 374 K) [.bipush 1, .ireturn] ls st m := At.eq k374_15
theorem k374_17 : pg.1 374 17 = [.bipush 0, .ireturn] := rfl
theorem a374_17 {tb : Tab} {d : Nat} {K : Out → AM → Prop} {ls st : List AV} {m : AM} : At tb d 374 K 17 ls st m = wpB tb (pg.2.1 374) (Runs tb pg d) K (At tb d 374 K) [.bipush 0, .ireturn] ls st m := At.eq k374_17
theorem hs374_1 : pg.2.1 374 1 = some (4, 15) := rfl
theorem y_374 {a0 a1 : Int} {N : Nat} {bs : List AV} (hJ : JT tb 180 N [vr 0, vi a0, vi a1] bs True [(1, 1)] S m) : WT tb 374 N [vr 0, vi a0, vi a1, vr 316] bs S m := by
  intro d K hK
  refine Runs.of (al := [vr 0, vi a0, vi a1, vr 316]) (n := 1) trivial rfl rfl trivial ?_
  rw [a374_0]
  simp only [w_aload, w_iload, w_iconst, w_call, List.getElem?_cons_zero, List.getElem?_cons_succ, List.set_cons_zero, List.set_cons_succ, List.cons_append, List.nil_append, List.replicate_succ, List.replicate_zero, List.take_succ_cons, List.take_zero, List.drop_succ_cons, List.drop_zero, List.reverse_cons, List.reverse_nil, List.length_cons, List.length_nil, Option.toList, true_and, and_true, eq_self, ↓reduceIte, not_true_eq_false, not_false_eq_true, true_or, or_true, List.append_eq]
  refine ⟨⟨by omega, by omega⟩, hJ (d + 1) _ (fun v S1 m1 hr g nx => ?_) (fun E c S1 m1 he g nx => ?_)⟩
  · simp only [Option.toList, w_i2l, x_last isA_316x, len_316x, w_goto, Int.reduceToNat, a374_17, w_iconst, w_ireturn, List.getElem?_cons_zero, List.getElem?_cons_succ, List.set_cons_zero, List.set_cons_succ, List.cons_append, List.nil_append, List.replicate_succ, List.replicate_zero, List.take_succ_cons, List.take_zero, List.drop_succ_cons, List.drop_zero, List.reverse_cons, List.reverse_nil, List.length_cons, List.length_nil, Option.toList, true_and, and_true, eq_self, ↓reduceIte, not_true_eq_false, not_false_eq_true, true_or, or_true, List.append_eq]
    exact ⟨hr trivial, ⟨by decide, by decide⟩, hK 0 _ _ (by decide) (by decide) g (LRw_v hr nx)⟩
  · simp only [List.mem_cons, Prod.mk.injEq, List.not_mem_nil, or_false] at he
    rcases he with ⟨rfl, rfl⟩
    · simp only [hs374_1, a374_15, w_iconst, w_ireturn]
      exact hK 1 _ _ (by decide) (by decide) g (LRw_e (by decide) nx)
theorem k375_0 : pg.1 375 0 = [.aload 2, .bipush 0, .aload 0, .iload 1, .invokeinterface 181 2, .i2l, .lastore, .goto 15] := rfl
theorem a375_0 {tb : Tab} {d : Nat} {K : Out → AM → Prop} {ls st : List AV} {m : AM} : At tb d 375 K 0 ls st m = wpB tb (pg.2.1 375) (Runs tb pg d) K (At tb d 375 K) [.aload 2, .bipush 0, .aload 0, .iload 1, .invokeinterface 181 2, .i2l, .lastore, .goto 15] ls st m := At.eq k375_0
theorem k375_13 : pg.1 375 13 = [.bipush 1, .ireturn] := rfl
theorem a375_13 {tb : Tab} {d : Nat} {K : Out → AM → Prop} {ls st : List AV} {m : AM} : At tb d 375 K 13 ls st m = wpB tb (pg.2.1 375) (Runs tb pg d) K (At tb d 375 K) [.bipush 1, .ireturn] ls st m := At.eq k375_13
theorem k375_15 : pg.1 375 15 = [.bipush 0, .ireturn] := rfl
theorem a375_15 {tb : Tab} {d : Nat} {K : Out → AM → Prop} {ls st : List AV} {m : AM} : At tb d 375 K 15 ls st m = wpB tb (pg.2.1 375) (Runs tb pg d) K (At tb d 375 K) [.bipush 0, .ireturn] ls st m := At.eq k375_15
theorem hs375_4 : pg.2.1 375 4 = some (3, 13) := rfl
theorem y_375 {a0 : Int} {N : Nat} {bs : List AV} (hJ : JT tb 181 N [vr 0, vi a0] bs True [(4, 1)] S m) : WT tb 375 N [vr 0, vi a0, vr 316] bs S m := by
  intro d K hK
  refine Runs.of (al := [vr 0, vi a0, vr 316]) (n := 1) trivial rfl rfl trivial ?_
  rw [a375_0]
  simp only [w_aload, w_iload, w_iconst, w_call, List.getElem?_cons_zero, List.getElem?_cons_succ, List.set_cons_zero, List.set_cons_succ, List.cons_append, List.nil_append, List.replicate_succ, List.replicate_zero, List.take_succ_cons, List.take_zero, List.drop_succ_cons, List.drop_zero, List.reverse_cons, List.reverse_nil, List.length_cons, List.length_nil, Option.toList, true_and, and_true, eq_self, ↓reduceIte, not_true_eq_false, not_false_eq_true, true_or, or_true, List.append_eq]
  refine ⟨⟨by omega, by omega⟩, hJ (d + 1) _ (fun v S1 m1 hr g nx => ?_) (fun E c S1 m1 he g nx => ?_)⟩
  · simp only [Option.toList, w_i2l, x_last isA_316x, len_316x, w_goto, Int.reduceToNat, a375_15, w_iconst, w_ireturn, List.getElem?_cons_zero, List.getElem?_cons_succ, List.set_cons_zero, List.set_cons_succ, List.cons_append, List.nil_append, List.replicate_succ, List.replicate_zero, List.take_succ_cons, List.take_zero, List.drop_succ_cons, List.drop_zero, List.reverse_cons, List.reverse_nil, List.length_cons, List.length_nil, Option.toList, true_and, and_true, eq_self, ↓reduceIte, not_true_eq_false, not_false_eq_true, true_or, or_true, List.append_eq]
    exact ⟨hr trivial, ⟨by decide, by decide⟩, hK 0 _ _ (by decide) (by decide) g (LRw_v hr nx)⟩
  · simp only [List.mem_cons, Prod.mk.injEq, List.not_mem_nil, or_false] at he
    rcases he with ⟨rfl, rfl⟩
    · simp only [hs375_4, a375_13, w_iconst, w_ireturn]
      exact hK 1 _ _ (by decide) (by decide) g (LRw_e (by decide) nx)
theorem k376_0 : pg.1 376 0 = [.aload 2, .bipush 0, .aload 0, .iload 1, .invokeinterface 168 2, .i2l, .lastore, .goto 15] := rfl
theorem a376_0 {tb : Tab} {d : Nat} {K : Out → AM → Prop} {ls st : List AV} {m : AM} : At tb d 376 K 0 ls st m = wpB tb (pg.2.1 376) (Runs tb pg d) K (At tb d 376 K) [.aload 2, .bipush 0, .aload 0, .iload 1, .invokeinterface 168 2, .i2l, .lastore, .goto 15] ls st m := At.eq k376_0
theorem k376_13 : pg.1 376 13 = [.bipush 1, .ireturn] := rfl
theorem a376_13 {tb : Tab} {d : Nat} {K : Out → AM → Prop} {ls st : List AV} {m : AM} : At tb d 376 K 13 ls st m = wpB tb (pg.2.1 376) (Runs tb pg d) K (At tb d 376 K) [.bipush 1, .ireturn] ls st m := At.eq k376_13
theorem k376_15 : pg.1 376 15 = [.bipush 0, .ireturn] := rfl
theorem a376_15 {tb : Tab} {d : Nat} {K : Out → AM → Prop} {ls st : List AV} {m : AM} : At tb d 376 K 15 ls st m = wpB tb (pg.2.1 376) (Runs tb pg d) K (At tb d 376 K) [.bipush 0, .ireturn] ls st m := At.eq k376_15
theorem hs376_2 : pg.2.1 376 2 = some (3, 13) := rfl
theorem y_376 {a0 : Int} {N : Nat} {bs : List AV} (hJ : JT tb 168 N [vr 0, vi a0] bs True [(2, 1)] S m) : WT tb 376 N [vr 0, vi a0, vr 316] bs S m := by
  intro d K hK
  refine Runs.of (al := [vr 0, vi a0, vr 316]) (n := 1) trivial rfl rfl trivial ?_
  rw [a376_0]
  simp only [w_aload, w_iload, w_iconst, w_call, List.getElem?_cons_zero, List.getElem?_cons_succ, List.set_cons_zero, List.set_cons_succ, List.cons_append, List.nil_append, List.replicate_succ, List.replicate_zero, List.take_succ_cons, List.take_zero, List.drop_succ_cons, List.drop_zero, List.reverse_cons, List.reverse_nil, List.length_cons, List.length_nil, Option.toList, true_and, and_true, eq_self, ↓reduceIte, not_true_eq_false, not_false_eq_true, true_or, or_true, List.append_eq]
  refine ⟨⟨by omega, by omega⟩, hJ (d + 1) _ (fun v S1 m1 hr g nx => ?_) (fun E c S1 m1 he g nx => ?_)⟩
  · simp only [Option.toList, w_i2l, x_last isA_316x, len_316x, w_goto, Int.reduceToNat, a376_15, w_iconst, w_ireturn, List.getElem?_cons_zero, List.getElem?_cons_succ, List.set_cons_zero, List.set_cons_succ, List.cons_append, List.nil_append, List.replicate_succ, List.replicate_zero, List.take_succ_cons, List.take_zero, List.drop_succ_cons, List.drop_zero, List.reverse_cons, List.reverse_nil, List.length_cons, List.length_nil, Option.toList, true_and, and_true, eq_self, ↓reduceIte, not_true_eq_false, not_false_eq_true, true_or, or_true, List.append_eq]
    exact ⟨hr trivial, ⟨by decide, by decide⟩, hK 0 _ _ (by decide) (by decide) g (LRw_v hr nx)⟩
  · simp only [List.mem_cons, Prod.mk.injEq, List.not_mem_nil, or_false] at he
    rcases he with ⟨rfl, rfl⟩
    · simp only [hs376_2, a376_13, w_iconst, w_ireturn]
      exact hK 1 _ _ (by decide) (by decide) g (LRw_e (by decide) nx)
theorem k377_0 : pg.1 377 0 = [.aload 4, .bipush 0, .aload 0, .iload 1, .iload 2, .iload 3, .invokeinterface 186 4, .i2l, .lastore, .goto 23] := rfl
theorem a377_0 {tb : Tab} {d : Nat} {K : Out → AM → Prop} {ls st : List AV} {m : AM} : At tb d 377 K 0 ls st m = wpB tb (pg.2.1 377) (Runs tb pg d) K (At tb d 377 K) [.aload 4, .bipush 0, .aload 0, .iload 1, .iload 2, .iload 3, .invokeinterface 186 4, .i2l, .lastore, .goto 23] ls st m := At.eq k377_0
theorem k377_17 : pg.1 377 17 = [.bipush 1, .ireturn] := rfl
theorem a377_17 {tb : Tab} {d : Nat} {K : Out → AM → Prop} {ls st : List AV} {m : AM} : At tb d 377 K 17 ls st m = wpB tb (pg.2.1 377) (Runs tb pg d) K (At tb d 377 K) [.bipush 1, .ireturn] ls st m := At.eq k377_17
theorem k377_21 : pg.1 377 21 = [.bipush 2, .ireturn] := rfl
theorem a377_21 {tb : Tab} {d : Nat} {K : Out → AM → Prop} {ls st : List AV} {m : AM} : At tb d 377 K 21 ls st m = wpB tb (pg.2.1 377) (Runs tb pg d) K (At tb d 377 K) [.bipush 2, .ireturn] ls st m := At.eq k377_21
theorem k377_23 : pg.1 377 23 = [.bipush 0, .ireturn] := rfl
theorem a377_23 {tb : Tab} {d : Nat} {K : Out → AM → Prop} {ls st : List AV} {m : AM} : At tb d 377 K 23 ls st m = wpB tb (pg.2.1 377) (Runs tb pg d) K (At tb d 377 K) [.bipush 0, .ireturn] ls st m := At.eq k377_23
theorem hs377_2 : pg.2.1 377 2 = some (5, 17) := rfl
theorem hs377_1 : pg.2.1 377 1 = some (5, 21) := rfl
theorem y_377 {a0 a1 a2 : Int} {N : Nat} {bs : List AV} (hJ : JT tb 186 N [vr 0, vi a0, vi a1, vi a2] bs True [(2, 1), (1, 2)] S m) : WT tb 377 N [vr 0, vi a0, vi a1, vi a2, vr 316] bs S m := by
  intro d K hK
  refine Runs.of (al := [vr 0, vi a0, vi a1, vi a2, vr 316]) (n := 1) trivial rfl rfl trivial ?_
  rw [a377_0]
  simp only [w_aload, w_iload, w_iconst, w_call, List.getElem?_cons_zero, List.getElem?_cons_succ, List.set_cons_zero, List.set_cons_succ, List.cons_append, List.nil_append, List.replicate_succ, List.replicate_zero, List.take_succ_cons, List.take_zero, List.drop_succ_cons, List.drop_zero, List.reverse_cons, List.reverse_nil, List.length_cons, List.length_nil, Option.toList, true_and, and_true, eq_self, ↓reduceIte, not_true_eq_false, not_false_eq_true, true_or, or_true, List.append_eq]
  refine ⟨⟨by omega, by omega⟩, hJ (d + 1) _ (fun v S1 m1 hr g nx => ?_) (fun E c S1 m1 he g nx => ?_)⟩
  · simp only [Option.toList, w_i2l, x_last isA_316x, len_316x, w_goto, Int.reduceToNat, a377_23, w_iconst, w_ireturn, List.getElem?_cons_zero, List.getElem?_cons_succ, List.set_cons_zero, List.set_cons_succ, List.cons_append, List.nil_append, List.replicate_succ, List.replicate_zero, List.take_succ_cons, List.take_zero, List.drop_succ_cons, List.drop_zero, List.reverse_cons, List.reverse_nil, List.length_cons, List.length_nil, Option.toList, true_and, and_true, eq_self, ↓reduceIte, not_true_eq_false, not_false_eq_true, true_or, or_true, List.append_eq]
    exact ⟨hr trivial, ⟨by decide, by decide⟩, hK 0 _ _ (by decide) (by decide) g (LRw_v hr nx)⟩
  · simp only [List.mem_cons, Prod.mk.injEq, List.not_mem_nil, or_false] at he
    rcases he with ⟨rfl, rfl⟩ | ⟨rfl, rfl⟩
    · simp only [hs377_2, a377_17, w_iconst, w_ireturn]
      exact hK 1 _ _ (by decide) (by decide) g (LRw_e (by decide) nx)
    · simp only [hs377_1, a377_21, w_iconst, w_ireturn]
      exact hK 2 _ _ (by decide) (by decide) g (LRw_e (by decide) nx)
theorem k378_0 : pg.1 378 0 = [.aload 3, .bipush 0, .aload 0, .iload 1, .iload 2, .invokeinterface 187 3, .i2l, .lastore, .goto 17] := rfl
theorem a378_0 {tb : Tab} {d : Nat} {K : Out → AM → Prop} {ls st : List AV} {m : AM} : At tb d 378 K 0 ls st m = wpB tb (pg.2.1 378) (Runs tb pg d) K (At tb d 378 K) [.aload 3, .bipush 0, .aload 0, .iload 1, .iload 2, .invokeinterface 187 3, .i2l, .lastore, .goto 17] ls st m := At.eq k378_0
theorem k378_15 : pg.1 378 15 = [.bipush 1, .ireturn] := rfl
theorem a378_15 {tb : Tab} {d : Nat} {K : Out → AM → Prop} {ls st : List AV} {m : AM} : At tb d 378 K 15 ls st m = wpB tb (pg.2.1 378) (Runs tb pg d) K (At tb d 378 K) [.bipush 1, .ireturn] ls st m := At.eq k378_15
theorem k378_17 : pg.1 378 17 = [.bipush 0, .ireturn] := rfl
theorem a378_17 {tb : Tab} {d : Nat} {K : Out → AM → Prop} {ls st : List AV} {m : AM} : At tb d 378 K 17 ls st m = wpB tb (pg.2.1 378) (Runs tb pg d) K (At tb d 378 K) [.bipush 0, .ireturn] ls st m := At.eq k378_17
theorem hs378_1 : pg.2.1 378 1 = some (4, 15) := rfl
theorem y_378 {a0 a1 : Int} {N : Nat} {bs : List AV} (hJ : JT tb 187 N [vr 0, vi a0, vi a1] bs True [(1, 1)] S m) : WT tb 378 N [vr 0, vi a0, vi a1, vr 316] bs S m := by
  intro d K hK
  refine Runs.of (al := [vr 0, vi a0, vi a1, vr 316]) (n := 1) trivial rfl rfl trivial ?_
  rw [a378_0]
  simp only [w_aload, w_iload, w_iconst, w_call, List.getElem?_cons_zero, List.getElem?_cons_succ, List.set_cons_zero, List.set_cons_succ, List.cons_append, List.nil_append, List.replicate_succ, List.replicate_zero, List.take_succ_cons, List.take_zero, List.drop_succ_cons, List.drop_zero, List.reverse_cons, List.reverse_nil, List.length_cons, List.length_nil, Option.toList, true_and, and_true, eq_self, ↓reduceIte, not_true_eq_false, not_false_eq_true, true_or, or_true, List.append_eq]
  refine ⟨⟨by omega, by omega⟩, hJ (d + 1) _ (fun v S1 m1 hr g nx => ?_) (fun E c S1 m1 he g nx => ?_)⟩
  · simp only [Option.toList, w_i2l, x_last isA_316x, len_316x, w_goto, Int.reduceToNat, a378_17, w_iconst, w_ireturn, List.getElem?_cons_zero, List.getElem?_cons_succ, List.set_cons_zero, List.set_cons_succ, List.cons_append, List.nil_append, List.replicate_succ, List.replicate_zero, List.take_succ_cons, List.take_zero, List.drop_succ_cons, List.drop_zero, List.reverse_cons, List.reverse_nil, List.length_cons, List.length_nil, Option.toList, true_and, and_true, eq_self, ↓reduceIte, not_true_eq_false, not_false_eq_true, true_or, or_true, List.append_eq]
    exact ⟨hr trivial, ⟨by decide, by decide⟩, hK 0 _ _ (by decide) (by decide) g (LRw_v hr nx)⟩
  · simp only [List.mem_cons, Prod.mk.injEq, List.not_mem_nil, or_false] at he
    rcases he with ⟨rfl, rfl⟩
    · simp only [hs378_1, a378_15, w_iconst, w_ireturn]
      exact hK 1 _ _ (by decide) (by decide) g (LRw_e (by decide) nx)
theorem k379_0 : pg.1 379 0 = [.aload 3, .bipush 0, .aload 0, .iload 1, .iload 2, .invokeinterface 188 3, .i2l, .lastore, .goto 17] := rfl
theorem a379_0 {tb : Tab} {d : Nat} {K : Out → AM → Prop} {ls st : List AV} {m : AM} : At tb d 379 K 0 ls st m = wpB tb (pg.2.1 379) (Runs tb pg d) K (At tb d 379 K) [.aload 3, .bipush 0, .aload 0, .iload 1, .iload 2, .invokeinterface 188 3, .i2l, .lastore, .goto 17] ls st m := At.eq k379_0
theorem k379_15 : pg.1 379 15 = [.bipush 1, .ireturn] := rfl
theorem a379_15 {tb : Tab} {d : Nat} {K : Out → AM → Prop} {ls st : List AV} {m : AM} : At tb d 379 K 15 ls st m = wpB tb (pg.2.1 379) (Runs tb pg d) K (At tb d 379 K) [.bipush 1, .ireturn] ls st m := At.eq k379_15
theorem k379_17 : pg.1 379 17 = [.bipush 0, .ireturn] := rfl
theorem a379_17 {tb : Tab} {d : Nat} {K : Out → AM → Prop} {ls st : List AV} {m : AM} : At tb d 379 K 17 ls st m = wpB tb (pg.2.1 379) (Runs tb pg d) K (At tb d 379 K) [.bipush 0, .ireturn] ls st m := At.eq k379_17
theorem hs379_1 : pg.2.1 379 1 = some (4, 15) := rfl
theorem y_379 {a0 a1 : Int} {N : Nat} {bs : List AV} (hJ : JT tb 188 N [vr 0, vi a0, vi a1] bs True [(1, 1)] S m) : WT tb 379 N [vr 0, vi a0, vi a1, vr 316] bs S m := by
  intro d K hK
  refine Runs.of (al := [vr 0, vi a0, vi a1, vr 316]) (n := 1) trivial rfl rfl trivial ?_
  rw [a379_0]
  simp only [w_aload, w_iload, w_iconst, w_call, List.getElem?_cons_zero, List.getElem?_cons_succ, List.set_cons_zero, List.set_cons_succ, List.cons_append, List.nil_append, List.replicate_succ, List.replicate_zero, List.take_succ_cons, List.take_zero, List.drop_succ_cons, List.drop_zero, List.reverse_cons, List.reverse_nil, List.length_cons, List.length_nil, Option.toList, true_and, and_true, eq_self, ↓reduceIte, not_true_eq_false, not_false_eq_true, true_or, or_true, List.append_eq]
  refine ⟨⟨by omega, by omega⟩, hJ (d + 1) _ (fun v S1 m1 hr g nx => ?_) (fun E c S1 m1 he g nx => ?_)⟩
  · simp only [Option.toList, w_i2l, x_last isA_316x, len_316x, w_goto, Int.reduceToNat, a379_17, w_iconst, w_ireturn, List.getElem?_cons_zero, List.getElem?_cons_succ, List.set_cons_zero, List.set_cons_succ, List.cons_append, List.nil_append, List.replicate_succ, List.replicate_zero, List.take_succ_cons, List.take_zero, List.drop_succ_cons, List.drop_zero, List.reverse_cons, List.reverse_nil, List.length_cons, List.length_nil, Option.toList, true_and, and_true, eq_self, ↓reduceIte, not_true_eq_false, not_false_eq_true, true_or, or_true, List.append_eq]
    exact ⟨hr trivial, ⟨by decide, by decide⟩, hK 0 _ _ (by decide) (by decide) g (LRw_v hr nx)⟩
  · simp only [List.mem_cons, Prod.mk.injEq, List.not_mem_nil, or_false] at he
    rcases he with ⟨rfl, rfl⟩
    · simp only [hs379_1, a379_15, w_iconst, w_ireturn]
      exact hK 1 _ _ (by decide) (by decide) g (LRw_e (by decide) nx)
theorem k380_0 : pg.1 380 0 = [.aload 3, .bipush 0, .aload 0, .iload 1, .iload 2, .invokeinterface 190 3, .i2l, .lastore, .goto 17] := rfl
theorem a380_0 {tb : Tab} {d : Nat} {K : Out → AM → Prop} {ls st : List AV} {m : AM} : At tb d 380 K 0 ls st m = wpB tb (pg.2.1 380) (Runs tb pg d) K (At tb d 380 K) [.aload 3, .bipush 0, .aload 0, .iload 1, .iload 2, .invokeinterface 190 3, .i2l, .lastore, .goto 17] ls st m := At.eq k380_0
theorem k380_15 : pg.1 380 15 = [.bipush 1, .ireturn] := rfl
theorem a380_15 {tb : Tab} {d : Nat} {K : Out → AM → Prop} {ls st : List AV} {m : AM} : At tb d 380 K 15 ls st m = wpB tb (pg.2.1 380) (Runs tb pg d) K (At tb d 380 K) [.bipush 1, .ireturn] ls st m := At.eq k380_15
theorem k380_17 : pg.1 380 17 = [.bipush 0, .ireturn] := rfl
theorem a380_17 {tb : Tab} {d : Nat} {K : Out → AM → Prop} {ls st : List AV} {m : AM} : At tb d 380 K 17 ls st m = wpB tb (pg.2.1 380) (Runs tb pg d) K (At tb d 380 K) [.bipush 0, .ireturn] ls st m := At.eq k380_17
theorem hs380_2 : pg.2.1 380 2 = some (4, 15) := rfl
theorem y_380 {a0 a1 : Int} {N : Nat} {bs : List AV} (hJ : JT tb 190 N [vr 0, vi a0, vi a1] bs True [(2, 1)] S m) : WT tb 380 N [vr 0, vi a0, vi a1, vr 316] bs S m := by
  intro d K hK
  refine Runs.of (al := [vr 0, vi a0, vi a1, vr 316]) (n := 1) trivial rfl rfl trivial ?_
  rw [a380_0]
  simp only [w_aload, w_iload, w_iconst, w_call, List.getElem?_cons_zero, List.getElem?_cons_succ, List.set_cons_zero, List.set_cons_succ, List.cons_append, List.nil_append, List.replicate_succ, List.replicate_zero, List.take_succ_cons, List.take_zero, List.drop_succ_cons, List.drop_zero, List.reverse_cons, List.reverse_nil, List.length_cons, List.length_nil, Option.toList, true_and, and_true, eq_self, ↓reduceIte, not_true_eq_false, not_false_eq_true, true_or, or_true, List.append_eq]
  refine ⟨⟨by omega, by omega⟩, hJ (d + 1) _ (fun v S1 m1 hr g nx => ?_) (fun E c S1 m1 he g nx => ?_)⟩
  · simp only [Option.toList, w_i2l, x_last isA_316x, len_316x, w_goto, Int.reduceToNat, a380_17, w_iconst, w_ireturn, List.getElem?_cons_zero, List.getElem?_cons_succ, List.set_cons_zero, List.set_cons_succ, List.cons_append, List.nil_append, List.replicate_succ, List.replicate_zero, List.take_succ_cons, List.take_zero, List.drop_succ_cons, List.drop_zero, List.reverse_cons, List.reverse_nil, List.length_cons, List.length_nil, Option.toList, true_and, and_true, eq_self, ↓reduceIte, not_true_eq_false, not_false_eq_true, true_or, or_true, List.append_eq]
    exact ⟨hr trivial, ⟨by decide, by decide⟩, hK 0 _ _ (by decide) (by decide) g (LRw_v hr nx)⟩
  · simp only [List.mem_cons, Prod.mk.injEq, List.not_mem_nil, or_false] at he
    rcases he with ⟨rfl, rfl⟩
    · simp only [hs380_2, a380_15, w_iconst, w_ireturn]
      exact hK 1 _ _ (by decide) (by decide) g (LRw_e (by decide) nx)
theorem k381_0 : pg.1 381 0 = [.aload 3, .bipush 0, .aload 0, .iload 1, .iload 2, .invokeinterface 191 3, .i2l, .lastore, .goto 17] := rfl
theorem a381_0 {tb : Tab} {d : Nat} {K : Out → AM → Prop} {ls st : List AV} {m : AM} : At tb d 381 K 0 ls st m = wpB tb (pg.2.1 381) (Runs tb pg d) K (At tb d 381 K) [.aload 3, .bipush 0, .aload 0, .iload 1, .iload 2, .invokeinterface 191 3, .i2l, .lastore, .goto 17] ls st m := At.eq k381_0
theorem k381_15 : pg.1 381 15 = [.bipush 1, .ireturn] := rfl
theorem a381_15 {tb : Tab} {d : Nat} {K : Out → AM → Prop} {ls st : List AV} {m : AM} : At tb d 381 K 15 ls st m = wpB tb (pg.2.1 381) (Runs tb pg d) K (At tb d 381 K) [.bipush 1, .ireturn] ls st m := At.eq k381_15
theorem k381_17 : pg.1 381 17 = [.bipush 0, .ireturn] := rfl
theorem a381_17 {tb : Tab} {d : Nat} {K : Out → AM → Prop} {ls st : List AV} {m : AM} : At tb d 381 K 17 ls st m = wpB tb (pg.2.1 381) (Runs tb pg d) K (At tb d 381 K) [.bipush 0, .ireturn] ls st m := At.eq k381_17
theorem hs381_4 : pg.2.1 381 4 = some (4, 15) := rfl
theorem y_381 {a0 a1 : Int} {N : Nat} {bs : List AV} (hJ : JT tb 191 N [vr 0, vi a0, vi a1] bs True [(4, 1)] S m) : WT tb 381 N [vr 0, vi a0, vi a1, vr 316] bs S m := by
  intro d K hK
  refine Runs.of (al := [vr 0, vi a0, vi a1, vr 316]) (n := 1) trivial rfl rfl trivial ?_
  rw [a381_0]
  simp only [w_aload, w_iload, w_iconst, w_call, List.getElem?_cons_zero, List.getElem?_cons_succ, List.set_cons_zero, List.set_cons_succ, List.cons_append, List.nil_append, List.replicate_succ, List.replicate_zero, List.take_succ_cons, List.take_zero, List.drop_succ_cons, List.drop_zero, List.reverse_cons, List.reverse_nil, List.length_cons, List.length_nil, Option.toList, true_and, and_true, eq_self, ↓reduceIte, not_true_eq_false, not_false_eq_true, true_or, or_true, List.append_eq]
  refine ⟨⟨by omega, by omega⟩, hJ (d + 1) _ (fun v S1 m1 hr g nx => ?_) (fun E c S1 m1 he g nx => ?_)⟩
  · simp only [Option.toList, w_i2l, x_last isA_316x, len_316x, w_goto, Int.reduceToNat, a381_17, w_iconst, w_ireturn, List.getElem?_cons_zero, List.getElem?_cons_succ, List.set_cons_zero, List.set_cons_succ, List.cons_append, List.nil_append, List.replicate_succ, List.replicate_zero, List.take_succ_cons, List.take_zero, List.drop_succ_cons, List.drop_zero, List.reverse_cons, List.reverse_nil, List.length_cons, List.length_nil, Option.toList, true_and, and_true, eq_self, ↓reduceIte, not_true_eq_false, not_false_eq_true, true_or, or_true, List.append_eq]
    exact ⟨hr trivial, ⟨by decide, by decide⟩, hK 0 _ _ (by decide) (by decide) g (LRw_v hr nx)⟩
  · simp only [List.mem_cons, Prod.mk.injEq, List.not_mem_nil, or_false] at he
    rcases he with ⟨rfl, rfl⟩
    · simp only [hs381_4, a381_15, w_iconst, w_ireturn]
      exact hK 1 _ _ (by decide) (by decide) g (LRw_e (by decide) nx)
end LawM
