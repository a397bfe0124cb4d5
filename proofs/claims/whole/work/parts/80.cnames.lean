/-! ===== THE CLASS: letters, places that tell apart ===== -/
/-- behind a name there are no letters -/
def GV (r : Int → Int) : Prop := ∀ p k, 0 ≤ p → p < r 4 → 0 ≤ k → k < 6 → (k < pr r p 0 → 0 ≤ pr r p (2 + k)) ∧ (pr r p 0 ≤ k → pr r p (2 + k) = -1)
theorem and_tell : ∀ a s : Fin 64, (andI (a : Nat) (s : Nat) = 0 ↔ ∀ k : Fin 6, ¬ (andI (shrI (a : Nat) (k : Nat)) 1 = 1 ∧ andI (shrI (s : Nat) (k : Nat)) 1 = 1)) := by decide +kernel
theorem and_tell_i {a s : Int} (ha : 0 ≤ a ∧ a < 64) (hs : 0 ≤ s ∧ s < 64) : andI a s = 0 ↔ ∀ k, 0 ≤ k → k < 6 → ¬ (bitB a k ∧ bitB s k) := by
  have h := and_tell ⟨a.toNat, by omega⟩ ⟨s.toNat, by omega⟩
  have ea : ((a.toNat : Nat) : Int) = a := Int.toNat_of_nonneg ha.1
  have es : ((s.toNat : Nat) : Int) = s := Int.toNat_of_nonneg hs.1
  simp only [ea, es] at h
  rw [h]
  constructor
  · intro g k k0 k1
    have := g ⟨k.toNat, by omega⟩
    simp only [Int.toNat_of_nonneg k0] at this
    exact this
  · intro g k
    exact g k (by omega) (by omega)
/-- the places at which two are unlike -/
noncomputable def unS (P : Int → Int → Int) (p q : Int) : Int := setZ 6 fun k => P p (2 + k) ≠ P q (2 + k)
theorem unS_rg {P : Int → Int → Int} {p q : Int} : 0 ≤ unS P p q ∧ unS P p q < 64 := setZ_lt (by decide)
theorem unS_tell {P : Int → Int → Int} {p q s : Int} (hs : 0 ≤ s ∧ s < 64) : andI (unS P p q) s ≠ 0 ↔ unlM P s p q 6 := by
  rw [ne_eq, and_tell_i unS_rg hs]
  constructor
  · intro h
    refine Classical.byContradiction fun g => h fun k k0 k1 y => g ⟨k, k0, k1, y.2, ?_⟩
    exact (bit_set (n := 6) (by decide) k0 k1).mp y.1
  · intro ⟨k, k0, k1, y1, y2⟩ h
    exact h k k0 k1 ⟨(bit_set (n := 6) (by decide) k0 k1).mpr y2, y1⟩
theorem unlM_sym {P : Int → Int → Int} {p q s n : Int} (h : unlM P s p q n) : unlM P s q p n := by
  obtain ⟨k, k0, k1, y1, y2⟩ := h
  exact ⟨k, k0, k1, y1, fun e => y2 e.symm⟩
/-- all pairs below p, and of p those below j, are told apart -/
def tlA (P : Int → Int → Int) (n s p j : Int) : Prop := ∀ a b, 0 ≤ a → a < b → b < n → (a < p ∨ (a = p ∧ b < j)) → unlM P s a b 6
section Names1
variable {tb : Tab} {d : Nat} {m : AM} {K : Out → AM → Prop} {S : Nat → Int → Int} {w : Nat} {r : Int → Int}
theorem k56_0 : pg.1 56 0 = [.iload 2, .ifCond .lt 14, .iload 2, .aload 0, .getfield 805, .iload 1, .iaload, .if_icmp .lt 18, .jsr 14] := rfl
theorem a56_0 {tb : Tab} {d : Nat} {K : Out → AM → Prop} {ls st : List AV} {m : AM} : At tb d 56 K 0 ls st m = wpB tb (pg.2.1 56) (Runs tb pg d) K (At tb d 56 K) [.iload 2, .ifCond .lt 14, .iload 2, .aload 0, .getfield 805, .iload 1, .iaload, .if_icmp .lt 18, .jsr 14] ls st m := At.eq k56_0
theorem k56_14 : pg.1 56 14 = [.bipush (-1), .goto 29] := rfl
theorem a56_14 {tb : Tab} {d : Nat} {K : Out → AM → Prop} {ls st : List AV} {m : AM} : At tb d 56 K 14 ls st m = wpB tb (pg.2.1 56) (Runs tb pg d) K (At tb d 56 K) [.bipush (-1), .goto 29] ls st m := At.eq k56_14
theorem k56_18 : pg.1 56 18 = [.aload 0, .getfield 806, .bipush 6, .iload 1, .imul, .iload 2, .iadd, .iaload, .jsr 29] := rfl
theorem a56_18 {tb : Tab} {d : Nat} {K : Out → AM → Prop} {ls st : List AV} {m : AM} : At tb d 56 K 18 ls st m = wpB tb (pg.2.1 56) (Runs tb pg d) K (At tb d 56 K) [.aload 0, .getfield 806, .bipush 6, .iload 1, .imul, .iload 2, .iadd, .iaload, .jsr 29] ls st m := At.eq k56_18
theorem k56_29 : pg.1 56 29 = [.ireturn] := rfl
theorem a56_29 {tb : Tab} {d : Nat} {K : Out → AM → Prop} {ls st : List AV} {m : AM} : At tb d 56 K 29 ls st m = wpB tb (pg.2.1 56) (Runs tb pg d) K (At tb d 56 K) [.ireturn] ls st m := At.eq k56_29
theorem w_56 {p k : Int} (hw : isW w) (hR : RW S w r) (hA : AB r) (hV : GV r) (hp : 0 ≤ p ∧ p < r 4) (hk : 0 ≤ k ∧ k < 6) (hK : ∀ v, v = pr r p (2 + k) → -1 ≤ v → v < 8 → K (.inl (some (vi v))) (X S m)) : Runs tb pg (d + 1) 56 [vr w, vi p, vi k] (X S m) K := by
  refine Runs.of (al := [vr w, vi p, vi k]) (n := 0) trivial rfl rfl trivial ?_
  have b3 := hA.2.1.1
  have b4 := hA.2.1.2.1
  have b5 := hA.2.1.2.2.1
  have e0 := hR.1.1
  have e4 := hR.1.2.1
  obtain ⟨q1, q2, q3, q4⟩ := hR.2.2.1 p hp.1 hp.2
  have z := AB_pp hA hp.1 hp.2
  have y := AB_pk hA hp.1 hp.2 hk.1 hk.2
  have g := hV p k hp.1 hp.2 hk.1 hk.2
  have q5 := q3 k hk.1
  repeat' (first | omega | with_reducible refine hK _ ?_ ?_ ?_ | simp only [w_iload, w_if, cI, Int.reduceToNat, w_aload, x_g805_w0, x_iald, w_ialoads, w_ialoadw, w_ifc, w_fall, w_iconst, w_goto, x_g806_w0, w_imul, w_iadd, w_ireturn, isA_w1, isA_w2, isA_w3, isA_w4, isA_w5, isA_w6, isA_w7, isA_w8, isA_w10, isA_w11, isA_w12, isA_w14, isA_w15, isA_w16, len_w1, len_w2, len_w3, len_w4, len_w5, len_w6, len_w7, len_w8, len_w10, len_w11, len_w12, len_w14, len_w15, len_w16, Int.cast_ofNat_Int, a56_0, a56_14, a56_18, a56_29, R32, List.getElem?_cons_zero, List.getElem?_cons_succ, List.set_cons_zero, List.set_cons_succ, List.cons_append, List.nil_append, List.replicate_succ, List.replicate_zero, List.take_succ_cons, List.take_zero, List.drop_succ_cons, List.drop_zero, List.reverse_cons, List.reverse_nil, List.length_cons, List.length_nil, Option.toList, true_and, and_true, eq_self, ↓reduceIte, not_true_eq_false, not_false_eq_true, true_or, or_true, hw] | with_reducible refine And.intro ?_ ?_ | with_reducible intro _)
  all_goals (try (first | omega | (exfalso; assumption) | (have := g.2 (by omega); omega) | (have := q5 (by omega); omega)))
theorem k64_0 : pg.1 64 0 = [.bipush 0, .istore 3, .bipush 0, .istore 4, .jsr 5] := rfl
theorem a64_0 {tb : Tab} {d : Nat} {K : Out → AM → Prop} {ls st : List AV} {m : AM} : At tb d 64 K 0 ls st m = wpB tb (pg.2.1 64) (Runs tb pg d) K (At tb d 64 K) [.bipush 0, .istore 3, .bipush 0, .istore 4, .jsr 5] ls st m := At.eq k64_0
theorem k64_5 : pg.1 64 5 = [.iload 4, .bipush 6, .if_icmp .ge 42, .aload 0, .iload 1, .iload 4, .invokeinterface 56 3, .aload 0, .iload 2, .iload 4, .invokeinterface 56 3, .if_icmp .eq 36, .iload 3, .bipush 1, .iload 4, .ishl, .ior, .istore 3, .jsr 36] := rfl
theorem a64_5 {tb : Tab} {d : Nat} {K : Out → AM → Prop} {ls st : List AV} {m : AM} : At tb d 64 K 5 ls st m = wpB tb (pg.2.1 64) (Runs tb pg d) K (At tb d 64 K) [.iload 4, .bipush 6, .if_icmp .ge 42, .aload 0, .iload 1, .iload 4, .invokeinterface 56 3, .aload 0, .iload 2, .iload 4, .invokeinterface 56 3, .if_icmp .eq 36, .iload 3, .bipush 1, .iload 4, .ishl, .ior, .istore 3, .jsr 36] ls st m := At.eq k64_5
theorem k64_36 : pg.1 64 36 = [.iinc 4 1, .goto 5] := rfl
theorem a64_36 {tb : Tab} {d : Nat} {K : Out → AM → Prop} {ls st : List AV} {m : AM} : At tb d 64 K 36 ls st m = wpB tb (pg.2.1 64) (Runs tb pg d) K (At tb d 64 K) [.iinc 4 1, .goto 5] ls st m := At.eq k64_36
theorem k64_42 : pg.1 64 42 = [.iload 3, .ireturn] := rfl
theorem a64_42 {tb : Tab} {d : Nat} {K : Out → AM → Prop} {ls st : List AV} {m : AM} : At tb d 64 K 42 ls st m = wpB tb (pg.2.1 64) (Runs tb pg d) K (At tb d 64 K) [.iload 3, .ireturn] ls st m := At.eq k64_42
theorem w_64 {p q : Int} (hw : isW w) (hR : RW S w r) (hA : AB r) (hV : GV r) (hp : 0 ≤ p ∧ p < r 4) (hq : 0 ≤ q ∧ q < r 4) (hK : ∀ v, v = unS (pr r) p q → K (.inl (some (vi v))) (X S m)) : Runs tb pg (d + 2) 64 [vr w, vi p, vi q] (X S m) K := by
  have b3 := hA.2.1.1
  have b4 := hA.2.1.2.1
  have b5 := hA.2.1.2.2.1
  have e0 := hR.1.1
  have e4 := hR.1.2.1
  have hL5 : (fun i : Int => ∀ (a : Int), a = setZ i (fun k => pr r p (2 + k) ≠ pr r q (2 + k)) → At tb (d + 1) 64 K 5 [vr w, vi p, vi q, vi a, vi i] [] (X S m)) 0 := by
    refine loopZ (fun i : Int => ∀ (a : Int), a = setZ i (fun k => pr r p (2 + k) ≠ pr r q (2 + k)) → At tb (d + 1) 64 K 5 [vr w, vi p, vi q, vi a, vi i] [] (X S m)) (6) (by omega) ?_ ?_
    · intro i h0 h1 h9 a ha
      rw [a64_5]
      repeat' (first | omega | with_reducible refine h9 _ ?_ | simp only [w_iconst, w_istore, w_fall, Int.reduceToNat, w_iload, w_ifc, cI, w_aload, w_call, w_ishl, w_ior, w_iinc, lgB, Nat.reduceSub, w_goto, w_ireturn, a64_0, a64_36, a64_42, R32, List.getElem?_cons_zero, List.getElem?_cons_succ, List.set_cons_zero, List.set_cons_succ, List.cons_append, List.nil_append, List.replicate_succ, List.replicate_zero, List.take_succ_cons, List.take_zero, List.drop_succ_cons, List.drop_zero, List.reverse_cons, List.reverse_nil, List.length_cons, List.length_nil, Option.toList, true_and, and_true, eq_self, ↓reduceIte, not_true_eq_false, not_false_eq_true, true_or, or_true, hw] | with_reducible refine w_56 hw hR hA hV hp ⟨h0, h1⟩ (fun v1 x1 x2 x3 => ?_) | with_reducible refine w_56 hw hR hA hV hq ⟨h0, h1⟩ (fun v2 y1 y2 y3 => ?_) | with_reducible refine And.intro ?_ ?_ | with_reducible intro _)
      all_goals (try (first | omega | contradiction | (((with_reducible refine setZ_yes h0 ?_ ha ?_) <;> omega); done) | (((with_reducible refine setZ_no h0 ha ?_) <;> omega); done)))
    · intro a ha
      rw [a64_5]
      repeat' (first | omega | with_reducible refine hK _ ?_ | simp only [w_iconst, w_istore, w_fall, Int.reduceToNat, w_iload, w_ifc, cI, w_aload, w_call, w_ishl, w_ior, w_iinc, lgB, Nat.reduceSub, w_goto, w_ireturn, a64_0, a64_36, a64_42, R32, List.getElem?_cons_zero, List.getElem?_cons_succ, List.set_cons_zero, List.set_cons_succ, List.cons_append, List.nil_append, List.replicate_succ, List.replicate_zero, List.take_succ_cons, List.take_zero, List.drop_succ_cons, List.drop_zero, List.reverse_cons, List.reverse_nil, List.length_cons, List.length_nil, Option.toList, true_and, and_true, eq_self, ↓reduceIte, not_true_eq_false, not_false_eq_true, true_or, or_true, hw] | with_reducible refine w_56 hw hR hA hV hp ⟨h0, h1⟩ (fun v1 x1 x2 x3 => ?_) | with_reducible refine w_56 hw hR hA hV hq ⟨h0, h1⟩ (fun v2 y1 y2 y3 => ?_) | with_reducible refine And.intro ?_ ?_ | with_reducible intro _)
      all_goals (try (first | omega | contradiction | exact ha))
  refine Runs.of (al := [vr w, vi p, vi q]) (n := 2) trivial rfl rfl trivial ?_
  repeat' (first | omega | with_reducible refine hL5 _ ?_ | simp only [w_iconst, w_istore, w_fall, Int.reduceToNat, w_iload, w_ifc, cI, w_aload, w_call, w_ishl, w_ior, w_iinc, lgB, Nat.reduceSub, w_goto, w_ireturn, a64_0, a64_36, a64_42, R32, List.getElem?_cons_zero, List.getElem?_cons_succ, List.set_cons_zero, List.set_cons_succ, List.cons_append, List.nil_append, List.replicate_succ, List.replicate_zero, List.take_succ_cons, List.take_zero, List.drop_succ_cons, List.drop_zero, List.reverse_cons, List.reverse_nil, List.length_cons, List.length_nil, Option.toList, true_and, and_true, eq_self, ↓reduceIte, not_true_eq_false, not_false_eq_true, true_or, or_true, hw] | with_reducible refine And.intro ?_ ?_ | with_reducible intro _)
  all_goals (try (first | omega | (exfalso; assumption) | rfl))
theorem k65_0 : pg.1 65 0 = [.aload 0, .iload 1, .iload 2, .invokeinterface 64 3, .ifCond .ne 13, .bipush 1, .goto 14] := rfl
theorem a65_0 {tb : Tab} {d : Nat} {K : Out → AM → Prop} {ls st : List AV} {m : AM} : At tb d 65 K 0 ls st m = wpB tb (pg.2.1 65) (Runs tb pg d) K (At tb d 65 K) [.aload 0, .iload 1, .iload 2, .invokeinterface 64 3, .ifCond .ne 13, .bipush 1, .goto 14] ls st m := At.eq k65_0
theorem k65_13 : pg.1 65 13 = [.bipush 0, .jsr 14] := rfl
theorem a65_13 {tb : Tab} {d : Nat} {K : Out → AM → Prop} {ls st : List AV} {m : AM} : At tb d 65 K 13 ls st m = wpB tb (pg.2.1 65) (Runs tb pg d) K (At tb d 65 K) [.bipush 0, .jsr 14] ls st m := At.eq k65_13
theorem k65_14 : pg.1 65 14 = [.freturn] := rfl
theorem a65_14 {tb : Tab} {d : Nat} {K : Out → AM → Prop} {ls st : List AV} {m : AM} : At tb d 65 K 14 ls st m = wpB tb (pg.2.1 65) (Runs tb pg d) K (At tb d 65 K) [.freturn] ls st m := At.eq k65_14
theorem w_65 {p q : Int} (hw : isW w) (hR : RW S w r) (hA : AB r) (hV : GV r) (hp : 0 ≤ p ∧ p < r 4) (hq : 0 ≤ q ∧ q < r 4) (hK : ∀ v, yn v (unS (pr r) p q = 0) → K (.inl (some (vi v))) (X S m)) : Runs tb pg (d + 3) 65 [vr w, vi p, vi q] (X S m) K := by
  refine Runs.of (al := [vr w, vi p, vi q]) (n := 0) trivial rfl rfl trivial ?_
  have b3 := hA.2.1.1
  have b4 := hA.2.1.2.1
  have b5 := hA.2.1.2.2.1
  have e0 := hR.1.1
  have e4 := hR.1.2.1
  have u := unS_rg (P := pr r) (p := p) (q := q)
  repeat' (first | omega | with_reducible refine hK _ ?_ | simp only [w_aload, w_iload, w_call, w_if, cI, Int.reduceToNat, w_iconst, w_goto, w_fall, w_zreturn, a65_0, a65_13, a65_14, R32, List.getElem?_cons_zero, List.getElem?_cons_succ, List.set_cons_zero, List.set_cons_succ, List.cons_append, List.nil_append, List.replicate_succ, List.replicate_zero, List.take_succ_cons, List.take_zero, List.drop_succ_cons, List.drop_zero, List.reverse_cons, List.reverse_nil, List.length_cons, List.length_nil, Option.toList, true_and, and_true, eq_self, ↓reduceIte, not_true_eq_false, not_false_eq_true, true_or, or_true, hw] | with_reducible refine w_64 hw hR hA hV hp hq (fun v1 x1 => ?_) | with_reducible refine And.intro ?_ ?_ | with_reducible intro _)
  all_goals (try (first | omega | (exfalso; assumption) | (exact Or.inl ⟨rfl, by omega⟩) | (exact Or.inr ⟨rfl, by omega⟩)))
theorem k63_0 : pg.1 63 0 = [.bipush 0, .istore 2, .jsr 2] := rfl
theorem a63_0 {tb : Tab} {d : Nat} {K : Out → AM → Prop} {ls st : List AV} {m : AM} : At tb d 63 K 0 ls st m = wpB tb (pg.2.1 63) (Runs tb pg d) K (At tb d 63 K) [.bipush 0, .istore 2, .jsr 2] ls st m := At.eq k63_0
theorem k63_2 : pg.1 63 2 = [.iload 2, .aload 0, .getfield 804, .if_icmp .ge 47, .iload 2, .bipush 1, .iadd, .istore 3, .jsr 14] := rfl
theorem a63_2 {tb : Tab} {d : Nat} {K : Out → AM → Prop} {ls st : List AV} {m : AM} : At tb d 63 K 2 ls st m = wpB tb (pg.2.1 63) (Runs tb pg d) K (At tb d 63 K) [.iload 2, .aload 0, .getfield 804, .if_icmp .ge 47, .iload 2, .bipush 1, .iadd, .istore 3, .jsr 14] ls st m := At.eq k63_2
theorem k63_14 : pg.1 63 14 = [.iload 3, .aload 0, .getfield 804, .if_icmp .ge 41, .aload 0, .iload 2, .iload 3, .invokeinterface 64 3, .iload 1, .iand, .ifCond .ne 35, .bipush 0, .freturn] := rfl
theorem a63_14 {tb : Tab} {d : Nat} {K : Out → AM → Prop} {ls st : List AV} {m : AM} : At tb d 63 K 14 ls st m = wpB tb (pg.2.1 63) (Runs tb pg d) K (At tb d 63 K) [.iload 3, .aload 0, .getfield 804, .if_icmp .ge 41, .aload 0, .iload 2, .iload 3, .invokeinterface 64 3, .iload 1, .iand, .ifCond .ne 35, .bipush 0, .freturn] ls st m := At.eq k63_14
theorem k63_35 : pg.1 63 35 = [.iinc 3 1, .goto 14] := rfl
theorem a63_35 {tb : Tab} {d : Nat} {K : Out → AM → Prop} {ls st : List AV} {m : AM} : At tb d 63 K 35 ls st m = wpB tb (pg.2.1 63) (Runs tb pg d) K (At tb d 63 K) [.iinc 3 1, .goto 14] ls st m := At.eq k63_35
theorem k63_41 : pg.1 63 41 = [.iinc 2 1, .goto 2] := rfl
theorem a63_41 {tb : Tab} {d : Nat} {K : Out → AM → Prop} {ls st : List AV} {m : AM} : At tb d 63 K 41 ls st m = wpB tb (pg.2.1 63) (Runs tb pg d) K (At tb d 63 K) [.iinc 2 1, .goto 2] ls st m := At.eq k63_41
theorem k63_47 : pg.1 63 47 = [.bipush 1, .freturn] := rfl
theorem a63_47 {tb : Tab} {d : Nat} {K : Out → AM → Prop} {ls st : List AV} {m : AM} : At tb d 63 K 47 ls st m = wpB tb (pg.2.1 63) (Runs tb pg d) K (At tb d 63 K) [.bipush 1, .freturn] ls st m := At.eq k63_47
theorem w_63 {s : Int} (hw : isW w) (hR : RW S w r) (hA : AB r) (hV : GV r) (hs : 0 ≤ s ∧ s < 64) (hK : ∀ v, yn v (tellsM (pr r) (r 4) s) → K (.inl (some (vi v))) (X S m)) : Runs tb pg (d + 3) 63 [vr w, vi s] (X S m) K := by
  have b3 := hA.2.1.1
  have b4 := hA.2.1.2.1
  have b5 := hA.2.1.2.2.1
  have e0 := hR.1.1
  have e4 := hR.1.2.1
  have hL2 : (fun i : Int => ∀ (z3 : AV), (tlA (pr r) (r 4) s i 0) → At tb (d + 2) 63 K 2 [vr w, vi s, vi i, z3] [] (X S m)) 0 := by
    refine loopZ (fun i : Int => ∀ (z3 : AV), (tlA (pr r) (r 4) s i 0) → At tb (d + 2) 63 K 2 [vr w, vi s, vi i, z3] [] (X S m)) (r 4) (by omega) ?_ ?_
    · intro i h0 h1 h9 z3 ht
      have hL14 : (fun j : Int => ∀ (q : Int), (tlA (pr r) (r 4) s i (j + (i + 1))) → q = j + (i + 1) → At tb (d + 2) 63 K 14 [vr w, vi s, vi i, vi q] [] (X S m)) 0 := by
        refine loopZ (fun j : Int => ∀ (q : Int), (tlA (pr r) (r 4) s i (j + (i + 1))) → q = j + (i + 1) → At tb (d + 2) 63 K 14 [vr w, vi s, vi i, vi q] [] (X S m)) (r 4 - (i + 1)) (by omega) ?_ ?_
        · intro j j0 j1 h8 q ht2 hq
          have u := unS_rg (P := pr r) (p := i) (q := q)
          have ut := unS_tell (P := pr r) (p := i) (q := q) hs
          have hi : 0 ≤ i ∧ i < r 4 := ⟨h0, h1⟩
          have hq2 : 0 ≤ q ∧ q < r 4 := by omega
          have ad := and_rg (unS (pr r) i q) s
          rw [a63_14]
          repeat' (first | omega | with_reducible refine h8 _ ?_ ?_ | with_reducible refine hK _ ?_ | simp only [w_iconst, w_istore, w_fall, Int.reduceToNat, w_iload, w_aload, x_g804_w0, w_ifc, cI, w_iadd, w_call, w_iand, w_if, w_zreturn, w_iinc, lgB, Nat.reduceSub, w_goto, a63_0, a63_35, a63_41, a63_47, R32, List.getElem?_cons_zero, List.getElem?_cons_succ, List.set_cons_zero, List.set_cons_succ, List.cons_append, List.nil_append, List.replicate_succ, List.replicate_zero, List.take_succ_cons, List.take_zero, List.drop_succ_cons, List.drop_zero, List.reverse_cons, List.reverse_nil, List.length_cons, List.length_nil, Option.toList, true_and, and_true, eq_self, ↓reduceIte, not_true_eq_false, not_false_eq_true, true_or, or_true, hw] | with_reducible refine w_64 hw hR hA hV hi hq2 (fun v1 x1 => ?_) | (rw [x1]) | with_reducible refine And.intro ?_ ?_ | with_reducible intro _)
          all_goals (try (first | omega | contradiction | (refine Or.inr ⟨rfl, fun y => ?_⟩; have y2 := ut.mpr (unlM_sym (y q i h0 (by omega) (by omega))); first | omega | (rw [x1] at *; omega)) | (intro a b a0 ab bn h; by_cases e : a = i ∧ b = q; (rw [e.1, e.2]; refine ut.mp ?_; first | omega | (rw [← x1]; omega)); exact ht2 a b a0 ab bn (by omega))))
        · intro q ht2 hq
          rw [a63_14]
          repeat' (first | omega | with_reducible refine h9 _ ?_ | simp only [w_iconst, w_istore, w_fall, Int.reduceToNat, w_iload, w_aload, x_g804_w0, w_ifc, cI, w_iadd, w_call, w_iand, w_if, w_zreturn, w_iinc, lgB, Nat.reduceSub, w_goto, a63_0, a63_35, a63_41, a63_47, R32, List.getElem?_cons_zero, List.getElem?_cons_succ, List.set_cons_zero, List.set_cons_succ, List.cons_append, List.nil_append, List.replicate_succ, List.replicate_zero, List.take_succ_cons, List.take_zero, List.drop_succ_cons, List.drop_zero, List.reverse_cons, List.reverse_nil, List.length_cons, List.length_nil, Option.toList, true_and, and_true, eq_self, ↓reduceIte, not_true_eq_false, not_false_eq_true, true_or, or_true, hw] | with_reducible refine w_64 hw hR hA hV hi hq2 (fun v1 x1 => ?_) | (rw [x1]) | with_reducible refine And.intro ?_ ?_ | with_reducible intro _)
          all_goals (try (first | omega | contradiction | (intro a b a0 ab bn h; exact ht2 a b a0 ab bn (by omega))))
      rw [a63_2]
      repeat' (first | omega | with_reducible refine h9 _ ?_ | with_reducible refine hL14 _ ?_ ?_ | simp only [w_iconst, w_istore, w_fall, Int.reduceToNat, w_iload, w_aload, x_g804_w0, w_ifc, cI, w_iadd, w_call, w_iand, w_if, w_zreturn, w_iinc, lgB, Nat.reduceSub, w_goto, a63_0, a63_35, a63_41, a63_47, R32, List.getElem?_cons_zero, List.getElem?_cons_succ, List.set_cons_zero, List.set_cons_succ, List.cons_append, List.nil_append, List.replicate_succ, List.replicate_zero, List.take_succ_cons, List.take_zero, List.drop_succ_cons, List.drop_zero, List.reverse_cons, List.reverse_nil, List.length_cons, List.length_nil, Option.toList, true_and, and_true, eq_self, ↓reduceIte, not_true_eq_false, not_false_eq_true, true_or, or_true, hw] | with_reducible refine And.intro ?_ ?_ | with_reducible intro _)
      all_goals (try (first | omega | contradiction | (intro a b a0 ab bn h; exact ht a b a0 ab bn (by omega))))
    · intro z3 ht
      rw [a63_2]
      repeat' (first | omega | with_reducible refine hK _ ?_ | simp only [w_iconst, w_istore, w_fall, Int.reduceToNat, w_iload, w_aload, x_g804_w0, w_ifc, cI, w_iadd, w_call, w_iand, w_if, w_zreturn, w_iinc, lgB, Nat.reduceSub, w_goto, a63_0, a63_35, a63_41, a63_47, R32, List.getElem?_cons_zero, List.getElem?_cons_succ, List.set_cons_zero, List.set_cons_succ, List.cons_append, List.nil_append, List.replicate_succ, List.replicate_zero, List.take_succ_cons, List.take_zero, List.drop_succ_cons, List.drop_zero, List.reverse_cons, List.reverse_nil, List.length_cons, List.length_nil, Option.toList, true_and, and_true, eq_self, ↓reduceIte, not_true_eq_false, not_false_eq_true, true_or, or_true, hw] | with_reducible refine And.intro ?_ ?_ | with_reducible intro _)
      all_goals (try (first | omega | contradiction | (exact Or.inl ⟨rfl, fun p o o0 op pn => unlM_sym (ht o p o0 op pn (Or.inl (by omega)))⟩)))
  refine Runs.of (al := [vr w, vi s]) (n := 2) trivial rfl rfl trivial ?_
  repeat' (first | omega | with_reducible refine hL2 _ ?_ | simp only [w_iconst, w_istore, w_fall, Int.reduceToNat, w_iload, w_aload, x_g804_w0, w_ifc, cI, w_iadd, w_call, w_iand, w_if, w_zreturn, w_iinc, lgB, Nat.reduceSub, w_goto, a63_0, a63_35, a63_41, a63_47, R32, List.getElem?_cons_zero, List.getElem?_cons_succ, List.set_cons_zero, List.set_cons_succ, List.cons_append, List.nil_append, List.replicate_succ, List.replicate_zero, List.take_succ_cons, List.take_zero, List.drop_succ_cons, List.drop_zero, List.reverse_cons, List.reverse_nil, List.length_cons, List.length_nil, Option.toList, true_and, and_true, eq_self, ↓reduceIte, not_true_eq_false, not_false_eq_true, true_or, or_true, hw] | with_reducible refine And.intro ?_ ?_ | with_reducible intro _)
  all_goals (try (first | omega | (exfalso; assumption) | (intro a b a0 ab bn h; omega)))
end Names1
