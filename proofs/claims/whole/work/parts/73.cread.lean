/-! ===== THE CLASS: a World's people ===== -/
/-- the k-th letter of what one reads -/
def rdL (P : Int → Int → Int) (p n k v : Int) : Prop := (∃ i, 0 ≤ i ∧ i < n ∧ plM P p i ∧ leftM P p i = k ∧ v = P p (8 + i)) ∨ ((∀ i, 0 ≤ i → i < n → plM P p i → leftM P p i ≠ k) ∧ v = -1)
def rdU (P : Int → Int → Int) (p n k : Int) : Prop := ∀ i, 0 ≤ i → i < n → plM P p i → leftM P p i ≠ k
theorem rdU_0 {P : Int → Int → Int} {p k : Int} : rdU P p 0 k := fun i h0 h1 => by omega
theorem rdU_s {P : Int → Int → Int} {p n k : Int} (h : rdU P p n k) (g : ¬ plM P p n ∨ leftM P p n ≠ k) : rdU P p (n + 1) k := fun i h0 h1 h2 => by
  by_cases z : i = n
  · subst z; rcases g with g | g; exact absurd h2 g; exact g
  · exact h i h0 (by omega) h2
/-- reading as one, letter by letter -/
def rdA (P : Int → Int → Int) (p q n : Int) : Prop := ∀ k, 0 ≤ k → k < n → ∀ v, rdL P p (P p 0) k v → v = P q (2 + k)
theorem rdA_s {P : Int → Int → Int} {p q n v : Int} (h : rdA P p q n) (hv : rdL P p (P p 0) n v) (e : v = P q (2 + n)) : rdA P p q (n + 1) := fun k k0 k1 u hu => by
  by_cases z : k = n
  · subst z
    rcases hv with ⟨i, i0, i1, i2, i3, i4⟩ | ⟨h1, h2⟩
    · rcases hu with ⟨j, j0, j1, j2, j3, j4⟩ | ⟨g1, g2⟩
      · have ij : i = j := by
          rcases Int.lt_trichotomy i j with y | y | y
          · have := leftM_lt (P := P) i0 y i2; omega
          · exact y
          · have := leftM_lt (P := P) j0 y j2; omega
        rw [j4, ← ij, ← i4]; exact e
      · exact absurd i3 (g1 i i0 i1 i2)
    · rcases hu with ⟨j, j0, j1, j2, j3, j4⟩ | ⟨g1, g2⟩
      · exact absurd j3 (h1 j j0 j1 j2)
      · rw [g2, ← h2]; exact e
  · exact h k k0 (by omega) u hu
theorem rdA_0 {P : Int → Int → Int} {p q : Int} : rdA P p q 0 := fun k k0 k1 => by omega
theorem rdA_reads {P : Int → Int → Int} {p q : Int} (hn : 0 ≤ P p 0) (ho : P p 1 ≠ -1) (hl : leftM P p (P p 0) = P q 0) : rdA P p q (P q 0) ↔ readsM P p q (P q 0) := by
  constructor
  · intro h
    refine ⟨⟨ho, hl⟩, fun i i0 i1 i2 i3 => ?_⟩
    have l0 := (leftM_le (P := P) (p := p) i0).1
    exact h (leftM P p i) l0 i3 _ (Or.inl ⟨i, i0, i1, ⟨ho, i2⟩, rfl, rfl⟩)
  · intro h k k0 k1 v hv
    rcases hv with ⟨i, i0, i1, i2, i3, i4⟩ | ⟨h1, h2⟩
    · rw [i4, ← i3]
      exact h.2 i i0 i1 i2.2 (by omega)
    · obtain ⟨i, i0, i1, i2, i3⟩ := leftM_ex (P := P) (p := p) k0 hn (by omega : k < leftM P p (P p 0))
      exact absurd i3 (h1 i i0 i1 i2)
theorem rdA_no {P : Int → Int → Int} {p q k v : Int} (k0 : 0 ≤ k) (k1 : k < P q 0) (hv : rdL P p (P p 0) k v) (e : v ≠ P q (2 + k)) : ¬ rdA P p q (P q 0) := fun h => e (h k k0 k1 v hv)
section World2
variable {tb : Tab} {d : Nat} {m : AM} {K : Out → AM → Prop} {S : Nat → Int → Int} {w : Nat} {r : Int → Int}
theorem a118_0 {tb : Tab} {d : Nat} {K : Out → AM → Prop} {ls st : List AV} {m : AM} : At tb d 118 K 0 ls st m = wpB tb (pg.2.1 118) (Runs tb pg d) K (At tb d 118 K) [.aload 0, .getfield 807, .iload 1, .iaload, .bipush (-1), .if_icmp .ne 12, .bipush 0, .freturn] ls st m := At.eq k118_0
theorem a118_12 {tb : Tab} {d : Nat} {K : Out → AM → Prop} {ls st : List AV} {m : AM} : At tb d 118 K 12 ls st m = wpB tb (pg.2.1 118) (Runs tb pg d) K (At tb d 118 K) [.bipush 6, .iload 1, .imul, .istore 2, .jsr 17] ls st m := At.eq k118_12
theorem a118_17 {tb : Tab} {d : Nat} {K : Out → AM → Prop} {ls st : List AV} {m : AM} : At tb d 118 K 17 ls st m = wpB tb (pg.2.1 118) (Runs tb pg d) K (At tb d 118 K) [.iload 2, .bipush 6, .iload 1, .imul, .aload 0, .getfield 805, .iload 1, .iaload, .iadd, .if_icmp .ge 64, .aload 0, .getfield 809, .iload 2, .iaload, .ifCond .le 56, .aload 0, .getfield 808, .iload 2, .iaload, .aload 0, .getfield 806, .iload 2, .iaload, .if_icmp .eq 58, .jsr 56] ls st m := At.eq k118_17
theorem a118_56 {tb : Tab} {d : Nat} {K : Out → AM → Prop} {ls st : List AV} {m : AM} : At tb d 118 K 56 ls st m = wpB tb (pg.2.1 118) (Runs tb pg d) K (At tb d 118 K) [.bipush 0, .freturn] ls st m := At.eq k118_56
theorem a118_58 {tb : Tab} {d : Nat} {K : Out → AM → Prop} {ls st : List AV} {m : AM} : At tb d 118 K 58 ls st m = wpB tb (pg.2.1 118) (Runs tb pg d) K (At tb d 118 K) [.iinc 2 1, .goto 17] ls st m := At.eq k118_58
theorem a118_64 {tb : Tab} {d : Nat} {K : Out → AM → Prop} {ls st : List AV} {m : AM} : At tb d 118 K 64 ls st m = wpB tb (pg.2.1 118) (Runs tb pg d) K (At tb d 118 K) [.bipush 1, .freturn] ls st m := At.eq k118_64
theorem w_118 {p : Int} (hw : isW w) (hR : RW S w r) (hA : AB r) (hp : 0 ≤ p ∧ p < r 4) (hK : ∀ v, yn v (wholeM (pr r) p (pr r p 0)) → K (.inl (some (vi v))) (X S m)) : Runs tb pg (d + 1) 118 [vr w, vi p] (X S m) K := by
  have b3 := hA.2.1.1
  have b4 := hA.2.1.2.1
  have b5 := hA.2.1.2.2.1
  have e0 := hR.1.1
  have e4 := hR.1.2.1
  obtain ⟨q1, q2, q3, q4⟩ := hR.2.2.1 p hp.1 hp.2
  have z := AB_pp hA hp.1 hp.2
  have hL : pr r p 1 ≠ -1 → At tb d 118 K 17 [vr w, vi p, vi (6 * p)] [] (X S m) := by
    intro hon
    have hL17 : (fun i : Int => ∀ (z2 : Int), z2 = 6 * p + i → (wholeM (pr r) p i) → At tb d 118 K 17 [vr w, vi p, vi z2] [] (X S m)) 0 := by
      refine loopZ (fun i : Int => ∀ (z2 : Int), z2 = 6 * p + i → (wholeM (pr r) p i) → At tb d 118 K 17 [vr w, vi p, vi z2] [] (X S m)) (pr r p 0) (by omega) ?_ ?_
      · intro i h0 h1 h9 z2 hz2 hq
        subst hz2
        have y := AB_pk hA hp.1 hp.2 h0 (by omega : i < 6)
        have q5 := q3 i h0 h1
        have q6 := q4 hon i h0 h1
        have q7 := q6.1
        have q8 := q6.2
        rw [a118_17]
        repeat' (first | omega | with_reducible refine h9 _ ?_ ?_ | with_reducible refine hK _ ?_ | simp only [w_aload, x_g807_w0, w_iload, x_iald, w_ialoads, w_ialoadw, w_iconst, w_ifc, cI, Int.reduceToNat, w_zreturn, w_imul, w_istore, w_fall, x_g805_w0, w_iadd, x_g809_w0, w_if, x_g808_w0, x_g806_w0, w_iinc, lgB, Nat.reduceSub, w_goto, isA_w1, isA_w2, isA_w3, isA_w4, isA_w5, isA_w6, isA_w7, isA_w8, isA_w10, isA_w11, isA_w12, isA_w14, isA_w15, isA_w16, len_w1, len_w2, len_w3, len_w4, len_w5, len_w6, len_w7, len_w8, len_w10, len_w11, len_w12, len_w14, len_w15, len_w16, Int.cast_ofNat_Int, a118_0, a118_12, a118_56, a118_58, a118_64, R32, List.getElem?_cons_zero, List.getElem?_cons_succ, List.set_cons_zero, List.set_cons_succ, List.cons_append, List.nil_append, List.replicate_succ, List.replicate_zero, List.take_succ_cons, List.take_zero, List.drop_succ_cons, List.drop_zero, List.reverse_cons, List.reverse_nil, List.length_cons, List.length_nil, Option.toList, true_and, and_true, eq_self, ↓reduceIte, not_true_eq_false, not_false_eq_true, true_or, or_true, hw] | with_reducible refine And.intro ?_ ?_ | with_reducible intro _)
        all_goals (try (first | omega | contradiction | (exact Or.inr ⟨rfl, fun x => by have := x.2 i h0 h1; omega⟩) | (exact (wholeM_s h0).mpr ⟨hq, by omega, by omega⟩)))
      · intro z2 hz2 hq
        subst hz2
        rw [a118_17]
        repeat' (first | omega | with_reducible refine hK _ ?_ | simp only [w_aload, x_g807_w0, w_iload, x_iald, w_ialoads, w_ialoadw, w_iconst, w_ifc, cI, Int.reduceToNat, w_zreturn, w_imul, w_istore, w_fall, x_g805_w0, w_iadd, x_g809_w0, w_if, x_g808_w0, x_g806_w0, w_iinc, lgB, Nat.reduceSub, w_goto, isA_w1, isA_w2, isA_w3, isA_w4, isA_w5, isA_w6, isA_w7, isA_w8, isA_w10, isA_w11, isA_w12, isA_w14, isA_w15, isA_w16, len_w1, len_w2, len_w3, len_w4, len_w5, len_w6, len_w7, len_w8, len_w10, len_w11, len_w12, len_w14, len_w15, len_w16, Int.cast_ofNat_Int, a118_0, a118_12, a118_56, a118_58, a118_64, R32, List.getElem?_cons_zero, List.getElem?_cons_succ, List.set_cons_zero, List.set_cons_succ, List.cons_append, List.nil_append, List.replicate_succ, List.replicate_zero, List.take_succ_cons, List.take_zero, List.drop_succ_cons, List.drop_zero, List.reverse_cons, List.reverse_nil, List.length_cons, List.length_nil, Option.toList, true_and, and_true, eq_self, ↓reduceIte, not_true_eq_false, not_false_eq_true, true_or, or_true, hw] | with_reducible refine And.intro ?_ ?_ | with_reducible intro _)
        all_goals (try (first | omega | contradiction | (exact Or.inl ⟨rfl, hq⟩)))
    exact hL17 _ (by omega) (wholeM_0.mpr hon)
  refine Runs.of (al := [vr w, vi p]) (n := 1) ⟨w, _, _, rfl, xo_w0 hw⟩ rfl rfl trivial ?_
  repeat' (first | omega | with_reducible refine hL ?_ | with_reducible refine hK _ ?_ | simp only [w_aload, x_g807_w0, w_iload, x_iald, w_ialoads, w_ialoadw, w_iconst, w_ifc, cI, Int.reduceToNat, w_zreturn, w_imul, w_istore, w_fall, x_g805_w0, w_iadd, x_g809_w0, w_if, x_g808_w0, x_g806_w0, w_iinc, lgB, Nat.reduceSub, w_goto, isA_w1, isA_w2, isA_w3, isA_w4, isA_w5, isA_w6, isA_w7, isA_w8, isA_w10, isA_w11, isA_w12, isA_w14, isA_w15, isA_w16, len_w1, len_w2, len_w3, len_w4, len_w5, len_w6, len_w7, len_w8, len_w10, len_w11, len_w12, len_w14, len_w15, len_w16, Int.cast_ofNat_Int, a118_0, a118_12, a118_56, a118_58, a118_64, R32, List.getElem?_cons_zero, List.getElem?_cons_succ, List.set_cons_zero, List.set_cons_succ, List.cons_append, List.nil_append, List.replicate_succ, List.replicate_zero, List.take_succ_cons, List.take_zero, List.drop_succ_cons, List.drop_zero, List.reverse_cons, List.reverse_nil, List.length_cons, List.length_nil, Option.toList, true_and, and_true, eq_self, ↓reduceIte, not_true_eq_false, not_false_eq_true, true_or, or_true, hw] | with_reducible refine And.intro ?_ ?_ | with_reducible intro _)
  all_goals (try (first | omega | (exfalso; assumption) | (exact Or.inr ⟨rfl, fun x => x.1 (by omega)⟩)))
theorem a114_0 {tb : Tab} {d : Nat} {K : Out → AM → Prop} {ls st : List AV} {m : AM} : At tb d 114 K 0 ls st m = wpB tb (pg.2.1 114) (Runs tb pg d) K (At tb d 114 K) [.bipush 0, .istore 1, .bipush 0, .istore 2, .jsr 4] ls st m := At.eq k114_0
theorem a114_4 {tb : Tab} {d : Nat} {K : Out → AM → Prop} {ls st : List AV} {m : AM} : At tb d 114 K 4 ls st m = wpB tb (pg.2.1 114) (Runs tb pg d) K (At tb d 114 K) [.iload 2, .aload 0, .getfield 804, .if_icmp .ge 32, .aload 0, .iload 2, .invokeinterface 118 2, .ifCond .eq 26, .iload 1, .bipush 1, .iload 2, .ishl, .ior, .istore 1, .jsr 26] ls st m := At.eq k114_4
theorem a114_26 {tb : Tab} {d : Nat} {K : Out → AM → Prop} {ls st : List AV} {m : AM} : At tb d 114 K 26 ls st m = wpB tb (pg.2.1 114) (Runs tb pg d) K (At tb d 114 K) [.iinc 2 1, .goto 4] ls st m := At.eq k114_26
theorem a114_32 {tb : Tab} {d : Nat} {K : Out → AM → Prop} {ls st : List AV} {m : AM} : At tb d 114 K 32 ls st m = wpB tb (pg.2.1 114) (Runs tb pg d) K (At tb d 114 K) [.iload 1, .ireturn] ls st m := At.eq k114_32
theorem w_114 (hw : isW w) (hR : RW S w r) (hA : AB r)  (hK : ∀ v, v = setZ (r 4) (fun p => wholeM (pr r) p (pr r p 0)) → K (.inl (some (vi v))) (X S m)) : Runs tb pg (d + 2) 114 [vr w] (X S m) K := by
  have b3 := hA.2.1.1
  have b4 := hA.2.1.2.1
  have b5 := hA.2.1.2.2.1
  have e0 := hR.1.1
  have e4 := hR.1.2.1
  have hL4 : (fun i : Int => ∀ (a : Int), a = setZ i (fun p => wholeM (pr r) p (pr r p 0)) → At tb (d + 1) 114 K 4 [vr w, vi a, vi i] [] (X S m)) 0 := by
    refine loopZ (fun i : Int => ∀ (a : Int), a = setZ i (fun p => wholeM (pr r) p (pr r p 0)) → At tb (d + 1) 114 K 4 [vr w, vi a, vi i] [] (X S m)) (r 4) (by omega) ?_ ?_
    · intro i h0 h1 h9 a ha
      have z := AB_pp hA h0 h1
      rw [a114_4]
      repeat' (first | omega | with_reducible refine h9 _ ?_ | simp only [w_iconst, w_istore, w_fall, Int.reduceToNat, w_iload, w_aload, x_g804_w0, w_ifc, cI, w_call, w_if, w_ishl, w_ior, w_iinc, lgB, Nat.reduceSub, w_goto, w_ireturn, a114_0, a114_26, a114_32, R32, List.getElem?_cons_zero, List.getElem?_cons_succ, List.set_cons_zero, List.set_cons_succ, List.cons_append, List.nil_append, List.replicate_succ, List.replicate_zero, List.take_succ_cons, List.take_zero, List.drop_succ_cons, List.drop_zero, List.reverse_cons, List.reverse_nil, List.length_cons, List.length_nil, Option.toList, true_and, and_true, eq_self, ↓reduceIte, not_true_eq_false, not_false_eq_true, true_or, or_true, hw] | with_reducible refine w_118 hw hR hA ⟨h0, h1⟩ (fun v1 x1 => ?_) | with_reducible refine And.intro ?_ ?_ | with_reducible intro _)
      all_goals (try (first | omega | contradiction | (unfold yn at x1; first | omega | (rcases x1 with ⟨x2, x3⟩ | ⟨x2, x3⟩; all_goals first | omega | exact setZ_yes h0 (by omega) ha x3 | exact setZ_no h0 ha x3))))
    · intro a ha
      rw [a114_4]
      repeat' (first | omega | with_reducible refine hK _ ?_ | simp only [w_iconst, w_istore, w_fall, Int.reduceToNat, w_iload, w_aload, x_g804_w0, w_ifc, cI, w_call, w_if, w_ishl, w_ior, w_iinc, lgB, Nat.reduceSub, w_goto, w_ireturn, a114_0, a114_26, a114_32, R32, List.getElem?_cons_zero, List.getElem?_cons_succ, List.set_cons_zero, List.set_cons_succ, List.cons_append, List.nil_append, List.replicate_succ, List.replicate_zero, List.take_succ_cons, List.take_zero, List.drop_succ_cons, List.drop_zero, List.reverse_cons, List.reverse_nil, List.length_cons, List.length_nil, Option.toList, true_and, and_true, eq_self, ↓reduceIte, not_true_eq_false, not_false_eq_true, true_or, or_true, hw] | with_reducible refine w_118 hw hR hA ⟨h0, h1⟩ (fun v1 x1 => ?_) | with_reducible refine And.intro ?_ ?_ | with_reducible intro _)
      all_goals (try (first | omega | contradiction | omega))
  refine Runs.of (al := [vr w]) (n := 2) ⟨w, _, _, rfl, xo_w0 hw⟩ rfl rfl trivial ?_
  repeat' (first | omega | with_reducible refine hL4 _ ?_ | simp only [w_iconst, w_istore, w_fall, Int.reduceToNat, w_iload, w_aload, x_g804_w0, w_ifc, cI, w_call, w_if, w_ishl, w_ior, w_iinc, lgB, Nat.reduceSub, w_goto, w_ireturn, a114_0, a114_26, a114_32, R32, List.getElem?_cons_zero, List.getElem?_cons_succ, List.set_cons_zero, List.set_cons_succ, List.cons_append, List.nil_append, List.replicate_succ, List.replicate_zero, List.take_succ_cons, List.take_zero, List.drop_succ_cons, List.drop_zero, List.reverse_cons, List.reverse_nil, List.length_cons, List.length_nil, Option.toList, true_and, and_true, eq_self, ↓reduceIte, not_true_eq_false, not_false_eq_true, true_or, or_true, hw] | with_reducible refine And.intro ?_ ?_ | with_reducible intro _)
  all_goals (try (first | omega | (exfalso; assumption) | rfl))
theorem a119_0 {tb : Tab} {d : Nat} {K : Out → AM → Prop} {ls st : List AV} {m : AM} : At tb d 119 K 0 ls st m = wpB tb (pg.2.1 119) (Runs tb pg d) K (At tb d 119 K) [.bipush 0, .istore 3, .bipush 6, .iload 1, .imul, .istore 4, .jsr 8] ls st m := At.eq k119_0
theorem a119_8 {tb : Tab} {d : Nat} {K : Out → AM → Prop} {ls st : List AV} {m : AM} : At tb d 119 K 8 ls st m = wpB tb (pg.2.1 119) (Runs tb pg d) K (At tb d 119 K) [.iload 4, .bipush 6, .iload 1, .imul, .aload 0, .getfield 805, .iload 1, .iaload, .iadd, .if_icmp .ge 56, .aload 0, .getfield 809, .iload 4, .iaload, .ifCond .le 50, .iload 3, .iload 2, .if_icmp .ne 47, .aload 0, .getfield 808, .iload 4, .iaload, .ireturn] ls st m := At.eq k119_8
theorem a119_47 {tb : Tab} {d : Nat} {K : Out → AM → Prop} {ls st : List AV} {m : AM} : At tb d 119 K 47 ls st m = wpB tb (pg.2.1 119) (Runs tb pg d) K (At tb d 119 K) [.iinc 3 1, .jsr 50] ls st m := At.eq k119_47
theorem a119_50 {tb : Tab} {d : Nat} {K : Out → AM → Prop} {ls st : List AV} {m : AM} : At tb d 119 K 50 ls st m = wpB tb (pg.2.1 119) (Runs tb pg d) K (At tb d 119 K) [.iinc 4 1, .goto 8] ls st m := At.eq k119_50
theorem a119_56 {tb : Tab} {d : Nat} {K : Out → AM → Prop} {ls st : List AV} {m : AM} : At tb d 119 K 56 ls st m = wpB tb (pg.2.1 119) (Runs tb pg d) K (At tb d 119 K) [.bipush (-1), .ireturn] ls st m := At.eq k119_56
theorem w_119 {p k : Int} (hw : isW w) (hR : RW S w r) (hA : AB r) (hp : 0 ≤ p ∧ p < r 4) (hon : pr r p 1 ≠ -1) (hk : R32 k) (hK : ∀ v, rdL (pr r) p (pr r p 0) k v → -1 ≤ v → v ≤ 10000 → K (.inl (some (vi v))) (X S m)) : Runs tb pg (d + 1) 119 [vr w, vi p, vi k] (X S m) K := by
  have b3 := hA.2.1.1
  have b4 := hA.2.1.2.1
  have b5 := hA.2.1.2.2.1
  have e0 := hR.1.1
  have e4 := hR.1.2.1
  obtain ⟨q1, q2, q3, q4⟩ := hR.2.2.1 p hp.1 hp.2
  have z := AB_pp hA hp.1 hp.2
  unfold R32 at hk
  have hL8 : (fun i : Int => ∀ (a : Int) (z2 : Int), a = leftM (pr r) p i → z2 = 6 * p + i → (rdU (pr r) p i k) → At tb d 119 K 8 [vr w, vi p, vi k, vi a, vi z2] [] (X S m)) 0 := by
    refine loopZ (fun i : Int => ∀ (a : Int) (z2 : Int), a = leftM (pr r) p i → z2 = 6 * p + i → (rdU (pr r) p i k) → At tb d 119 K 8 [vr w, vi p, vi k, vi a, vi z2] [] (X S m)) (pr r p 0) (by omega) ?_ ?_
    · intro i h0 h1 h9 a z2 ha hz2 hq
      subst hz2
      have y := AB_pk hA hp.1 hp.2 h0 (by omega : i < 6)
      have q5 := q3 i h0 h1
      have q6 := q4 hon i h0 h1
      have q7 := q6.1
      have q8 := q6.2
      have l0 := leftM_le (P := pr r) (p := p) h0
      rw [a119_8]
      repeat' (first | omega | with_reducible refine h9 _ _ ?_ ?_ ?_ | with_reducible refine hK _ ?_ ?_ ?_ | simp only [w_iconst, w_istore, w_iload, w_imul, w_fall, Int.reduceToNat, w_aload, x_g805_w0, x_iald, w_ialoads, w_ialoadw, w_iadd, w_ifc, cI, x_g809_w0, w_if, x_g808_w0, w_ireturn, w_iinc, lgB, Nat.reduceSub, w_goto, isA_w1, isA_w2, isA_w3, isA_w4, isA_w5, isA_w6, isA_w7, isA_w8, isA_w10, isA_w11, isA_w12, isA_w14, isA_w15, isA_w16, len_w1, len_w2, len_w3, len_w4, len_w5, len_w6, len_w7, len_w8, len_w10, len_w11, len_w12, len_w14, len_w15, len_w16, Int.cast_ofNat_Int, a119_0, a119_47, a119_50, a119_56, R32, List.getElem?_cons_zero, List.getElem?_cons_succ, List.set_cons_zero, List.set_cons_succ, List.cons_append, List.nil_append, List.replicate_succ, List.replicate_zero, List.take_succ_cons, List.take_zero, List.drop_succ_cons, List.drop_zero, List.reverse_cons, List.reverse_nil, List.length_cons, List.length_nil, Option.toList, true_and, and_true, eq_self, ↓reduceIte, not_true_eq_false, not_false_eq_true, true_or, or_true, hw] | with_reducible refine And.intro ?_ ?_ | with_reducible intro _)
      all_goals (try (first | omega | contradiction | (exact Or.inl ⟨i, h0, h1, ⟨hon, by omega⟩, by omega, q7⟩) | (rw [leftM_s h0]; split <;> omega) | (exact rdU_s hq (Or.inr (by omega))) | (exact rdU_s hq (Or.inl (fun x => by have := x.2; omega)))))
    · intro a z2 ha hz2 hq
      subst hz2
      rw [a119_8]
      repeat' (first | omega | with_reducible refine hK _ ?_ ?_ ?_ | simp only [w_iconst, w_istore, w_iload, w_imul, w_fall, Int.reduceToNat, w_aload, x_g805_w0, x_iald, w_ialoads, w_ialoadw, w_iadd, w_ifc, cI, x_g809_w0, w_if, x_g808_w0, w_ireturn, w_iinc, lgB, Nat.reduceSub, w_goto, isA_w1, isA_w2, isA_w3, isA_w4, isA_w5, isA_w6, isA_w7, isA_w8, isA_w10, isA_w11, isA_w12, isA_w14, isA_w15, isA_w16, len_w1, len_w2, len_w3, len_w4, len_w5, len_w6, len_w7, len_w8, len_w10, len_w11, len_w12, len_w14, len_w15, len_w16, Int.cast_ofNat_Int, a119_0, a119_47, a119_50, a119_56, R32, List.getElem?_cons_zero, List.getElem?_cons_succ, List.set_cons_zero, List.set_cons_succ, List.cons_append, List.nil_append, List.replicate_succ, List.replicate_zero, List.take_succ_cons, List.take_zero, List.drop_succ_cons, List.drop_zero, List.reverse_cons, List.reverse_nil, List.length_cons, List.length_nil, Option.toList, true_and, and_true, eq_self, ↓reduceIte, not_true_eq_false, not_false_eq_true, true_or, or_true, hw] | with_reducible refine And.intro ?_ ?_ | with_reducible intro _)
      all_goals (try (first | omega | contradiction | (exact Or.inr ⟨hq, rfl⟩)))
  refine Runs.of (al := [vr w, vi p, vi k]) (n := 2) ⟨w, _, _, rfl, xo_w0 hw⟩ rfl rfl trivial ?_
  repeat' (first | omega | with_reducible refine hL8 _ _ ?_ ?_ ?_ | simp only [w_iconst, w_istore, w_iload, w_imul, w_fall, Int.reduceToNat, w_aload, x_g805_w0, x_iald, w_ialoads, w_ialoadw, w_iadd, w_ifc, cI, x_g809_w0, w_if, x_g808_w0, w_ireturn, w_iinc, lgB, Nat.reduceSub, w_goto, isA_w1, isA_w2, isA_w3, isA_w4, isA_w5, isA_w6, isA_w7, isA_w8, isA_w10, isA_w11, isA_w12, isA_w14, isA_w15, isA_w16, len_w1, len_w2, len_w3, len_w4, len_w5, len_w6, len_w7, len_w8, len_w10, len_w11, len_w12, len_w14, len_w15, len_w16, Int.cast_ofNat_Int, a119_0, a119_47, a119_50, a119_56, R32, List.getElem?_cons_zero, List.getElem?_cons_succ, List.set_cons_zero, List.set_cons_succ, List.cons_append, List.nil_append, List.replicate_succ, List.replicate_zero, List.take_succ_cons, List.take_zero, List.drop_succ_cons, List.drop_zero, List.reverse_cons, List.reverse_nil, List.length_cons, List.length_nil, Option.toList, true_and, and_true, eq_self, ↓reduceIte, not_true_eq_false, not_false_eq_true, true_or, or_true, hw] | with_reducible refine And.intro ?_ ?_ | with_reducible intro _)
  all_goals (try (first | omega | (exfalso; assumption) | rfl | exact rdU_0))
theorem a121_0 {tb : Tab} {d : Nat} {K : Out → AM → Prop} {ls st : List AV} {m : AM} : At tb d 121 K 0 ls st m = wpB tb (pg.2.1 121) (Runs tb pg d) K (At tb d 121 K) [.aload 0, .iload 1, .invokeinterface 117 2, .aload 0, .getfield 805, .iload 2, .iaload, .if_icmp .eq 16, .bipush 0, .freturn] ls st m := At.eq k121_0
theorem a121_16 {tb : Tab} {d : Nat} {K : Out → AM → Prop} {ls st : List AV} {m : AM} : At tb d 121 K 16 ls st m = wpB tb (pg.2.1 121) (Runs tb pg d) K (At tb d 121 K) [.bipush 0, .istore 3, .jsr 18] ls st m := At.eq k121_16
theorem a121_18 {tb : Tab} {d : Nat} {K : Out → AM → Prop} {ls st : List AV} {m : AM} : At tb d 121 K 18 ls st m = wpB tb (pg.2.1 121) (Runs tb pg d) K (At tb d 121 K) [.iload 3, .aload 0, .getfield 805, .iload 2, .iaload, .if_icmp .ge 56, .aload 0, .iload 1, .iload 3, .invokeinterface 119 3, .aload 0, .getfield 806, .bipush 6, .iload 2, .imul, .iload 3, .iadd, .iaload, .if_icmp .eq 50, .bipush 0, .freturn] ls st m := At.eq k121_18
theorem a121_50 {tb : Tab} {d : Nat} {K : Out → AM → Prop} {ls st : List AV} {m : AM} : At tb d 121 K 50 ls st m = wpB tb (pg.2.1 121) (Runs tb pg d) K (At tb d 121 K) [.iinc 3 1, .goto 18] ls st m := At.eq k121_50
theorem a121_56 {tb : Tab} {d : Nat} {K : Out → AM → Prop} {ls st : List AV} {m : AM} : At tb d 121 K 56 ls st m = wpB tb (pg.2.1 121) (Runs tb pg d) K (At tb d 121 K) [.bipush 1, .freturn] ls st m := At.eq k121_56
theorem w_121 {p q : Int} (hw : isW w) (hR : RW S w r) (hA : AB r) (hp : 0 ≤ p ∧ p < r 4) (hon : pr r p 1 ≠ -1) (hq : 0 ≤ q ∧ q < r 4) (hK : ∀ v, yn v (readsM (pr r) p q (pr r q 0)) → K (.inl (some (vi v))) (X S m)) : Runs tb pg (d + 2) 121 [vr w, vi p, vi q] (X S m) K := by
  have b3 := hA.2.1.1
  have b4 := hA.2.1.2.1
  have b5 := hA.2.1.2.2.1
  have e0 := hR.1.1
  have e4 := hR.1.2.1
  obtain ⟨q1, q2, q3, q4⟩ := hR.2.2.1 p hp.1 hp.2
  have z := AB_pp hA hp.1 hp.2
  obtain ⟨o1, o2, o3, o4⟩ := hR.2.2.1 q hq.1 hq.2
  have zq := AB_pp hA hq.1 hq.2
  have lr := leftM_le (P := pr r) (p := p) (n := pr r p 0) (by omega)
  have hiff := fun h => rdA_reads (P := pr r) (p := p) (q := q) (by omega) hon h
  have hL : leftM (pr r) p (pr r p 0) = pr r q 0 → At tb (d + 1) 121 K 18 [vr w, vi p, vi q, vi 0] [] (X S m) := by
    intro hl
    have hiff := hiff hl
    have hL18 : (fun i : Int => (rdA (pr r) p q i) → At tb (d + 1) 121 K 18 [vr w, vi p, vi q, vi i] [] (X S m)) 0 := by
      refine loopZ (fun i : Int => (rdA (pr r) p q i) → At tb (d + 1) 121 K 18 [vr w, vi p, vi q, vi i] [] (X S m)) (pr r q 0) (by omega) ?_ ?_
      · intro i h0 h1 h9  hr
        have y := AB_pk hA hq.1 hq.2 h0 (by omega : i < 6)
        have o5 := o3 i h0 h1
        rw [a121_18]
        repeat' (first | omega | with_reducible refine h9  ?_ | with_reducible refine hK _ ?_ | simp only [w_aload, w_iload, w_call, x_g805_w0, x_iald, w_ialoads, w_ialoadw, w_ifc, cI, Int.reduceToNat, w_iconst, w_zreturn, w_istore, w_fall, x_g806_w0, w_imul, w_iadd, w_iinc, lgB, Nat.reduceSub, w_goto, isA_w1, isA_w2, isA_w3, isA_w4, isA_w5, isA_w6, isA_w7, isA_w8, isA_w10, isA_w11, isA_w12, isA_w14, isA_w15, isA_w16, len_w1, len_w2, len_w3, len_w4, len_w5, len_w6, len_w7, len_w8, len_w10, len_w11, len_w12, len_w14, len_w15, len_w16, Int.cast_ofNat_Int, a121_0, a121_16, a121_50, a121_56, R32, List.getElem?_cons_zero, List.getElem?_cons_succ, List.set_cons_zero, List.set_cons_succ, List.cons_append, List.nil_append, List.replicate_succ, List.replicate_zero, List.take_succ_cons, List.take_zero, List.drop_succ_cons, List.drop_zero, List.reverse_cons, List.reverse_nil, List.length_cons, List.length_nil, Option.toList, true_and, and_true, eq_self, ↓reduceIte, not_true_eq_false, not_false_eq_true, true_or, or_true, hw] | with_reducible refine w_119 hw hR hA hp hon ?_ (fun v1 x1 x2 x3 => ?_) | with_reducible refine And.intro ?_ ?_ | with_reducible intro _)
        all_goals (try (first | omega | contradiction | (unfold R32; omega) | (exact Or.inr ⟨rfl, fun x => rdA_no h0 h1 x1 (by omega) (hiff.mpr x)⟩) | (exact rdA_s hr x1 (by omega))))
      · intro  hr
        rw [a121_18]
        repeat' (first | omega | with_reducible refine hK _ ?_ | simp only [w_aload, w_iload, w_call, x_g805_w0, x_iald, w_ialoads, w_ialoadw, w_ifc, cI, Int.reduceToNat, w_iconst, w_zreturn, w_istore, w_fall, x_g806_w0, w_imul, w_iadd, w_iinc, lgB, Nat.reduceSub, w_goto, isA_w1, isA_w2, isA_w3, isA_w4, isA_w5, isA_w6, isA_w7, isA_w8, isA_w10, isA_w11, isA_w12, isA_w14, isA_w15, isA_w16, len_w1, len_w2, len_w3, len_w4, len_w5, len_w6, len_w7, len_w8, len_w10, len_w11, len_w12, len_w14, len_w15, len_w16, Int.cast_ofNat_Int, a121_0, a121_16, a121_50, a121_56, R32, List.getElem?_cons_zero, List.getElem?_cons_succ, List.set_cons_zero, List.set_cons_succ, List.cons_append, List.nil_append, List.replicate_succ, List.replicate_zero, List.take_succ_cons, List.take_zero, List.drop_succ_cons, List.drop_zero, List.reverse_cons, List.reverse_nil, List.length_cons, List.length_nil, Option.toList, true_and, and_true, eq_self, ↓reduceIte, not_true_eq_false, not_false_eq_true, true_or, or_true, hw] | with_reducible refine w_119 hw hR hA hp hon ?_ (fun v1 x1 x2 x3 => ?_) | with_reducible refine And.intro ?_ ?_ | with_reducible intro _)
        all_goals (try (first | omega | contradiction | (exact Or.inl ⟨rfl, hiff.mp hr⟩)))
    exact hL18 rdA_0
  refine Runs.of (al := [vr w, vi p, vi q]) (n := 1) ⟨w, _, _, rfl, xo_w0 hw⟩ rfl rfl trivial ?_
  repeat' (first | omega | with_reducible refine hL ?_ | with_reducible refine hK _ ?_ | simp only [w_aload, w_iload, w_call, x_g805_w0, x_iald, w_ialoads, w_ialoadw, w_ifc, cI, Int.reduceToNat, w_iconst, w_zreturn, w_istore, w_fall, x_g806_w0, w_imul, w_iadd, w_iinc, lgB, Nat.reduceSub, w_goto, isA_w1, isA_w2, isA_w3, isA_w4, isA_w5, isA_w6, isA_w7, isA_w8, isA_w10, isA_w11, isA_w12, isA_w14, isA_w15, isA_w16, len_w1, len_w2, len_w3, len_w4, len_w5, len_w6, len_w7, len_w8, len_w10, len_w11, len_w12, len_w14, len_w15, len_w16, Int.cast_ofNat_Int, a121_0, a121_16, a121_50, a121_56, R32, List.getElem?_cons_zero, List.getElem?_cons_succ, List.set_cons_zero, List.set_cons_succ, List.cons_append, List.nil_append, List.replicate_succ, List.replicate_zero, List.take_succ_cons, List.take_zero, List.drop_succ_cons, List.drop_zero, List.reverse_cons, List.reverse_nil, List.length_cons, List.length_nil, Option.toList, true_and, and_true, eq_self, ↓reduceIte, not_true_eq_false, not_false_eq_true, true_or, or_true, hw] | with_reducible refine w_117 hw hR hA hp (fun v1 x1 => ?_) | with_reducible refine And.intro ?_ ?_ | with_reducible intro _)
  all_goals (try (first | omega | (exfalso; assumption) | (exact Or.inr ⟨rfl, fun x => by have := x.1.2; omega⟩)))
theorem a120_0 {tb : Tab} {d : Nat} {K : Out → AM → Prop} {ls st : List AV} {m : AM} : At tb d 120 K 0 ls st m = wpB tb (pg.2.1 120) (Runs tb pg d) K (At tb d 120 K) [.aload 0, .getfield 807, .iload 1, .iaload, .bipush (-1), .if_icmp .ne 12, .bipush (-1), .ireturn] ls st m := At.eq k120_0
theorem a120_12 {tb : Tab} {d : Nat} {K : Out → AM → Prop} {ls st : List AV} {m : AM} : At tb d 120 K 12 ls st m = wpB tb (pg.2.1 120) (Runs tb pg d) K (At tb d 120 K) [.aload 0, .iload 1, .iload 1, .invokeinterface 121 3, .ifCond .eq 23, .iload 1, .ireturn] ls st m := At.eq k120_12
theorem a120_23 {tb : Tab} {d : Nat} {K : Out → AM → Prop} {ls st : List AV} {m : AM} : At tb d 120 K 23 ls st m = wpB tb (pg.2.1 120) (Runs tb pg d) K (At tb d 120 K) [.bipush 0, .istore 2, .jsr 25] ls st m := At.eq k120_23
theorem a120_25 {tb : Tab} {d : Nat} {K : Out → AM → Prop} {ls st : List AV} {m : AM} : At tb d 120 K 25 ls st m = wpB tb (pg.2.1 120) (Runs tb pg d) K (At tb d 120 K) [.iload 2, .aload 0, .getfield 804, .if_icmp .ge 50, .aload 0, .iload 1, .iload 2, .invokeinterface 121 3, .ifCond .eq 44, .iload 2, .ireturn] ls st m := At.eq k120_25
theorem a120_44 {tb : Tab} {d : Nat} {K : Out → AM → Prop} {ls st : List AV} {m : AM} : At tb d 120 K 44 ls st m = wpB tb (pg.2.1 120) (Runs tb pg d) K (At tb d 120 K) [.iinc 2 1, .goto 25] ls st m := At.eq k120_44
theorem a120_50 {tb : Tab} {d : Nat} {K : Out → AM → Prop} {ls st : List AV} {m : AM} : At tb d 120 K 50 ls st m = wpB tb (pg.2.1 120) (Runs tb pg d) K (At tb d 120 K) [.bipush (-1), .ireturn] ls st m := At.eq k120_50
theorem w_120 {p : Int} (hw : isW w) (hR : RW S w r) (hA : AB r) (hp : 0 ≤ p ∧ p < r 4) (hK : ∀ v, ((readsM (pr r) p p (pr r p 0) ∧ v = p) ∨ (¬ readsM (pr r) p p (pr r p 0) ∧ isFst (fun o => readsM (pr r) p o (pr r o 0)) (r 4) v)) → K (.inl (some (vi v))) (X S m)) : Runs tb pg (d + 3) 120 [vr w, vi p] (X S m) K := by
  have b3 := hA.2.1.1
  have b4 := hA.2.1.2.1
  have b5 := hA.2.1.2.2.1
  have e0 := hR.1.1
  have e4 := hR.1.2.1
  obtain ⟨q1, q2, q3, q4⟩ := hR.2.2.1 p hp.1 hp.2
  have z := AB_pp hA hp.1 hp.2
  have hL : pr r p 1 ≠ -1 → ¬ readsM (pr r) p p (pr r p 0) → At tb (d + 2) 120 K 25 [vr w, vi p, vi 0] [] (X S m) := by
    intro hon hnr
    have hL25 : (fun i : Int => (noB (fun o => readsM (pr r) p o (pr r o 0)) i) → At tb (d + 2) 120 K 25 [vr w, vi p, vi i] [] (X S m)) 0 := by
      refine loopZ (fun i : Int => (noB (fun o => readsM (pr r) p o (pr r o 0)) i) → At tb (d + 2) 120 K 25 [vr w, vi p, vi i] [] (X S m)) (r 4) (by omega) ?_ ?_
      · intro i h0 h1 h9  hf
        have z3 := AB_pp hA h0 h1
        rw [a120_25]
        repeat' (first | omega | with_reducible refine h9  ?_ | with_reducible refine hK _ ?_ | simp only [w_aload, x_g807_w0, w_iload, x_iald, w_ialoads, w_ialoadw, w_iconst, w_ifc, cI, Int.reduceToNat, w_ireturn, w_call, w_if, w_istore, w_fall, x_g804_w0, w_iinc, lgB, Nat.reduceSub, w_goto, isA_w1, isA_w2, isA_w3, isA_w4, isA_w5, isA_w6, isA_w7, isA_w8, isA_w10, isA_w11, isA_w12, isA_w14, isA_w15, isA_w16, len_w1, len_w2, len_w3, len_w4, len_w5, len_w6, len_w7, len_w8, len_w10, len_w11, len_w12, len_w14, len_w15, len_w16, Int.cast_ofNat_Int, a120_0, a120_12, a120_23, a120_44, a120_50, R32, List.getElem?_cons_zero, List.getElem?_cons_succ, List.set_cons_zero, List.set_cons_succ, List.cons_append, List.nil_append, List.replicate_succ, List.replicate_zero, List.take_succ_cons, List.take_zero, List.drop_succ_cons, List.drop_zero, List.reverse_cons, List.reverse_nil, List.length_cons, List.length_nil, Option.toList, true_and, and_true, eq_self, ↓reduceIte, not_true_eq_false, not_false_eq_true, true_or, or_true, hw] | with_reducible refine w_121 hw hR hA hp hon ⟨h0, h1⟩ (fun v1 x1 => ?_) | with_reducible refine And.intro ?_ ?_ | with_reducible intro _)
        all_goals (try (first | omega | contradiction | (unfold yn at x1; first | omega | (rcases x1 with ⟨x2, x3⟩ | ⟨x2, x3⟩; all_goals first | omega | (exact Or.inr ⟨hnr, Or.inr ⟨h0, h1, x3, fun o o0 o1 => hf o o0 o1⟩⟩) | (exact fun o o0 o1 => (by by_cases z : o = i; (subst z; exact x3); exact hf o o0 (by omega)))))))
      · intro  hf
        rw [a120_25]
        repeat' (first | omega | with_reducible refine hK _ ?_ | simp only [w_aload, x_g807_w0, w_iload, x_iald, w_ialoads, w_ialoadw, w_iconst, w_ifc, cI, Int.reduceToNat, w_ireturn, w_call, w_if, w_istore, w_fall, x_g804_w0, w_iinc, lgB, Nat.reduceSub, w_goto, isA_w1, isA_w2, isA_w3, isA_w4, isA_w5, isA_w6, isA_w7, isA_w8, isA_w10, isA_w11, isA_w12, isA_w14, isA_w15, isA_w16, len_w1, len_w2, len_w3, len_w4, len_w5, len_w6, len_w7, len_w8, len_w10, len_w11, len_w12, len_w14, len_w15, len_w16, Int.cast_ofNat_Int, a120_0, a120_12, a120_23, a120_44, a120_50, R32, List.getElem?_cons_zero, List.getElem?_cons_succ, List.set_cons_zero, List.set_cons_succ, List.cons_append, List.nil_append, List.replicate_succ, List.replicate_zero, List.take_succ_cons, List.take_zero, List.drop_succ_cons, List.drop_zero, List.reverse_cons, List.reverse_nil, List.length_cons, List.length_nil, Option.toList, true_and, and_true, eq_self, ↓reduceIte, not_true_eq_false, not_false_eq_true, true_or, or_true, hw] | with_reducible refine w_121 hw hR hA hp hon ⟨h0, h1⟩ (fun v1 x1 => ?_) | with_reducible refine And.intro ?_ ?_ | with_reducible intro _)
        all_goals (try (first | omega | contradiction | (exact Or.inr ⟨hnr, Or.inl ⟨rfl, hf⟩⟩)))
    exact hL25 (fun o o0 o1 => by omega)
  refine Runs.of (al := [vr w, vi p]) (n := 1) ⟨w, _, _, rfl, xo_w0 hw⟩ rfl rfl trivial ?_
  repeat' (first | omega | with_reducible refine hL ?_ ?_ | with_reducible refine hK _ ?_ | simp only [w_aload, x_g807_w0, w_iload, x_iald, w_ialoads, w_ialoadw, w_iconst, w_ifc, cI, Int.reduceToNat, w_ireturn, w_call, w_if, w_istore, w_fall, x_g804_w0, w_iinc, lgB, Nat.reduceSub, w_goto, isA_w1, isA_w2, isA_w3, isA_w4, isA_w5, isA_w6, isA_w7, isA_w8, isA_w10, isA_w11, isA_w12, isA_w14, isA_w15, isA_w16, len_w1, len_w2, len_w3, len_w4, len_w5, len_w6, len_w7, len_w8, len_w10, len_w11, len_w12, len_w14, len_w15, len_w16, Int.cast_ofNat_Int, a120_0, a120_12, a120_23, a120_44, a120_50, R32, List.getElem?_cons_zero, List.getElem?_cons_succ, List.set_cons_zero, List.set_cons_succ, List.cons_append, List.nil_append, List.replicate_succ, List.replicate_zero, List.take_succ_cons, List.take_zero, List.drop_succ_cons, List.drop_zero, List.reverse_cons, List.reverse_nil, List.length_cons, List.length_nil, Option.toList, true_and, and_true, eq_self, ↓reduceIte, not_true_eq_false, not_false_eq_true, true_or, or_true, hw] | (have q0 : pr r p 1 ≠ -1 := (by omega); (with_reducible refine w_121 hw hR hA hp q0 hp (fun v1 x1 => ?_))) | with_reducible refine And.intro ?_ ?_ | with_reducible intro _)
  all_goals (try (first | omega | (exfalso; assumption) | (unfold yn at x1; first | omega | (rcases x1 with ⟨x2, x3⟩ | ⟨x2, x3⟩; all_goals first | omega | exact x3 | exact Or.inl x3 | exact Or.inl ⟨x3, rfl⟩)) | (refine Or.inr ⟨fun x => x.1.1 (by omega), Or.inl ⟨rfl, fun o o0 o1 x => x.1.1 (by omega)⟩⟩)))
end World2
