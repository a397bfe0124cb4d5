/-! ===== THE CLASS: a World, and the row that it stands for ===== -/
def RWf (S : Nat → Int → Int) (w : Nat) (r : Int → Int) : Prop := ∀ f, 0 ≤ f → f < r 3 → S (w + 1) f = fr r f 0 ∧ S (w + 2) f = fr r f 1 ∧ S (w + 3) f = fr r f 2
def RWp (S : Nat → Int → Int) (w : Nat) (r : Int → Int) : Prop := ∀ p, 0 ≤ p → p < r 4 → S (w + 4) p = pr r p 0 ∧ S (w + 6) p = pr r p 1 ∧ (∀ k, 0 ≤ k → k < pr r p 0 → S (w + 5) (6 * p + k) = pr r p (2 + k)) ∧ (pr r p 1 ≠ -1 → ∀ k, 0 ≤ k → k < pr r p 0 → S (w + 7) (6 * p + k) = pr r p (8 + k) ∧ S (w + 8) (6 * p + k) = pr r p (14 + k))
def RWd (S : Nat → Int → Int) (w : Nat) (r : Int → Int) : Prop := S (w + 9) 0 = r 5 ∧ ∀ k, 0 ≤ k → k < r 5 → S (w + 10) k = dr r k 0 ∧ S (w + 11) k = dr r k 1 ∧ S (w + 12) k = dr r k 2
def RWl (S : Nat → Int → Int) (w : Nat) (r : Int → Int) : Prop := S (w + 13) 0 = r 11 ∧ ∀ k c, 0 ≤ k → k < r 11 → 0 ≤ c → c < 4 → S (w + 14) (4 * (r 11 - 1 - k) + c) = gr r k c
def RWs (S : Nat → Int → Int) (w : Nat) (r : Int → Int) : Prop := ∀ j, 0 ≤ j → j < 5 → S (w + 15) j = r (6 + j)
/-- the World at w stands for the row r (but for its law) -/
def RW (S : Nat → Int → Int) (w : Nat) (r : Int → Int) : Prop := (S w 0 = r 3 ∧ S w 4 = r 4 ∧ S w 13 = r 12 ∧ S w 14 = r 0) ∧ RWf S w r ∧ RWp S w r ∧ RWd S w r ∧ RWl S w r ∧ RWs S w r
/-- what always holds of one, of a field -/
theorem AB_pp {r : Int → Int} (hA : AB r) {p : Int} (h0 : 0 ≤ p) (h1 : p < r 4) : (1 ≤ pr r p 0 ∧ pr r p 0 ≤ 6) ∧ (-1 ≤ pr r p 1 ∧ pr r p 1 < r 3) ∧ p < 6 := by
  have a := hA.2.1.2.1
  have b := hA.2.2.1 p h0 (by omega)
  have c := hA.2.2.2.2.2 p h0 h1
  omega
theorem AB_pk {r : Int → Int} (hA : AB r) {p k : Int} (h0 : 0 ≤ p) (h1 : p < r 4) (k0 : 0 ≤ k) (k1 : k < 6) : (0 ≤ pr r p (14 + k) ∧ pr r p (14 + k) ≤ 9) ∧ (-1 ≤ pr r p (2 + k) ∧ pr r p (2 + k) < 8) ∧ (-1 ≤ pr r p (8 + k) ∧ pr r p (8 + k) ≤ 10000) := by
  have a := hA.2.1.2.1
  have b := hA.2.2.1 p h0 (by omega)
  have c := b.2.2 k k0 k1
  have d := hA.1 (31 + 20 * p + (8 + k)) (by omega)
  exact ⟨c.1, c.2, d⟩
theorem AB_ff {r : Int → Int} (hA : AB r) {f : Int} (h0 : 0 ≤ f) (h1 : f < r 3) : (0 ≤ fr r f 0 ∧ fr r f 0 ≤ 9) ∧ (0 ≤ fr r f 1 ∧ fr r f 1 ≤ 99) ∧ (0 ≤ fr r f 2 ∧ fr r f 2 ≤ 20) ∧ f < 6 := by
  have a := hA.2.1.1
  have b := hA.2.2.2.1 f h0 (by omega)
  omega
theorem usedM_s {P : Int → Int → Int} {f n : Int} (h : 0 ≤ n) : usedM P (n + 1) f = usedM P n f + if P n 1 = f then P n 0 else 0 := sumZ_s h
theorem usedM_rg {r : Int → Int} (hA : AB r) {n f : Int} (h0 : 0 ≤ n) (h1 : n ≤ r 4) : 0 ≤ usedM (pr r) n f ∧ usedM (pr r) n f ≤ 36 := by
  have a := hA.2.1.2.1
  have := sumZ_le (n := n) (a := 0) (b := 6) (f := fun p => if pr r p 1 = f then pr r p 0 else 0) h0 (fun p p0 p1 => by have := AB_pp hA p0 (by omega); split <;> omega)
  unfold usedM
  omega
section World1
variable {tb : Tab} {d : Nat} {m : AM} {K : Out → AM → Prop} {S : Nat → Int → Int} {w : Nat} {r : Int → Int}
theorem a107_0 {tb : Tab} {d : Nat} {K : Out → AM → Prop} {ls st : List AV} {m : AM} : At tb d 107 K 0 ls st m = wpB tb (pg.2.1 107) (Runs tb pg d) K (At tb d 107 K) [.iload 1, .ifCond .lt 16, .iload 1, .aload 0, .getfield 800, .if_icmp .ge 16, .bipush 1, .goto 17] ls st m := At.eq k107_0
theorem a107_16 {tb : Tab} {d : Nat} {K : Out → AM → Prop} {ls st : List AV} {m : AM} : At tb d 107 K 16 ls st m = wpB tb (pg.2.1 107) (Runs tb pg d) K (At tb d 107 K) [.bipush 0, .jsr 17] ls st m := At.eq k107_16
theorem a107_17 {tb : Tab} {d : Nat} {K : Out → AM → Prop} {ls st : List AV} {m : AM} : At tb d 107 K 17 ls st m = wpB tb (pg.2.1 107) (Runs tb pg d) K (At tb d 107 K) [.freturn] ls st m := At.eq k107_17
theorem w_107 {f : Int} (hw : isW w) (hR : RW S w r) (hA : AB r) (hf : R32 f) (hK : ∀ v, v = (if 0 ≤ f ∧ f < r 3 then 1 else 0) → K (.inl (some (vi v))) (X S m)) : Runs tb pg (d + 1) 107 [vr w, vi f] (X S m) K := by
  refine Runs.of (al := [vr w, vi f]) (n := 0) ⟨w, _, _, rfl, xo_w0 hw⟩ rfl rfl trivial ?_
  have b3 := hA.2.1.1
  have b4 := hA.2.1.2.1
  have b5 := hA.2.1.2.2.1
  have e0 := hR.1.1
  have e4 := hR.1.2.1
  unfold R32 at hf
  repeat' (first | omega | with_reducible refine hK _ ?_ | simp only [w_iload, w_if, cI, Int.reduceToNat, w_aload, x_g800_w0, w_ifc, w_iconst, w_goto, w_fall, w_zreturn, a107_0, a107_16, a107_17, R32, List.getElem?_cons_zero, List.getElem?_cons_succ, List.set_cons_zero, List.set_cons_succ, List.cons_append, List.nil_append, List.replicate_succ, List.replicate_zero, List.take_succ_cons, List.take_zero, List.drop_succ_cons, List.drop_zero, List.reverse_cons, List.reverse_nil, List.length_cons, List.length_nil, Option.toList, true_and, and_true, eq_self, ↓reduceIte, not_true_eq_false, not_false_eq_true, true_or, or_true, hw] | with_reducible refine And.intro ?_ ?_ | with_reducible intro _)
  all_goals (try (first | omega | (exfalso; assumption) | grind))
theorem a108_0 {tb : Tab} {d : Nat} {K : Out → AM → Prop} {ls st : List AV} {m : AM} : At tb d 108 K 0 ls st m = wpB tb (pg.2.1 108) (Runs tb pg d) K (At tb d 108 K) [.iload 1, .ifCond .lt 16, .iload 1, .aload 0, .getfield 804, .if_icmp .ge 16, .bipush 1, .goto 17] ls st m := At.eq k108_0
theorem a108_16 {tb : Tab} {d : Nat} {K : Out → AM → Prop} {ls st : List AV} {m : AM} : At tb d 108 K 16 ls st m = wpB tb (pg.2.1 108) (Runs tb pg d) K (At tb d 108 K) [.bipush 0, .jsr 17] ls st m := At.eq k108_16
theorem a108_17 {tb : Tab} {d : Nat} {K : Out → AM → Prop} {ls st : List AV} {m : AM} : At tb d 108 K 17 ls st m = wpB tb (pg.2.1 108) (Runs tb pg d) K (At tb d 108 K) [.freturn] ls st m := At.eq k108_17
theorem w_108 {p : Int} (hw : isW w) (hR : RW S w r) (hA : AB r) (hp : R32 p) (hK : ∀ v, v = (if 0 ≤ p ∧ p < r 4 then 1 else 0) → K (.inl (some (vi v))) (X S m)) : Runs tb pg (d + 1) 108 [vr w, vi p] (X S m) K := by
  refine Runs.of (al := [vr w, vi p]) (n := 0) ⟨w, _, _, rfl, xo_w0 hw⟩ rfl rfl trivial ?_
  have b3 := hA.2.1.1
  have b4 := hA.2.1.2.1
  have b5 := hA.2.1.2.2.1
  have e0 := hR.1.1
  have e4 := hR.1.2.1
  unfold R32 at hp
  repeat' (first | omega | with_reducible refine hK _ ?_ | simp only [w_iload, w_if, cI, Int.reduceToNat, w_aload, x_g804_w0, w_ifc, w_iconst, w_goto, w_fall, w_zreturn, a108_0, a108_16, a108_17, R32, List.getElem?_cons_zero, List.getElem?_cons_succ, List.set_cons_zero, List.set_cons_succ, List.cons_append, List.nil_append, List.replicate_succ, List.replicate_zero, List.take_succ_cons, List.take_zero, List.drop_succ_cons, List.drop_zero, List.reverse_cons, List.reverse_nil, List.length_cons, List.length_nil, Option.toList, true_and, and_true, eq_self, ↓reduceIte, not_true_eq_false, not_false_eq_true, true_or, or_true, hw] | with_reducible refine And.intro ?_ ?_ | with_reducible intro _)
  all_goals (try (first | omega | (exfalso; assumption) | grind))
theorem a109_0 {tb : Tab} {d : Nat} {K : Out → AM → Prop} {ls st : List AV} {m : AM} : At tb d 109 K 0 ls st m = wpB tb (pg.2.1 109) (Runs tb pg d) K (At tb d 109 K) [.bipush 0, .istore 2, .bipush 0, .istore 3, .jsr 4] ls st m := At.eq k109_0
theorem a109_4 {tb : Tab} {d : Nat} {K : Out → AM → Prop} {ls st : List AV} {m : AM} : At tb d 109 K 4 ls st m = wpB tb (pg.2.1 109) (Runs tb pg d) K (At tb d 109 K) [.iload 3, .aload 0, .getfield 804, .if_icmp .ge 37, .aload 0, .getfield 807, .iload 3, .iaload, .iload 1, .if_icmp .ne 31, .iload 2, .aload 0, .getfield 805, .iload 3, .iaload, .iadd, .istore 2, .jsr 31] ls st m := At.eq k109_4
theorem a109_31 {tb : Tab} {d : Nat} {K : Out → AM → Prop} {ls st : List AV} {m : AM} : At tb d 109 K 31 ls st m = wpB tb (pg.2.1 109) (Runs tb pg d) K (At tb d 109 K) [.iinc 3 1, .goto 4] ls st m := At.eq k109_31
theorem a109_37 {tb : Tab} {d : Nat} {K : Out → AM → Prop} {ls st : List AV} {m : AM} : At tb d 109 K 37 ls st m = wpB tb (pg.2.1 109) (Runs tb pg d) K (At tb d 109 K) [.iload 2, .ireturn] ls st m := At.eq k109_37
theorem w_109 {f : Int} (hw : isW w) (hR : RW S w r) (hA : AB r) (hf : R32 f) (hK : ∀ v, v = usedM (pr r) (r 4) f → K (.inl (some (vi v))) (X S m)) : Runs tb pg (d + 1) 109 [vr w, vi f] (X S m) K := by
  have b3 := hA.2.1.1
  have b4 := hA.2.1.2.1
  have b5 := hA.2.1.2.2.1
  have e0 := hR.1.1
  have e4 := hR.1.2.1
  unfold R32 at hf
  have hL4 : (fun i : Int => ∀ (a : Int), a = usedM (pr r) i f → At tb d 109 K 4 [vr w, vi f, vi a, vi i] [] (X S m)) 0 := by
    refine loopZ (fun i : Int => ∀ (a : Int), a = usedM (pr r) i f → At tb d 109 K 4 [vr w, vi f, vi a, vi i] [] (X S m)) (r 4) (by omega) ?_ ?_
    · intro i h0 h1 h9 a ha
      have q := hR.2.2.1 i h0 h1
      have q1 := q.1
      have q2 := q.2.1
      have z := AB_pp hA h0 h1
      rw [a109_4]
      repeat' (first | omega | with_reducible refine h9 _ ?_ | simp only [w_iconst, w_istore, w_fall, Int.reduceToNat, w_iload, w_aload, x_g804_w0, w_ifc, cI, x_g807_w0, x_iald, w_ialoads, w_ialoadw, x_g805_w0, w_iadd, w_iinc, lgB, Nat.reduceSub, w_goto, w_ireturn, isA_w1, isA_w2, isA_w3, isA_w4, isA_w5, isA_w6, isA_w7, isA_w8, isA_w10, isA_w11, isA_w12, isA_w14, isA_w15, isA_w16, len_w1, len_w2, len_w3, len_w4, len_w5, len_w6, len_w7, len_w8, len_w10, len_w11, len_w12, len_w14, len_w15, len_w16, Int.cast_ofNat_Int, a109_0, a109_31, a109_37, R32, List.getElem?_cons_zero, List.getElem?_cons_succ, List.set_cons_zero, List.set_cons_succ, List.cons_append, List.nil_append, List.replicate_succ, List.replicate_zero, List.take_succ_cons, List.take_zero, List.drop_succ_cons, List.drop_zero, List.reverse_cons, List.reverse_nil, List.length_cons, List.length_nil, Option.toList, true_and, and_true, eq_self, ↓reduceIte, not_true_eq_false, not_false_eq_true, true_or, or_true, hw] | with_reducible refine And.intro ?_ ?_ | with_reducible intro _)
      all_goals (try (first | omega | contradiction | (rw [usedM_s h0]; split <;> omega)))
    · intro a ha
      rw [a109_4]
      repeat' (first | omega | with_reducible refine hK _ ?_ | simp only [w_iconst, w_istore, w_fall, Int.reduceToNat, w_iload, w_aload, x_g804_w0, w_ifc, cI, x_g807_w0, x_iald, w_ialoads, w_ialoadw, x_g805_w0, w_iadd, w_iinc, lgB, Nat.reduceSub, w_goto, w_ireturn, isA_w1, isA_w2, isA_w3, isA_w4, isA_w5, isA_w6, isA_w7, isA_w8, isA_w10, isA_w11, isA_w12, isA_w14, isA_w15, isA_w16, len_w1, len_w2, len_w3, len_w4, len_w5, len_w6, len_w7, len_w8, len_w10, len_w11, len_w12, len_w14, len_w15, len_w16, Int.cast_ofNat_Int, a109_0, a109_31, a109_37, R32, List.getElem?_cons_zero, List.getElem?_cons_succ, List.set_cons_zero, List.set_cons_succ, List.cons_append, List.nil_append, List.replicate_succ, List.replicate_zero, List.take_succ_cons, List.take_zero, List.drop_succ_cons, List.drop_zero, List.reverse_cons, List.reverse_nil, List.length_cons, List.length_nil, Option.toList, true_and, and_true, eq_self, ↓reduceIte, not_true_eq_false, not_false_eq_true, true_or, or_true, hw] | with_reducible refine And.intro ?_ ?_ | with_reducible intro _)
      all_goals (try (first | omega | contradiction | omega))
  refine Runs.of (al := [vr w, vi f]) (n := 2) ⟨w, _, _, rfl, xo_w0 hw⟩ rfl rfl trivial ?_
  repeat' (first | omega | with_reducible refine hL4 _ ?_ | simp only [w_iconst, w_istore, w_fall, Int.reduceToNat, w_iload, w_aload, x_g804_w0, w_ifc, cI, x_g807_w0, x_iald, w_ialoads, w_ialoadw, x_g805_w0, w_iadd, w_iinc, lgB, Nat.reduceSub, w_goto, w_ireturn, isA_w1, isA_w2, isA_w3, isA_w4, isA_w5, isA_w6, isA_w7, isA_w8, isA_w10, isA_w11, isA_w12, isA_w14, isA_w15, isA_w16, len_w1, len_w2, len_w3, len_w4, len_w5, len_w6, len_w7, len_w8, len_w10, len_w11, len_w12, len_w14, len_w15, len_w16, Int.cast_ofNat_Int, a109_0, a109_31, a109_37, R32, List.getElem?_cons_zero, List.getElem?_cons_succ, List.set_cons_zero, List.set_cons_succ, List.cons_append, List.nil_append, List.replicate_succ, List.replicate_zero, List.take_succ_cons, List.take_zero, List.drop_succ_cons, List.drop_zero, List.reverse_cons, List.reverse_nil, List.length_cons, List.length_nil, Option.toList, true_and, and_true, eq_self, ↓reduceIte, not_true_eq_false, not_false_eq_true, true_or, or_true, hw] | with_reducible refine And.intro ?_ ?_ | with_reducible intro _)
  all_goals (try (first | omega | (exfalso; assumption) | rfl))
theorem a110_0 {tb : Tab} {d : Nat} {K : Out → AM → Prop} {ls st : List AV} {m : AM} : At tb d 110 K 0 ls st m = wpB tb (pg.2.1 110) (Runs tb pg d) K (At tb d 110 K) [.aload 0, .getfield 803, .iload 1, .iaload, .aload 0, .iload 1, .invokeinterface 109 2, .isub, .ireturn] ls st m := At.eq k110_0
theorem w_110 {f : Int} (hw : isW w) (hR : RW S w r) (hA : AB r) (hf : 0 ≤ f ∧ f < r 3) (hK : ∀ v, v = fr r f 2 - usedM (pr r) (r 4) f → K (.inl (some (vi v))) (X S m)) : Runs tb pg (d + 2) 110 [vr w, vi f] (X S m) K := by
  refine Runs.of (al := [vr w, vi f]) (n := 0) ⟨w, _, _, rfl, xo_w0 hw⟩ rfl rfl trivial ?_
  have b3 := hA.2.1.1
  have b4 := hA.2.1.2.1
  have b5 := hA.2.1.2.2.1
  have e0 := hR.1.1
  have e4 := hR.1.2.1
  have q := hR.2.1 f hf.1 hf.2
  have q3 := q.2.2
  repeat' (first | omega | with_reducible refine hK _ ?_ | simp only [w_aload, x_g803_w0, w_iload, x_iald, w_ialoads, w_ialoadw, w_call, w_isub, w_ireturn, isA_w1, isA_w2, isA_w3, isA_w4, isA_w5, isA_w6, isA_w7, isA_w8, isA_w10, isA_w11, isA_w12, isA_w14, isA_w15, isA_w16, len_w1, len_w2, len_w3, len_w4, len_w5, len_w6, len_w7, len_w8, len_w10, len_w11, len_w12, len_w14, len_w15, len_w16, Int.cast_ofNat_Int, a110_0, R32, List.getElem?_cons_zero, List.getElem?_cons_succ, List.set_cons_zero, List.set_cons_succ, List.cons_append, List.nil_append, List.replicate_succ, List.replicate_zero, List.take_succ_cons, List.take_zero, List.drop_succ_cons, List.drop_zero, List.reverse_cons, List.reverse_nil, List.length_cons, List.length_nil, Option.toList, true_and, and_true, eq_self, ↓reduceIte, not_true_eq_false, not_false_eq_true, true_or, or_true, hw] | with_reducible refine w_109 hw hR hA ?_ (fun v1 x1 => ?_) | with_reducible refine And.intro ?_ ?_ | with_reducible intro _)
  all_goals (try (first | omega | (exfalso; assumption) | (unfold R32; omega)))
theorem a111_0 {tb : Tab} {d : Nat} {K : Out → AM → Prop} {ls st : List AV} {m : AM} : At tb d 111 K 0 ls st m = wpB tb (pg.2.1 111) (Runs tb pg d) K (At tb d 111 K) [.aload 0, .iload 2, .invokeinterface 110 2, .aload 0, .getfield 807, .iload 1, .iaload, .iload 2, .if_icmp .ne 24, .aload 0, .getfield 805, .iload 1, .iaload, .goto 25] ls st m := At.eq k111_0
theorem a111_24 {tb : Tab} {d : Nat} {K : Out → AM → Prop} {ls st : List AV} {m : AM} : At tb d 111 K 24 ls st m = wpB tb (pg.2.1 111) (Runs tb pg d) K (At tb d 111 K) [.bipush 0, .jsr 25] ls st m := At.eq k111_24
theorem a111_25 {tb : Tab} {d : Nat} {K : Out → AM → Prop} {ls st : List AV} {m : AM} : At tb d 111 K 25 ls st m = wpB tb (pg.2.1 111) (Runs tb pg d) K (At tb d 111 K) [.iadd, .ireturn] ls st m := At.eq k111_25
theorem w_111 {p f : Int} (hw : isW w) (hR : RW S w r) (hA : AB r) (hp : 0 ≤ p ∧ p < r 4) (hf : 0 ≤ f ∧ f < r 3) (hK : ∀ v, v = fr r f 2 - usedM (pr r) (r 4) f + (if pr r p 1 = f then pr r p 0 else 0) → K (.inl (some (vi v))) (X S m)) : Runs tb pg (d + 3) 111 [vr w, vi p, vi f] (X S m) K := by
  refine Runs.of (al := [vr w, vi p, vi f]) (n := 0) ⟨w, _, _, rfl, xo_w0 hw⟩ rfl rfl trivial ?_
  have b3 := hA.2.1.1
  have b4 := hA.2.1.2.1
  have b5 := hA.2.1.2.2.1
  have e0 := hR.1.1
  have e4 := hR.1.2.1
  have q := hR.2.2.1 p hp.1 hp.2
  have q1 := q.1
  have q2 := q.2.1
  have z := AB_pp hA hp.1 hp.2
  repeat' (first | omega | with_reducible refine hK _ ?_ | simp only [w_aload, w_iload, w_call, x_g807_w0, x_iald, w_ialoads, w_ialoadw, w_ifc, cI, Int.reduceToNat, x_g805_w0, w_goto, w_iconst, w_fall, w_iadd, w_ireturn, isA_w1, isA_w2, isA_w3, isA_w4, isA_w5, isA_w6, isA_w7, isA_w8, isA_w10, isA_w11, isA_w12, isA_w14, isA_w15, isA_w16, len_w1, len_w2, len_w3, len_w4, len_w5, len_w6, len_w7, len_w8, len_w10, len_w11, len_w12, len_w14, len_w15, len_w16, Int.cast_ofNat_Int, a111_0, a111_24, a111_25, R32, List.getElem?_cons_zero, List.getElem?_cons_succ, List.set_cons_zero, List.set_cons_succ, List.cons_append, List.nil_append, List.replicate_succ, List.replicate_zero, List.take_succ_cons, List.take_zero, List.drop_succ_cons, List.drop_zero, List.reverse_cons, List.reverse_nil, List.length_cons, List.length_nil, Option.toList, true_and, and_true, eq_self, ↓reduceIte, not_true_eq_false, not_false_eq_true, true_or, or_true, hw] | with_reducible refine w_110 hw hR hA ?_ (fun v1 x1 => ?_) | with_reducible refine And.intro ?_ ?_ | with_reducible intro _)
  all_goals (try (first | omega | (exfalso; assumption) | (split <;> omega)))
theorem a112_0 {tb : Tab} {d : Nat} {K : Out → AM → Prop} {ls st : List AV} {m : AM} : At tb d 112 K 0 ls st m = wpB tb (pg.2.1 112) (Runs tb pg d) K (At tb d 112 K) [.bipush 0, .istore 2, .bipush 0, .istore 3, .jsr 4] ls st m := At.eq k112_0
theorem a112_4 {tb : Tab} {d : Nat} {K : Out → AM → Prop} {ls st : List AV} {m : AM} : At tb d 112 K 4 ls st m = wpB tb (pg.2.1 112) (Runs tb pg d) K (At tb d 112 K) [.iload 3, .aload 0, .getfield 804, .if_icmp .ge 34, .aload 0, .getfield 807, .iload 3, .iaload, .iload 1, .if_icmp .ne 28, .iload 2, .bipush 1, .iload 3, .ishl, .ior, .istore 2, .jsr 28] ls st m := At.eq k112_4
theorem a112_28 {tb : Tab} {d : Nat} {K : Out → AM → Prop} {ls st : List AV} {m : AM} : At tb d 112 K 28 ls st m = wpB tb (pg.2.1 112) (Runs tb pg d) K (At tb d 112 K) [.iinc 3 1, .goto 4] ls st m := At.eq k112_28
theorem a112_34 {tb : Tab} {d : Nat} {K : Out → AM → Prop} {ls st : List AV} {m : AM} : At tb d 112 K 34 ls st m = wpB tb (pg.2.1 112) (Runs tb pg d) K (At tb d 112 K) [.iload 2, .ireturn] ls st m := At.eq k112_34
theorem w_112 {f : Int} (hw : isW w) (hR : RW S w r) (hA : AB r) (hf : R32 f) (hK : ∀ v, v = setZ (r 4) (fun p => pr r p 1 = f) → K (.inl (some (vi v))) (X S m)) : Runs tb pg (d + 1) 112 [vr w, vi f] (X S m) K := by
  have b3 := hA.2.1.1
  have b4 := hA.2.1.2.1
  have b5 := hA.2.1.2.2.1
  have e0 := hR.1.1
  have e4 := hR.1.2.1
  unfold R32 at hf
  have hL4 : (fun i : Int => ∀ (a : Int), a = setZ i (fun p => pr r p 1 = f) → At tb d 112 K 4 [vr w, vi f, vi a, vi i] [] (X S m)) 0 := by
    refine loopZ (fun i : Int => ∀ (a : Int), a = setZ i (fun p => pr r p 1 = f) → At tb d 112 K 4 [vr w, vi f, vi a, vi i] [] (X S m)) (r 4) (by omega) ?_ ?_
    · intro i h0 h1 h9 a ha
      have q := hR.2.2.1 i h0 h1
      have q1 := q.1
      have q2 := q.2.1
      have z := AB_pp hA h0 h1
      rw [a112_4]
      repeat' (first | omega | with_reducible refine h9 _ ?_ | simp only [w_iconst, w_istore, w_fall, Int.reduceToNat, w_iload, w_aload, x_g804_w0, w_ifc, cI, x_g807_w0, x_iald, w_ialoads, w_ialoadw, w_ishl, w_ior, w_iinc, lgB, Nat.reduceSub, w_goto, w_ireturn, isA_w1, isA_w2, isA_w3, isA_w4, isA_w5, isA_w6, isA_w7, isA_w8, isA_w10, isA_w11, isA_w12, isA_w14, isA_w15, isA_w16, len_w1, len_w2, len_w3, len_w4, len_w5, len_w6, len_w7, len_w8, len_w10, len_w11, len_w12, len_w14, len_w15, len_w16, Int.cast_ofNat_Int, a112_0, a112_28, a112_34, R32, List.getElem?_cons_zero, List.getElem?_cons_succ, List.set_cons_zero, List.set_cons_succ, List.cons_append, List.nil_append, List.replicate_succ, List.replicate_zero, List.take_succ_cons, List.take_zero, List.drop_succ_cons, List.drop_zero, List.reverse_cons, List.reverse_nil, List.length_cons, List.length_nil, Option.toList, true_and, and_true, eq_self, ↓reduceIte, not_true_eq_false, not_false_eq_true, true_or, or_true, hw] | with_reducible refine And.intro ?_ ?_ | with_reducible intro _)
      all_goals (try (first | omega | contradiction | (((with_reducible refine setZ_yes h0 ?_ ha ?_) <;> first | omega | grind); done) | (((with_reducible refine setZ_no0 h0 ?_ ha ?_) <;> first | omega | grind); done) | (((with_reducible refine setZ_no h0 ha ?_) <;> first | omega | grind); done) | grind))
    · intro a ha
      rw [a112_4]
      repeat' (first | omega | with_reducible refine hK _ ?_ | simp only [w_iconst, w_istore, w_fall, Int.reduceToNat, w_iload, w_aload, x_g804_w0, w_ifc, cI, x_g807_w0, x_iald, w_ialoads, w_ialoadw, w_ishl, w_ior, w_iinc, lgB, Nat.reduceSub, w_goto, w_ireturn, isA_w1, isA_w2, isA_w3, isA_w4, isA_w5, isA_w6, isA_w7, isA_w8, isA_w10, isA_w11, isA_w12, isA_w14, isA_w15, isA_w16, len_w1, len_w2, len_w3, len_w4, len_w5, len_w6, len_w7, len_w8, len_w10, len_w11, len_w12, len_w14, len_w15, len_w16, Int.cast_ofNat_Int, a112_0, a112_28, a112_34, R32, List.getElem?_cons_zero, List.getElem?_cons_succ, List.set_cons_zero, List.set_cons_succ, List.cons_append, List.nil_append, List.replicate_succ, List.replicate_zero, List.take_succ_cons, List.take_zero, List.drop_succ_cons, List.drop_zero, List.reverse_cons, List.reverse_nil, List.length_cons, List.length_nil, Option.toList, true_and, and_true, eq_self, ↓reduceIte, not_true_eq_false, not_false_eq_true, true_or, or_true, hw] | with_reducible refine And.intro ?_ ?_ | with_reducible intro _)
      all_goals (try (first | omega | contradiction | omega))
  refine Runs.of (al := [vr w, vi f]) (n := 2) ⟨w, _, _, rfl, xo_w0 hw⟩ rfl rfl trivial ?_
  repeat' (first | omega | with_reducible refine hL4 _ ?_ | simp only [w_iconst, w_istore, w_fall, Int.reduceToNat, w_iload, w_aload, x_g804_w0, w_ifc, cI, x_g807_w0, x_iald, w_ialoads, w_ialoadw, w_ishl, w_ior, w_iinc, lgB, Nat.reduceSub, w_goto, w_ireturn, isA_w1, isA_w2, isA_w3, isA_w4, isA_w5, isA_w6, isA_w7, isA_w8, isA_w10, isA_w11, isA_w12, isA_w14, isA_w15, isA_w16, len_w1, len_w2, len_w3, len_w4, len_w5, len_w6, len_w7, len_w8, len_w10, len_w11, len_w12, len_w14, len_w15, len_w16, Int.cast_ofNat_Int, a112_0, a112_28, a112_34, R32, List.getElem?_cons_zero, List.getElem?_cons_succ, List.set_cons_zero, List.set_cons_succ, List.cons_append, List.nil_append, List.replicate_succ, List.replicate_zero, List.take_succ_cons, List.take_zero, List.drop_succ_cons, List.drop_zero, List.reverse_cons, List.reverse_nil, List.length_cons, List.length_nil, Option.toList, true_and, and_true, eq_self, ↓reduceIte, not_true_eq_false, not_false_eq_true, true_or, or_true, hw] | with_reducible refine And.intro ?_ ?_ | with_reducible intro _)
  all_goals (try (first | omega | (exfalso; assumption) | rfl))
theorem a113_0 {tb : Tab} {d : Nat} {K : Out → AM → Prop} {ls st : List AV} {m : AM} : At tb d 113 K 0 ls st m = wpB tb (pg.2.1 113) (Runs tb pg d) K (At tb d 113 K) [.bipush 0, .istore 1, .bipush 0, .istore 2, .jsr 4] ls st m := At.eq k113_0
theorem a113_4 {tb : Tab} {d : Nat} {K : Out → AM → Prop} {ls st : List AV} {m : AM} : At tb d 113 K 4 ls st m = wpB tb (pg.2.1 113) (Runs tb pg d) K (At tb d 113 K) [.iload 2, .aload 0, .getfield 804, .if_icmp .ge 34, .aload 0, .getfield 807, .iload 2, .iaload, .bipush (-1), .if_icmp .eq 28, .iload 1, .bipush 1, .iload 2, .ishl, .ior, .istore 1, .jsr 28] ls st m := At.eq k113_4
theorem a113_28 {tb : Tab} {d : Nat} {K : Out → AM → Prop} {ls st : List AV} {m : AM} : At tb d 113 K 28 ls st m = wpB tb (pg.2.1 113) (Runs tb pg d) K (At tb d 113 K) [.iinc 2 1, .goto 4] ls st m := At.eq k113_28
theorem a113_34 {tb : Tab} {d : Nat} {K : Out → AM → Prop} {ls st : List AV} {m : AM} : At tb d 113 K 34 ls st m = wpB tb (pg.2.1 113) (Runs tb pg d) K (At tb d 113 K) [.iload 1, .ireturn] ls st m := At.eq k113_34
theorem w_113 (hw : isW w) (hR : RW S w r) (hA : AB r)  (hK : ∀ v, v = setZ (r 4) (fun p => pr r p 1 ≠ -1) → K (.inl (some (vi v))) (X S m)) : Runs tb pg (d + 1) 113 [vr w] (X S m) K := by
  have b3 := hA.2.1.1
  have b4 := hA.2.1.2.1
  have b5 := hA.2.1.2.2.1
  have e0 := hR.1.1
  have e4 := hR.1.2.1
  have hL4 : (fun i : Int => ∀ (a : Int), a = setZ i (fun p => pr r p 1 ≠ -1) → At tb d 113 K 4 [vr w, vi a, vi i] [] (X S m)) 0 := by
    refine loopZ (fun i : Int => ∀ (a : Int), a = setZ i (fun p => pr r p 1 ≠ -1) → At tb d 113 K 4 [vr w, vi a, vi i] [] (X S m)) (r 4) (by omega) ?_ ?_
    · intro i h0 h1 h9 a ha
      have q := hR.2.2.1 i h0 h1
      have q1 := q.1
      have q2 := q.2.1
      have z := AB_pp hA h0 h1
      rw [a113_4]
      repeat' (first | omega | with_reducible refine h9 _ ?_ | simp only [w_iconst, w_istore, w_fall, Int.reduceToNat, w_iload, w_aload, x_g804_w0, w_ifc, cI, x_g807_w0, x_iald, w_ialoads, w_ialoadw, w_ishl, w_ior, w_iinc, lgB, Nat.reduceSub, w_goto, w_ireturn, isA_w1, isA_w2, isA_w3, isA_w4, isA_w5, isA_w6, isA_w7, isA_w8, isA_w10, isA_w11, isA_w12, isA_w14, isA_w15, isA_w16, len_w1, len_w2, len_w3, len_w4, len_w5, len_w6, len_w7, len_w8, len_w10, len_w11, len_w12, len_w14, len_w15, len_w16, Int.cast_ofNat_Int, a113_0, a113_28, a113_34, R32, List.getElem?_cons_zero, List.getElem?_cons_succ, List.set_cons_zero, List.set_cons_succ, List.cons_append, List.nil_append, List.replicate_succ, List.replicate_zero, List.take_succ_cons, List.take_zero, List.drop_succ_cons, List.drop_zero, List.reverse_cons, List.reverse_nil, List.length_cons, List.length_nil, Option.toList, true_and, and_true, eq_self, ↓reduceIte, not_true_eq_false, not_false_eq_true, true_or, or_true, hw] | with_reducible refine And.intro ?_ ?_ | with_reducible intro _)
      all_goals (try (first | omega | contradiction | (((with_reducible refine setZ_yes h0 ?_ ha ?_) <;> first | omega | grind); done) | (((with_reducible refine setZ_no0 h0 ?_ ha ?_) <;> first | omega | grind); done) | (((with_reducible refine setZ_no h0 ha ?_) <;> first | omega | grind); done) | grind))
    · intro a ha
      rw [a113_4]
      repeat' (first | omega | with_reducible refine hK _ ?_ | simp only [w_iconst, w_istore, w_fall, Int.reduceToNat, w_iload, w_aload, x_g804_w0, w_ifc, cI, x_g807_w0, x_iald, w_ialoads, w_ialoadw, w_ishl, w_ior, w_iinc, lgB, Nat.reduceSub, w_goto, w_ireturn, isA_w1, isA_w2, isA_w3, isA_w4, isA_w5, isA_w6, isA_w7, isA_w8, isA_w10, isA_w11, isA_w12, isA_w14, isA_w15, isA_w16, len_w1, len_w2, len_w3, len_w4, len_w5, len_w6, len_w7, len_w8, len_w10, len_w11, len_w12, len_w14, len_w15, len_w16, Int.cast_ofNat_Int, a113_0, a113_28, a113_34, R32, List.getElem?_cons_zero, List.getElem?_cons_succ, List.set_cons_zero, List.set_cons_succ, List.cons_append, List.nil_append, List.replicate_succ, List.replicate_zero, List.take_succ_cons, List.take_zero, List.drop_succ_cons, List.drop_zero, List.reverse_cons, List.reverse_nil, List.length_cons, List.length_nil, Option.toList, true_and, and_true, eq_self, ↓reduceIte, not_true_eq_false, not_false_eq_true, true_or, or_true, hw] | with_reducible refine And.intro ?_ ?_ | with_reducible intro _)
      all_goals (try (first | omega | contradiction | omega))
  refine Runs.of (al := [vr w]) (n := 2) ⟨w, _, _, rfl, xo_w0 hw⟩ rfl rfl trivial ?_
  repeat' (first | omega | with_reducible refine hL4 _ ?_ | simp only [w_iconst, w_istore, w_fall, Int.reduceToNat, w_iload, w_aload, x_g804_w0, w_ifc, cI, x_g807_w0, x_iald, w_ialoads, w_ialoadw, w_ishl, w_ior, w_iinc, lgB, Nat.reduceSub, w_goto, w_ireturn, isA_w1, isA_w2, isA_w3, isA_w4, isA_w5, isA_w6, isA_w7, isA_w8, isA_w10, isA_w11, isA_w12, isA_w14, isA_w15, isA_w16, len_w1, len_w2, len_w3, len_w4, len_w5, len_w6, len_w7, len_w8, len_w10, len_w11, len_w12, len_w14, len_w15, len_w16, Int.cast_ofNat_Int, a113_0, a113_28, a113_34, R32, List.getElem?_cons_zero, List.getElem?_cons_succ, List.set_cons_zero, List.set_cons_succ, List.cons_append, List.nil_append, List.replicate_succ, List.replicate_zero, List.take_succ_cons, List.take_zero, List.drop_succ_cons, List.drop_zero, List.reverse_cons, List.reverse_nil, List.length_cons, List.length_nil, Option.toList, true_and, and_true, eq_self, ↓reduceIte, not_true_eq_false, not_false_eq_true, true_or, or_true, hw] | with_reducible refine And.intro ?_ ?_ | with_reducible intro _)
  all_goals (try (first | omega | (exfalso; assumption) | rfl))
theorem a115_0 {tb : Tab} {d : Nat} {K : Out → AM → Prop} {ls st : List AV} {m : AM} : At tb d 115 K 0 ls st m = wpB tb (pg.2.1 115) (Runs tb pg d) K (At tb d 115 K) [.bipush 0, .istore 1, .bipush 0, .istore 2, .jsr 4] ls st m := At.eq k115_0
theorem a115_4 {tb : Tab} {d : Nat} {K : Out → AM → Prop} {ls st : List AV} {m : AM} : At tb d 115 K 4 ls st m = wpB tb (pg.2.1 115) (Runs tb pg d) K (At tb d 115 K) [.iload 2, .aload 0, .getfield 800, .if_icmp .ge 27, .iload 1, .aload 0, .getfield 802, .iload 2, .iaload, .iadd, .istore 1, .iinc 2 1, .goto 4] ls st m := At.eq k115_4
theorem a115_27 {tb : Tab} {d : Nat} {K : Out → AM → Prop} {ls st : List AV} {m : AM} : At tb d 115 K 27 ls st m = wpB tb (pg.2.1 115) (Runs tb pg d) K (At tb d 115 K) [.iload 1, .ireturn] ls st m := At.eq k115_27
theorem w_115 (hw : isW w) (hR : RW S w r) (hA : AB r)  (hK : ∀ v, v = sumZ (r 3) (fun f => fr r f 1) → K (.inl (some (vi v))) (X S m)) : Runs tb pg (d + 1) 115 [vr w] (X S m) K := by
  have b3 := hA.2.1.1
  have b4 := hA.2.1.2.1
  have b5 := hA.2.1.2.2.1
  have e0 := hR.1.1
  have e4 := hR.1.2.1
  have hL4 : (fun i : Int => ∀ (a : Int), a = sumZ i (fun f => fr r f 1) → At tb d 115 K 4 [vr w, vi a, vi i] [] (X S m)) 0 := by
    refine loopZ (fun i : Int => ∀ (a : Int), a = sumZ i (fun f => fr r f 1) → At tb d 115 K 4 [vr w, vi a, vi i] [] (X S m)) (r 3) (by omega) ?_ ?_
    · intro i h0 h1 h9 a ha
      have q := (hR.2.1 i h0 h1).2.1
      have z := AB_ff hA h0 h1
      rw [a115_4]
      repeat' (first | omega | with_reducible refine h9 _ ?_ | simp only [w_iconst, w_istore, w_fall, Int.reduceToNat, w_iload, w_aload, x_g800_w0, w_ifc, cI, x_g802_w0, x_iald, w_ialoads, w_ialoadw, w_iadd, w_iinc, lgB, Nat.reduceSub, w_goto, w_ireturn, isA_w1, isA_w2, isA_w3, isA_w4, isA_w5, isA_w6, isA_w7, isA_w8, isA_w10, isA_w11, isA_w12, isA_w14, isA_w15, isA_w16, len_w1, len_w2, len_w3, len_w4, len_w5, len_w6, len_w7, len_w8, len_w10, len_w11, len_w12, len_w14, len_w15, len_w16, Int.cast_ofNat_Int, a115_0, a115_27, R32, List.getElem?_cons_zero, List.getElem?_cons_succ, List.set_cons_zero, List.set_cons_succ, List.cons_append, List.nil_append, List.replicate_succ, List.replicate_zero, List.take_succ_cons, List.take_zero, List.drop_succ_cons, List.drop_zero, List.reverse_cons, List.reverse_nil, List.length_cons, List.length_nil, Option.toList, true_and, and_true, eq_self, ↓reduceIte, not_true_eq_false, not_false_eq_true, true_or, or_true, hw] | with_reducible refine And.intro ?_ ?_ | with_reducible intro _)
      all_goals (try (first | omega | contradiction | (rw [sumZ_s h0]; omega)))
    · intro a ha
      rw [a115_4]
      repeat' (first | omega | with_reducible refine hK _ ?_ | simp only [w_iconst, w_istore, w_fall, Int.reduceToNat, w_iload, w_aload, x_g800_w0, w_ifc, cI, x_g802_w0, x_iald, w_ialoads, w_ialoadw, w_iadd, w_iinc, lgB, Nat.reduceSub, w_goto, w_ireturn, isA_w1, isA_w2, isA_w3, isA_w4, isA_w5, isA_w6, isA_w7, isA_w8, isA_w10, isA_w11, isA_w12, isA_w14, isA_w15, isA_w16, len_w1, len_w2, len_w3, len_w4, len_w5, len_w6, len_w7, len_w8, len_w10, len_w11, len_w12, len_w14, len_w15, len_w16, Int.cast_ofNat_Int, a115_0, a115_27, R32, List.getElem?_cons_zero, List.getElem?_cons_succ, List.set_cons_zero, List.set_cons_succ, List.cons_append, List.nil_append, List.replicate_succ, List.replicate_zero, List.take_succ_cons, List.take_zero, List.drop_succ_cons, List.drop_zero, List.reverse_cons, List.reverse_nil, List.length_cons, List.length_nil, Option.toList, true_and, and_true, eq_self, ↓reduceIte, not_true_eq_false, not_false_eq_true, true_or, or_true, hw] | with_reducible refine And.intro ?_ ?_ | with_reducible intro _)
      all_goals (try (first | omega | contradiction | omega))
  refine Runs.of (al := [vr w]) (n := 2) ⟨w, _, _, rfl, xo_w0 hw⟩ rfl rfl trivial ?_
  repeat' (first | omega | with_reducible refine hL4 _ ?_ | simp only [w_iconst, w_istore, w_fall, Int.reduceToNat, w_iload, w_aload, x_g800_w0, w_ifc, cI, x_g802_w0, x_iald, w_ialoads, w_ialoadw, w_iadd, w_iinc, lgB, Nat.reduceSub, w_goto, w_ireturn, isA_w1, isA_w2, isA_w3, isA_w4, isA_w5, isA_w6, isA_w7, isA_w8, isA_w10, isA_w11, isA_w12, isA_w14, isA_w15, isA_w16, len_w1, len_w2, len_w3, len_w4, len_w5, len_w6, len_w7, len_w8, len_w10, len_w11, len_w12, len_w14, len_w15, len_w16, Int.cast_ofNat_Int, a115_0, a115_27, R32, List.getElem?_cons_zero, List.getElem?_cons_succ, List.set_cons_zero, List.set_cons_succ, List.cons_append, List.nil_append, List.replicate_succ, List.replicate_zero, List.take_succ_cons, List.take_zero, List.drop_succ_cons, List.drop_zero, List.reverse_cons, List.reverse_nil, List.length_cons, List.length_nil, Option.toList, true_and, and_true, eq_self, ↓reduceIte, not_true_eq_false, not_false_eq_true, true_or, or_true, hw] | with_reducible refine And.intro ?_ ?_ | with_reducible intro _)
  all_goals (try (first | omega | (exfalso; assumption) | rfl))
theorem a117_0 {tb : Tab} {d : Nat} {K : Out → AM → Prop} {ls st : List AV} {m : AM} : At tb d 117 K 0 ls st m = wpB tb (pg.2.1 117) (Runs tb pg d) K (At tb d 117 K) [.bipush 0, .istore 2, .bipush 0, .istore 3, .jsr 4] ls st m := At.eq k117_0
theorem a117_4 {tb : Tab} {d : Nat} {K : Out → AM → Prop} {ls st : List AV} {m : AM} : At tb d 117 K 4 ls st m = wpB tb (pg.2.1 117) (Runs tb pg d) K (At tb d 117 K) [.iload 3, .aload 0, .getfield 805, .iload 1, .iaload, .if_icmp .ge 47, .aload 0, .getfield 807, .iload 1, .iaload, .bipush (-1), .if_icmp .eq 47, .aload 0, .getfield 809, .bipush 6, .iload 1, .imul, .iload 3, .iadd, .iaload, .ifCond .le 41, .iinc 2 1, .jsr 41] ls st m := At.eq k117_4
theorem a117_41 {tb : Tab} {d : Nat} {K : Out → AM → Prop} {ls st : List AV} {m : AM} : At tb d 117 K 41 ls st m = wpB tb (pg.2.1 117) (Runs tb pg d) K (At tb d 117 K) [.iinc 3 1, .goto 4] ls st m := At.eq k117_41
theorem a117_47 {tb : Tab} {d : Nat} {K : Out → AM → Prop} {ls st : List AV} {m : AM} : At tb d 117 K 47 ls st m = wpB tb (pg.2.1 117) (Runs tb pg d) K (At tb d 117 K) [.iload 2, .ireturn] ls st m := At.eq k117_47
theorem w_117 {p : Int} (hw : isW w) (hR : RW S w r) (hA : AB r) (hp : 0 ≤ p ∧ p < r 4) (hK : ∀ v, v = leftM (pr r) p (pr r p 0) → K (.inl (some (vi v))) (X S m)) : Runs tb pg (d + 1) 117 [vr w, vi p] (X S m) K := by
  have b3 := hA.2.1.1
  have b4 := hA.2.1.2.1
  have b5 := hA.2.1.2.2.1
  have e0 := hR.1.1
  have e4 := hR.1.2.1
  obtain ⟨q1, q2, q3, q4⟩ := hR.2.2.1 p hp.1 hp.2
  have z := AB_pp hA hp.1 hp.2
  have hz0 : pr r p 1 = -1 → leftM (pr r) p (pr r p 0) = 0 := fun y => by
    have w9 := sumZ_le (n := pr r p 0) (a := 0) (b := 0) (f := fun k => if pr r p 1 ≠ -1 ∧ 0 < pr r p (14 + k) then 1 else 0) (by omega) (fun k _ _ => by rw [if_neg (fun x => x.1 y)]; omega)
    unfold leftM
    omega
  have hL4 : (fun i : Int => ∀ (a : Int), a = leftM (pr r) p i → At tb d 117 K 4 [vr w, vi p, vi a, vi i] [] (X S m)) 0 := by
    refine loopZ (fun i : Int => ∀ (a : Int), a = leftM (pr r) p i → At tb d 117 K 4 [vr w, vi p, vi a, vi i] [] (X S m)) (pr r p 0) (by omega) ?_ ?_
    · intro i h0 h1 h9 a ha
      have y := AB_pk hA hp.1 hp.2 h0 (by omega : i < 6)
      have q5 := fun x => (q4 x i h0 h1).2
      rw [a117_4]
      repeat' (first | omega | with_reducible refine h9 _ ?_ | with_reducible refine hK _ ?_ | simp only [w_iconst, w_istore, w_fall, Int.reduceToNat, w_iload, w_aload, x_g805_w0, x_iald, w_ialoads, w_ialoadw, w_ifc, cI, x_g807_w0, x_g809_w0, w_imul, w_iadd, w_if, w_iinc, lgB, Nat.reduceSub, w_goto, w_ireturn, isA_w1, isA_w2, isA_w3, isA_w4, isA_w5, isA_w6, isA_w7, isA_w8, isA_w10, isA_w11, isA_w12, isA_w14, isA_w15, isA_w16, len_w1, len_w2, len_w3, len_w4, len_w5, len_w6, len_w7, len_w8, len_w10, len_w11, len_w12, len_w14, len_w15, len_w16, Int.cast_ofNat_Int, a117_0, a117_41, a117_47, R32, List.getElem?_cons_zero, List.getElem?_cons_succ, List.set_cons_zero, List.set_cons_succ, List.cons_append, List.nil_append, List.replicate_succ, List.replicate_zero, List.take_succ_cons, List.take_zero, List.drop_succ_cons, List.drop_zero, List.reverse_cons, List.reverse_nil, List.length_cons, List.length_nil, Option.toList, true_and, and_true, eq_self, ↓reduceIte, not_true_eq_false, not_false_eq_true, true_or, or_true, hw] | with_reducible refine And.intro ?_ ?_ | with_reducible intro _)
      all_goals (try (first | omega | contradiction | (rw [leftM_s h0]; split <;> omega) | (have q6 := q5 (by omega); omega) | (have q6 := q5 (by omega); rw [leftM_s h0]; split <;> omega) | (have z0 : i = 0 ∨ 0 < i := (by omega); have w8 := hz0 (by omega); rw [w8, ha]; have w7 := sumZ_le (n := i) (a := 0) (b := 0) (f := fun k => if pr r p 1 ≠ -1 ∧ 0 < pr r p (14 + k) then 1 else 0) (by omega) (fun k _ _ => by rw [if_neg (fun x => x.1 (by omega))]; omega); unfold leftM; omega)))
    · intro a ha
      rw [a117_4]
      repeat' (first | omega | with_reducible refine hK _ ?_ | simp only [w_iconst, w_istore, w_fall, Int.reduceToNat, w_iload, w_aload, x_g805_w0, x_iald, w_ialoads, w_ialoadw, w_ifc, cI, x_g807_w0, x_g809_w0, w_imul, w_iadd, w_if, w_iinc, lgB, Nat.reduceSub, w_goto, w_ireturn, isA_w1, isA_w2, isA_w3, isA_w4, isA_w5, isA_w6, isA_w7, isA_w8, isA_w10, isA_w11, isA_w12, isA_w14, isA_w15, isA_w16, len_w1, len_w2, len_w3, len_w4, len_w5, len_w6, len_w7, len_w8, len_w10, len_w11, len_w12, len_w14, len_w15, len_w16, Int.cast_ofNat_Int, a117_0, a117_41, a117_47, R32, List.getElem?_cons_zero, List.getElem?_cons_succ, List.set_cons_zero, List.set_cons_succ, List.cons_append, List.nil_append, List.replicate_succ, List.replicate_zero, List.take_succ_cons, List.take_zero, List.drop_succ_cons, List.drop_zero, List.reverse_cons, List.reverse_nil, List.length_cons, List.length_nil, Option.toList, true_and, and_true, eq_self, ↓reduceIte, not_true_eq_false, not_false_eq_true, true_or, or_true, hw] | with_reducible refine And.intro ?_ ?_ | with_reducible intro _)
      all_goals (try (first | omega | contradiction | omega))
  refine Runs.of (al := [vr w, vi p]) (n := 2) ⟨w, _, _, rfl, xo_w0 hw⟩ rfl rfl trivial ?_
  repeat' (first | omega | with_reducible refine hL4 _ ?_ | simp only [w_iconst, w_istore, w_fall, Int.reduceToNat, w_iload, w_aload, x_g805_w0, x_iald, w_ialoads, w_ialoadw, w_ifc, cI, x_g807_w0, x_g809_w0, w_imul, w_iadd, w_if, w_iinc, lgB, Nat.reduceSub, w_goto, w_ireturn, isA_w1, isA_w2, isA_w3, isA_w4, isA_w5, isA_w6, isA_w7, isA_w8, isA_w10, isA_w11, isA_w12, isA_w14, isA_w15, isA_w16, len_w1, len_w2, len_w3, len_w4, len_w5, len_w6, len_w7, len_w8, len_w10, len_w11, len_w12, len_w14, len_w15, len_w16, Int.cast_ofNat_Int, a117_0, a117_41, a117_47, R32, List.getElem?_cons_zero, List.getElem?_cons_succ, List.set_cons_zero, List.set_cons_succ, List.cons_append, List.nil_append, List.replicate_succ, List.replicate_zero, List.take_succ_cons, List.take_zero, List.drop_succ_cons, List.drop_zero, List.reverse_cons, List.reverse_nil, List.length_cons, List.length_nil, Option.toList, true_and, and_true, eq_self, ↓reduceIte, not_true_eq_false, not_false_eq_true, true_or, or_true, hw] | with_reducible refine And.intro ?_ ?_ | with_reducible intro _)
  all_goals (try (first | omega | (exfalso; assumption) | rfl))
end World1
