/-! ===== THE CLASS: runs, overlaps, worths ===== -/
def agM (P : Int → Int → Int) (p f q n : Int) : Prop := ∀ i, 0 ≤ i → i < n → P p (2 + (f + i)) = P q (2 + i)
theorem agM_0 {P : Int → Int → Int} {p f q : Int} : agM P p f q 0 := fun i h0 h1 => by omega
theorem agM_s {P : Int → Int → Int} {p f q n : Int} (h : agM P p f q n) (e : P p (2 + (f + n)) = P q (2 + n)) : agM P p f q (n + 1) := fun i h0 h1 => by
  by_cases z : i = n
  · subst z; exact e
  · exact h i h0 (by omega)
theorem agM_run {P : Int → Int → Int} {p q f : Int} (h : f + P q 0 ≤ P p 0) : agM P p f q (P q 0) ↔ runM P p q f (P q 0) := by
  constructor
  · intro g
    exact ⟨h, fun k k0 k1 => by have := g k k0 k1; rw [show 2 + (f + k) = 2 + f + k by omega] at this; exact this⟩
  · intro g k k0 k1
    rw [show 2 + (f + k) = 2 + f + k by omega]
    exact g.2 k k0 k1
theorem agM_ov {P : Int → Int → Int} {p q n : Int} : agM P p (P p 0 - n) q n ↔ ovM P p q n n := by
  constructor
  · intro g k k0 k1
    have := g k k0 k1
    rw [show 2 + (P p 0 - n + k) = 2 + P p 0 - n + k by omega] at this
    exact this
  · intro g k k0 k1
    rw [show 2 + (P p 0 - n + k) = 2 + P p 0 - n + k by omega]
    exact g k k0 k1
section Names2
variable {tb : Tab} {d : Nat} {m : AM} {K : Out → AM → Prop} {S : Nat → Int → Int} {w : Nat} {r : Int → Int}
theorem k75_0 : pg.1 75 0 = [.bipush 0, .istore 5, .jsr 3] := rfl
theorem a75_0 {tb : Tab} {d : Nat} {K : Out → AM → Prop} {ls st : List AV} {m : AM} : At tb d 75 K 0 ls st m = wpB tb (pg.2.1 75) (Runs tb pg d) K (At tb d 75 K) [.bipush 0, .istore 5, .jsr 3] ls st m := At.eq k75_0
theorem k75_3 : pg.1 75 3 = [.iload 5, .iload 4, .if_icmp .ge 37, .aload 0, .iload 1, .iload 2, .iload 5, .iadd, .invokeinterface 56 3, .aload 0, .iload 3, .iload 5, .invokeinterface 56 3, .if_icmp .eq 31, .bipush 0, .freturn] := rfl
theorem a75_3 {tb : Tab} {d : Nat} {K : Out → AM → Prop} {ls st : List AV} {m : AM} : At tb d 75 K 3 ls st m = wpB tb (pg.2.1 75) (Runs tb pg d) K (At tb d 75 K) [.iload 5, .iload 4, .if_icmp .ge 37, .aload 0, .iload 1, .iload 2, .iload 5, .iadd, .invokeinterface 56 3, .aload 0, .iload 3, .iload 5, .invokeinterface 56 3, .if_icmp .eq 31, .bipush 0, .freturn] ls st m := At.eq k75_3
theorem k75_31 : pg.1 75 31 = [.iinc 5 1, .goto 3] := rfl
theorem a75_31 {tb : Tab} {d : Nat} {K : Out → AM → Prop} {ls st : List AV} {m : AM} : At tb d 75 K 31 ls st m = wpB tb (pg.2.1 75) (Runs tb pg d) K (At tb d 75 K) [.iinc 5 1, .goto 3] ls st m := At.eq k75_31
theorem k75_37 : pg.1 75 37 = [.bipush 1, .freturn] := rfl
theorem a75_37 {tb : Tab} {d : Nat} {K : Out → AM → Prop} {ls st : List AV} {m : AM} : At tb d 75 K 37 ls st m = wpB tb (pg.2.1 75) (Runs tb pg d) K (At tb d 75 K) [.bipush 1, .freturn] ls st m := At.eq k75_37
theorem w_75 {p f q n : Int} (hw : isW w) (hR : RW S w r) (hA : AB r) (hV : GV r) (hp : 0 ≤ p ∧ p < r 4) (hq : 0 ≤ q ∧ q < r 4) (hf : 0 ≤ f) (hn : 0 ≤ n ∧ f + n ≤ 6) (hK : ∀ v, yn v (agM (pr r) p f q n) → K (.inl (some (vi v))) (X S m)) : Runs tb pg (d + 2) 75 [vr w, vi p, vi f, vi q, vi n] (X S m) K := by
  have b3 := hA.2.1.1
  have b4 := hA.2.1.2.1
  have b5 := hA.2.1.2.2.1
  have e0 := hR.1.1
  have e4 := hR.1.2.1
  have hL3 : (fun i : Int => (agM (pr r) p f q i) → At tb (d + 1) 75 K 3 [vr w, vi p, vi f, vi q, vi n, vi i] [] (X S m)) 0 := by
    refine loopZ (fun i : Int => (agM (pr r) p f q i) → At tb (d + 1) 75 K 3 [vr w, vi p, vi f, vi q, vi n, vi i] [] (X S m)) (n) (by omega) ?_ ?_
    · intro i h0 h1 h9  hg
      have u1 : 0 ≤ f + i ∧ f + i < 6 := by omega
      have u2 : 0 ≤ i ∧ i < 6 := by omega
      rw [a75_3]
      repeat' (first | omega | with_reducible refine h9  ?_ | with_reducible refine hK _ ?_ | simp only [w_iconst, w_istore, w_fall, Int.reduceToNat, w_iload, w_ifc, cI, w_aload, w_iadd, w_call, w_zreturn, w_iinc, lgB, Nat.reduceSub, w_goto, a75_0, a75_31, a75_37, R32, List.getElem?_cons_zero, List.getElem?_cons_succ, List.set_cons_zero, List.set_cons_succ, List.cons_append, List.nil_append, List.replicate_succ, List.replicate_zero, List.take_succ_cons, List.take_zero, List.drop_succ_cons, List.drop_zero, List.reverse_cons, List.reverse_nil, List.length_cons, List.length_nil, Option.toList, true_and, and_true, eq_self, ↓reduceIte, not_true_eq_false, not_false_eq_true, true_or, or_true, hw] | with_reducible refine w_56 hw hR hA hV hp u1 (fun v1 x1 x2 x3 => ?_) | with_reducible refine w_56 hw hR hA hV hq u2 (fun v2 y1 y2 y3 => ?_) | with_reducible refine And.intro ?_ ?_ | with_reducible intro _)
      all_goals (try (first | omega | contradiction | (exact Or.inr ⟨rfl, fun g => by have := g i h0 h1; omega⟩) | (exact agM_s hg (by omega))))
    · intro  hg
      rw [a75_3]
      repeat' (first | omega | with_reducible refine hK _ ?_ | simp only [w_iconst, w_istore, w_fall, Int.reduceToNat, w_iload, w_ifc, cI, w_aload, w_iadd, w_call, w_zreturn, w_iinc, lgB, Nat.reduceSub, w_goto, a75_0, a75_31, a75_37, R32, List.getElem?_cons_zero, List.getElem?_cons_succ, List.set_cons_zero, List.set_cons_succ, List.cons_append, List.nil_append, List.replicate_succ, List.replicate_zero, List.take_succ_cons, List.take_zero, List.drop_succ_cons, List.drop_zero, List.reverse_cons, List.reverse_nil, List.length_cons, List.length_nil, Option.toList, true_and, and_true, eq_self, ↓reduceIte, not_true_eq_false, not_false_eq_true, true_or, or_true, hw] | with_reducible refine w_56 hw hR hA hV hp u1 (fun v1 x1 x2 x3 => ?_) | with_reducible refine w_56 hw hR hA hV hq u2 (fun v2 y1 y2 y3 => ?_) | with_reducible refine And.intro ?_ ?_ | with_reducible intro _)
      all_goals (try (first | omega | contradiction | (exact Or.inl ⟨rfl, hg⟩)))
  refine Runs.of (al := [vr w, vi p, vi f, vi q, vi n]) (n := 1) trivial rfl rfl trivial ?_
  repeat' (first | omega | with_reducible refine hL3 ?_ | simp only [w_iconst, w_istore, w_fall, Int.reduceToNat, w_iload, w_ifc, cI, w_aload, w_iadd, w_call, w_zreturn, w_iinc, lgB, Nat.reduceSub, w_goto, a75_0, a75_31, a75_37, R32, List.getElem?_cons_zero, List.getElem?_cons_succ, List.set_cons_zero, List.set_cons_succ, List.cons_append, List.nil_append, List.replicate_succ, List.replicate_zero, List.take_succ_cons, List.take_zero, List.drop_succ_cons, List.drop_zero, List.reverse_cons, List.reverse_nil, List.length_cons, List.length_nil, Option.toList, true_and, and_true, eq_self, ↓reduceIte, not_true_eq_false, not_false_eq_true, true_or, or_true, hw] | with_reducible refine And.intro ?_ ?_ | with_reducible intro _)
  all_goals (try (first | omega | (exfalso; assumption) | exact agM_0))
theorem k73_0 : pg.1 73 0 = [.bipush 0, .istore 3, .jsr 2] := rfl
theorem a73_0 {tb : Tab} {d : Nat} {K : Out → AM → Prop} {ls st : List AV} {m : AM} : At tb d 73 K 0 ls st m = wpB tb (pg.2.1 73) (Runs tb pg d) K (At tb d 73 K) [.bipush 0, .istore 3, .jsr 2] ls st m := At.eq k73_0
theorem k73_2 : pg.1 73 2 = [.iload 3, .aload 0, .getfield 805, .iload 1, .iaload, .iadd, .aload 0, .getfield 805, .iload 2, .iaload, .if_icmp .gt 43, .aload 0, .iload 2, .iload 3, .iload 1, .aload 0, .getfield 805, .iload 1, .iaload, .invokeinterface 75 5, .ifCond .eq 37, .bipush 1, .freturn] := rfl
theorem a73_2 {tb : Tab} {d : Nat} {K : Out → AM → Prop} {ls st : List AV} {m : AM} : At tb d 73 K 2 ls st m = wpB tb (pg.2.1 73) (Runs tb pg d) K (At tb d 73 K) [.iload 3, .aload 0, .getfield 805, .iload 1, .iaload, .iadd, .aload 0, .getfield 805, .iload 2, .iaload, .if_icmp .gt 43, .aload 0, .iload 2, .iload 3, .iload 1, .aload 0, .getfield 805, .iload 1, .iaload, .invokeinterface 75 5, .ifCond .eq 37, .bipush 1, .freturn] ls st m := At.eq k73_2
theorem k73_37 : pg.1 73 37 = [.iinc 3 1, .goto 2] := rfl
theorem a73_37 {tb : Tab} {d : Nat} {K : Out → AM → Prop} {ls st : List AV} {m : AM} : At tb d 73 K 37 ls st m = wpB tb (pg.2.1 73) (Runs tb pg d) K (At tb d 73 K) [.iinc 3 1, .goto 2] ls st m := At.eq k73_37
theorem k73_43 : pg.1 73 43 = [.bipush 0, .freturn] := rfl
theorem a73_43 {tb : Tab} {d : Nat} {K : Out → AM → Prop} {ls st : List AV} {m : AM} : At tb d 73 K 43 ls st m = wpB tb (pg.2.1 73) (Runs tb pg d) K (At tb d 73 K) [.bipush 0, .freturn] ls st m := At.eq k73_43
theorem w_73 {p q : Int} (hw : isW w) (hR : RW S w r) (hA : AB r) (hV : GV r) (hp : 0 ≤ p ∧ p < r 4) (hq : 0 ≤ q ∧ q < r 4) (hK : ∀ v, yn v (holdsM (pr r) q p 6) → K (.inl (some (vi v))) (X S m)) : Runs tb pg (d + 3) 73 [vr w, vi p, vi q] (X S m) K := by
  have b3 := hA.2.1.1
  have b4 := hA.2.1.2.1
  have b5 := hA.2.1.2.2.1
  have e0 := hR.1.1
  have e4 := hR.1.2.1
  obtain ⟨q1, q2, q3, q4⟩ := hR.2.2.1 p hp.1 hp.2
  have z := AB_pp hA hp.1 hp.2
  obtain ⟨o1, o2, o3, o4⟩ := hR.2.2.1 q hq.1 hq.2
  have zq := AB_pp hA hq.1 hq.2
  have hL2 : (fun i : Int => (¬ holdsM (pr r) q p i) → At tb (d + 2) 73 K 2 [vr w, vi p, vi q, vi i] [] (X S m)) 0 := by
    refine loopZ (fun i : Int => (¬ holdsM (pr r) q p i) → At tb (d + 2) 73 K 2 [vr w, vi p, vi q, vi i] [] (X S m)) (6) (by omega) ?_ ?_
    · intro i h0 h1 h9  hg
      have ar := agM_run (P := pr r) (p := q) (q := p) (f := i)
      rw [a73_2]
      repeat' (first | omega | with_reducible refine h9  ?_ | with_reducible refine hK _ ?_ | simp only [w_iconst, w_istore, w_fall, Int.reduceToNat, w_iload, w_aload, x_g805_w0, x_iald, w_ialoads, w_ialoadw, w_iadd, w_ifc, cI, w_call, w_if, w_zreturn, w_iinc, lgB, Nat.reduceSub, w_goto, isA_w1, isA_w2, isA_w3, isA_w4, isA_w5, isA_w6, isA_w7, isA_w8, isA_w10, isA_w11, isA_w12, isA_w14, isA_w15, isA_w16, len_w1, len_w2, len_w3, len_w4, len_w5, len_w6, len_w7, len_w8, len_w10, len_w11, len_w12, len_w14, len_w15, len_w16, Int.cast_ofNat_Int, a73_0, a73_37, a73_43, R32, List.getElem?_cons_zero, List.getElem?_cons_succ, List.set_cons_zero, List.set_cons_succ, List.cons_append, List.nil_append, List.replicate_succ, List.replicate_zero, List.take_succ_cons, List.take_zero, List.drop_succ_cons, List.drop_zero, List.reverse_cons, List.reverse_nil, List.length_cons, List.length_nil, Option.toList, true_and, and_true, eq_self, ↓reduceIte, not_true_eq_false, not_false_eq_true, true_or, or_true, hw] | with_reducible refine w_75 hw hR hA hV hq hp ?_ ?_ (fun v1 x1 => ?_) | with_reducible refine And.intro ?_ ?_ | with_reducible intro _)
      all_goals (try (first | omega | contradiction | (rcases x1 with ⟨x2, x3⟩ | ⟨x2, x3⟩; all_goals first | omega | (exact Or.inl ⟨rfl, i, h0, by omega, (ar (by omega)).mp (by rw [← q1]; exact x3)⟩) | (intro y; rcases (holdsM_s h0).mp y with y1 | y1; exact hg y1; exact x3 (by rw [q1]; exact (ar (by omega)).mpr y1))) | (exact Or.inr ⟨rfl, fun ⟨f, f0, f1, f2⟩ => by by_cases y : f < i; exact hg ⟨f, f0, y, f2⟩; have := f2.1; omega⟩)))
    · intro  hg
      rw [a73_2]
      repeat' (first | omega | with_reducible refine hK _ ?_ | simp only [w_iconst, w_istore, w_fall, Int.reduceToNat, w_iload, w_aload, x_g805_w0, x_iald, w_ialoads, w_ialoadw, w_iadd, w_ifc, cI, w_call, w_if, w_zreturn, w_iinc, lgB, Nat.reduceSub, w_goto, isA_w1, isA_w2, isA_w3, isA_w4, isA_w5, isA_w6, isA_w7, isA_w8, isA_w10, isA_w11, isA_w12, isA_w14, isA_w15, isA_w16, len_w1, len_w2, len_w3, len_w4, len_w5, len_w6, len_w7, len_w8, len_w10, len_w11, len_w12, len_w14, len_w15, len_w16, Int.cast_ofNat_Int, a73_0, a73_37, a73_43, R32, List.getElem?_cons_zero, List.getElem?_cons_succ, List.set_cons_zero, List.set_cons_succ, List.cons_append, List.nil_append, List.replicate_succ, List.replicate_zero, List.take_succ_cons, List.take_zero, List.drop_succ_cons, List.drop_zero, List.reverse_cons, List.reverse_nil, List.length_cons, List.length_nil, Option.toList, true_and, and_true, eq_self, ↓reduceIte, not_true_eq_false, not_false_eq_true, true_or, or_true, hw] | with_reducible refine w_75 hw hR hA hV hq hp ?_ ?_ (fun v1 x1 => ?_) | with_reducible refine And.intro ?_ ?_ | with_reducible intro _)
      all_goals (try (first | omega | contradiction | (exact Or.inr ⟨rfl, hg⟩)))
  refine Runs.of (al := [vr w, vi p, vi q]) (n := 1) trivial rfl rfl trivial ?_
  repeat' (first | omega | with_reducible refine hL2 ?_ | simp only [w_iconst, w_istore, w_fall, Int.reduceToNat, w_iload, w_aload, x_g805_w0, x_iald, w_ialoads, w_ialoadw, w_iadd, w_ifc, cI, w_call, w_if, w_zreturn, w_iinc, lgB, Nat.reduceSub, w_goto, isA_w1, isA_w2, isA_w3, isA_w4, isA_w5, isA_w6, isA_w7, isA_w8, isA_w10, isA_w11, isA_w12, isA_w14, isA_w15, isA_w16, len_w1, len_w2, len_w3, len_w4, len_w5, len_w6, len_w7, len_w8, len_w10, len_w11, len_w12, len_w14, len_w15, len_w16, Int.cast_ofNat_Int, a73_0, a73_37, a73_43, R32, List.getElem?_cons_zero, List.getElem?_cons_succ, List.set_cons_zero, List.set_cons_succ, List.cons_append, List.nil_append, List.replicate_succ, List.replicate_zero, List.take_succ_cons, List.take_zero, List.drop_succ_cons, List.drop_zero, List.reverse_cons, List.reverse_nil, List.length_cons, List.length_nil, Option.toList, true_and, and_true, eq_self, ↓reduceIte, not_true_eq_false, not_false_eq_true, true_or, or_true, hw] | with_reducible refine And.intro ?_ ?_ | with_reducible intro _)
  all_goals (try (first | omega | (exfalso; assumption) | exact holdsM_0))
theorem k74_0 : pg.1 74 0 = [.aload 0, .getfield 805, .iload 1, .iaload, .aload 0, .getfield 805, .iload 2, .iaload, .invokestatic 0, .istore 3, .jsr 16] := rfl
theorem a74_0 {tb : Tab} {d : Nat} {K : Out → AM → Prop} {ls st : List AV} {m : AM} : At tb d 74 K 0 ls st m = wpB tb (pg.2.1 74) (Runs tb pg d) K (At tb d 74 K) [.aload 0, .getfield 805, .iload 1, .iaload, .aload 0, .getfield 805, .iload 2, .iaload, .invokestatic 0, .istore 3, .jsr 16] ls st m := At.eq k74_0
theorem k74_16 : pg.1 74 16 = [.iload 3, .ifCond .le 46, .aload 0, .iload 1, .aload 0, .getfield 805, .iload 1, .iaload, .iload 3, .isub, .iload 2, .iload 3, .invokeinterface 75 5, .ifCond .eq 40, .iload 3, .ireturn] := rfl
theorem a74_16 {tb : Tab} {d : Nat} {K : Out → AM → Prop} {ls st : List AV} {m : AM} : At tb d 74 K 16 ls st m = wpB tb (pg.2.1 74) (Runs tb pg d) K (At tb d 74 K) [.iload 3, .ifCond .le 46, .aload 0, .iload 1, .aload 0, .getfield 805, .iload 1, .iaload, .iload 3, .isub, .iload 2, .iload 3, .invokeinterface 75 5, .ifCond .eq 40, .iload 3, .ireturn] ls st m := At.eq k74_16
theorem k74_40 : pg.1 74 40 = [.iinc 3 (-1), .goto 16] := rfl
theorem a74_40 {tb : Tab} {d : Nat} {K : Out → AM → Prop} {ls st : List AV} {m : AM} : At tb d 74 K 40 ls st m = wpB tb (pg.2.1 74) (Runs tb pg d) K (At tb d 74 K) [.iinc 3 (-1), .goto 16] ls st m := At.eq k74_40
theorem k74_46 : pg.1 74 46 = [.bipush 0, .ireturn] := rfl
theorem a74_46 {tb : Tab} {d : Nat} {K : Out → AM → Prop} {ls st : List AV} {m : AM} : At tb d 74 K 46 ls st m = wpB tb (pg.2.1 74) (Runs tb pg d) K (At tb d 74 K) [.bipush 0, .ireturn] ls st m := At.eq k74_46
theorem w_74 {p q : Int} (hw : isW w) (hR : RW S w r) (hA : AB r) (hV : GV r) (hp : 0 ≤ p ∧ p < r 4) (hq : 0 ≤ q ∧ q < r 4) (hK : ∀ v, isOv (pr r) p q (mnM (pr r) p q + 1) v → K (.inl (some (vi v))) (X S m)) : Runs tb pg (d + 3) 74 [vr w, vi p, vi q] (X S m) K := by
  have b3 := hA.2.1.1
  have b4 := hA.2.1.2.1
  have b5 := hA.2.1.2.2.1
  have e0 := hR.1.1
  have e4 := hR.1.2.1
  obtain ⟨q1, q2, q3, q4⟩ := hR.2.2.1 p hp.1 hp.2
  have z := AB_pp hA hp.1 hp.2
  obtain ⟨o1, o2, o3, o4⟩ := hR.2.2.1 q hq.1 hq.2
  have zq := AB_pp hA hq.1 hq.2
  obtain ⟨mn, hmn⟩ : ∃ mn, mn = mnM (pr r) p q := ⟨_, rfl⟩
  have hm2 : mn = if pr r p 0 < pr r q 0 then pr r p 0 else pr r q 0 := hmn
  have hm3 : 1 ≤ mn ∧ mn ≤ pr r p 0 ∧ mn ≤ pr r q 0 := by split at hm2 <;> omega
  rw [← hmn] at hK
  have hL16 : (fun i : Int => ∀ (n : Int), n = mn - i → (∀ k, n < k → k < mn + 1 → 0 < k → ¬ ovM (pr r) p q k k) → At tb (d + 2) 74 K 16 [vr w, vi p, vi q, vi n] [] (X S m)) 0 := by
    refine loopZ (fun i : Int => ∀ (n : Int), n = mn - i → (∀ k, n < k → k < mn + 1 → 0 < k → ¬ ovM (pr r) p q k k) → At tb (d + 2) 74 K 16 [vr w, vi p, vi q, vi n] [] (X S m)) (mn) (by omega) ?_ ?_
    · intro i h0 h1 h9 n hn hg
      have ao := agM_ov (P := pr r) (p := p) (q := q) (n := n)
      rw [a74_16]
      repeat' (first | omega | with_reducible refine h9 _ ?_ ?_ | with_reducible refine hK _ ?_ | simp only [w_aload, x_g805_w0, w_iload, x_iald, w_ialoads, w_ialoadw, w_min, w_istore, w_fall, Int.reduceToNat, w_if, cI, w_isub, w_call, w_ireturn, w_iinc, lgB, Nat.reduceSub, w_goto, w_iconst, isA_w1, isA_w2, isA_w3, isA_w4, isA_w5, isA_w6, isA_w7, isA_w8, isA_w10, isA_w11, isA_w12, isA_w14, isA_w15, isA_w16, len_w1, len_w2, len_w3, len_w4, len_w5, len_w6, len_w7, len_w8, len_w10, len_w11, len_w12, len_w14, len_w15, len_w16, Int.cast_ofNat_Int, a74_0, a74_40, a74_46, R32, List.getElem?_cons_zero, List.getElem?_cons_succ, List.set_cons_zero, List.set_cons_succ, List.cons_append, List.nil_append, List.replicate_succ, List.replicate_zero, List.take_succ_cons, List.take_zero, List.drop_succ_cons, List.drop_zero, List.reverse_cons, List.reverse_nil, List.length_cons, List.length_nil, Option.toList, true_and, and_true, eq_self, ↓reduceIte, not_true_eq_false, not_false_eq_true, true_or, or_true, hw] | with_reducible refine w_75 hw hR hA hV hp hq ?_ ?_ (fun v1 x1 => ?_) | (rw [show n + -1 = n - 1 by omega]) | with_reducible refine And.intro ?_ ?_ | with_reducible intro _)
      all_goals (try (first | omega | contradiction | (rcases x1 with ⟨x2, x3⟩ | ⟨x2, x3⟩; all_goals first | omega | (exact ⟨Or.inr ⟨by omega, by omega, ao.mp (by rw [← q1]; exact x3)⟩, fun k k0 k1 k2 => hg k k0 k1 k2⟩) | (intro y; exact x3 (by rw [q1]; exact (agM_ov (P := pr r) (p := p) (q := q)).mpr (by have e : _ = n := Int.le_antisymm (by omega) (by omega); rw [← e]; exact y)))) | (rename_i k c1 c2 c3; by_cases e : k = n; (subst e; rcases x1 with ⟨x2, x3⟩ | ⟨x2, x3⟩; omega; exact fun y => x3 (by rw [q1]; exact ao.mpr y)); exact hg k (by omega) (by omega) (by omega))))
    · intro n hn hg
      rw [a74_16]
      repeat' (first | omega | with_reducible refine hK _ ?_ | simp only [w_aload, x_g805_w0, w_iload, x_iald, w_ialoads, w_ialoadw, w_min, w_istore, w_fall, Int.reduceToNat, w_if, cI, w_isub, w_call, w_ireturn, w_iinc, lgB, Nat.reduceSub, w_goto, w_iconst, isA_w1, isA_w2, isA_w3, isA_w4, isA_w5, isA_w6, isA_w7, isA_w8, isA_w10, isA_w11, isA_w12, isA_w14, isA_w15, isA_w16, len_w1, len_w2, len_w3, len_w4, len_w5, len_w6, len_w7, len_w8, len_w10, len_w11, len_w12, len_w14, len_w15, len_w16, Int.cast_ofNat_Int, a74_0, a74_40, a74_46, R32, List.getElem?_cons_zero, List.getElem?_cons_succ, List.set_cons_zero, List.set_cons_succ, List.cons_append, List.nil_append, List.replicate_succ, List.replicate_zero, List.take_succ_cons, List.take_zero, List.drop_succ_cons, List.drop_zero, List.reverse_cons, List.reverse_nil, List.length_cons, List.length_nil, Option.toList, true_and, and_true, eq_self, ↓reduceIte, not_true_eq_false, not_false_eq_true, true_or, or_true, hw] | with_reducible refine w_75 hw hR hA hV hp hq ?_ ?_ (fun v1 x1 => ?_) | (rw [show n + -1 = n - 1 by omega]) | with_reducible refine And.intro ?_ ?_ | with_reducible intro _)
      all_goals (try (first | omega | contradiction | (have e : n = 0 := by omega); (exact ⟨Or.inl rfl, fun k k0 k1 k2 => hg k (by omega) k1 k2⟩)))
  refine Runs.of (al := [vr w, vi p, vi q]) (n := 1) trivial rfl rfl trivial ?_
  repeat' (first | omega | with_reducible refine hL16 _ ?_ ?_ | simp only [w_aload, x_g805_w0, w_iload, x_iald, w_ialoads, w_ialoadw, w_min, w_istore, w_fall, Int.reduceToNat, w_if, cI, w_isub, w_call, w_ireturn, w_iinc, lgB, Nat.reduceSub, w_goto, w_iconst, isA_w1, isA_w2, isA_w3, isA_w4, isA_w5, isA_w6, isA_w7, isA_w8, isA_w10, isA_w11, isA_w12, isA_w14, isA_w15, isA_w16, len_w1, len_w2, len_w3, len_w4, len_w5, len_w6, len_w7, len_w8, len_w10, len_w11, len_w12, len_w14, len_w15, len_w16, Int.cast_ofNat_Int, a74_0, a74_40, a74_46, R32, List.getElem?_cons_zero, List.getElem?_cons_succ, List.set_cons_zero, List.set_cons_succ, List.cons_append, List.nil_append, List.replicate_succ, List.replicate_zero, List.take_succ_cons, List.take_zero, List.drop_succ_cons, List.drop_zero, List.reverse_cons, List.reverse_nil, List.length_cons, List.length_nil, Option.toList, true_and, and_true, eq_self, ↓reduceIte, not_true_eq_false, not_false_eq_true, true_or, or_true, hw] | with_reducible refine And.intro ?_ ?_ | with_reducible intro _)
  all_goals (try (first | omega | (exfalso; assumption) | (subst hm2; split <;> omega) | (intro k k0 k1; omega)))
end Names2
