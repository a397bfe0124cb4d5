/-! ===== THE REFERENCE, further leaves ===== -/
theorem isOv_s {P : Int → Int → Int} {p o n a b : Int} (h : isOv P p o n a) (hn : 0 < n) (hb : (ovM P p o n n ∧ b = n) ∨ (¬ ovM P p o n n ∧ b = a)) : isOv P p o (n + 1) b := by
  unfold isOv at h ⊢
  rcases hb with ⟨h1, rfl⟩ | ⟨h1, rfl⟩
  · exact ⟨Or.inr ⟨hn, by omega, h1⟩, fun k k0 k1 => by omega⟩
  · refine ⟨?_, fun k k0 k1 k2 => ?_⟩
    · rcases h.1 with z | ⟨z1, z2, z3⟩
      · exact Or.inl z
      · exact Or.inr ⟨z1, by omega, z3⟩
    · by_cases e : k = n
      · subst e; exact h1
      · exact h.2 k k0 (by omega) k2
/-- the debts' people -/
def DR (S : Nat → Int → Int) : Prop := ∀ k, 0 ≤ k → k < S 301 5 → (0 ≤ dR S k 0 ∧ dR S k 0 < 6) ∧ (0 ≤ dR S k 1 ∧ dR S k 1 < 6)
/-- the worths -/
def GR (S : Nat → Int → Int) : Prop := ∀ i, 0 ≤ i → i < 7 → S 312 i = worthT i.toNat
/-- whom those of a set owe -/
def isDb (D : Int → Int → Int) (s n a : Int) : Prop := (0 ≤ a ∧ a < 64) ∧ ∀ j, 0 ≤ j → j < 8 → (bitB a j ↔ ∃ k, 0 ≤ k ∧ k < n ∧ bitB s (D k 0) ∧ D k 1 = j)
theorem isDb_0 {D : Int → Int → Int} {s : Int} : isDb D s 0 0 := ⟨⟨by decide, by decide⟩, fun j h0 h1 => ⟨fun z => absurd z (bit_0 h0 h1), fun ⟨k, k0, k1, _⟩ => by omega⟩⟩
theorem isDb_y {D : Int → Int → Int} {s i a : Int} (h0 : 0 ≤ i) (hd : 0 ≤ D i 1 ∧ D i 1 < 6) (h : isDb D s i a) (hc : bitB s (D i 0)) : isDb D s (i + 1) (orI a (shlI 1 (D i 1))) := by
  have a9 : a < 256 := by have := h.1.2; omega
  refine ⟨⟨(or_bd h.1.1 a9 hd.1 (by omega)).1, or_bd6 h.1.1 h.1.2 hd.1 hd.2⟩, fun j j0 j1 => ?_⟩
  rw [or_mem h.1.1 a9 hd.1 (by omega) j0 j1, h.2 j j0 j1]
  constructor
  · rintro (⟨k, k0, k1, k2⟩ | z)
    · exact ⟨k, k0, by omega, k2⟩
    · exact ⟨i, h0, by omega, hc, z.symm⟩
  · rintro ⟨k, k0, k1, k2, k3⟩
    by_cases e : k = i
    · subst e; exact Or.inr k3.symm
    · exact Or.inl ⟨k, k0, by omega, k2, k3⟩
theorem isDb_n {D : Int → Int → Int} {s i a : Int} (h : isDb D s i a) (hc : ¬ bitB s (D i 0)) : isDb D s (i + 1) a := by
  refine ⟨h.1, fun j j0 j1 => ?_⟩
  rw [h.2 j j0 j1]
  constructor
  · rintro ⟨k, k0, k1, k2⟩
    exact ⟨k, k0, by omega, k2⟩
  · rintro ⟨k, k0, k1, k2, k3⟩
    by_cases e : k = i
    · subst e; exact absurd k2 hc
    · exact ⟨k, k0, by omega, k2, k3⟩
theorem isDb_n0 {D : Int → Int → Int} {s i a : Int} (h : isDb D s i a) (hc : ¬ bitB s (D i 0)) : isDb D s (i + 1) (orI a 0) := by
  rw [or_0 h.1.1 (by have := h.1.2; omega)]
  exact isDb_n h hc
theorem isDb_uq {D E : Int → Int → Int} {s n a b : Int} (h : isDb D s n a) (g : isDb E s n b) (z : ∀ k, 0 ≤ k → k < n → D k 0 = E k 0 ∧ D k 1 = E k 1) : a = b := by
  refine set_ext h.1.1 (by have := h.1.2; omega) g.1.1 (by have := g.1.2; omega) fun j j0 j1 => ?_
  rw [h.2 j j0 j1, g.2 j j0 j1]
  constructor
  · rintro ⟨k, k0, k1, k2, k3⟩
    exact ⟨k, k0, k1, by rw [← (z k k0 k1).1]; exact k2, by rw [← (z k k0 k1).2]; exact k3⟩
  · rintro ⟨k, k0, k1, k2, k3⟩
    exact ⟨k, k0, k1, by rw [(z k k0 k1).1]; exact k2, by rw [(z k k0 k1).2]; exact k3⟩
def kindsM (P : Int → Int → Int) (p n : Int) : Int := orZ n fun k => shlI 1 (P p (2 + k))
def worthZ (i : Int) : Int := worthT i.toNat
def nimM (P : Int → Int → Int) (n : Int) : Int := xorZ n fun p => worthZ (leftM P p (P p 0))
def balM (D : Int → Int → Int) (k n s : Int) : Int := sumZ n fun p => if bitB s p then owesM D k p else 0
theorem owesM_bd {S : Nat → Int → Int} (hB : BR S) (p : Int) : -100000 ≤ owesM (dR S) (S 301 5) p ∧ owesM (dR S) (S 301 5) p ≤ 100000 := by
  have u := owed_bd hB p
  unfold owesM
  omega
theorem balM_bd {S : Nat → Int → Int} {s n : Int} (hB : BR S) (hn : 0 ≤ n ∧ n ≤ 6) : -600000 ≤ balM (dR S) (S 301 5) n s ∧ balM (dR S) (S 301 5) n s ≤ 600000 := by
  have := sumZ_le (f := fun p => if bitB s p then owesM (dR S) (S 301 5) p else 0) (n := n) (a := -100000) (b := 100000) hn.1 (fun i _ _ => by have := owesM_bd hB i; split <;> omega)
  unfold balM
  omega
theorem I32_R (x : Int32) : -2147483648 ≤ x.toInt ∧ x.toInt < 2147483648 := by
  have h1 := x.minValue_le_toInt
  have h2 := x.toInt_le
  have h3 : Int32.minValue.toInt = -2147483648 := by decide
  have h4 : Int32.maxValue.toInt = 2147483647 := by decide
  omega
section Ref4
variable {tb : Tab} {d : Nat} {m : AM} {K : Out → AM → Prop} {S : Nat → Int → Int}
theorem k311_0 : pg.1 311 0 = [.bipush 0, .istore 3, .bipush 1, .istore 4, .jsr 5] := rfl
theorem a311_0 {tb : Tab} {d : Nat} {K : Out → AM → Prop} {ls st : List AV} {m : AM} : At tb d 311 K 0 ls st m = wpB tb (pg.2.1 311) (Runs tb pg d) K (At tb d 311 K) [.bipush 0, .istore 3, .bipush 1, .istore 4, .jsr 5] ls st m := At.eq k311_0
theorem k311_5 : pg.1 311 5 = [.iload 4, .aload 0, .iload 1, .bipush 0, .invokeinterface 206 3, .aload 0, .iload 2, .bipush 0, .invokeinterface 206 3, .invokeinterface 201 2, .if_icmp .gt 105, .bipush 1, .istore 5, .bipush 0, .istore 6, .jsr 31] := rfl
theorem a311_5 {tb : Tab} {d : Nat} {K : Out → AM → Prop} {ls st : List AV} {m : AM} : At tb d 311 K 5 ls st m = wpB tb (pg.2.1 311) (Runs tb pg d) K (At tb d 311 K) [.iload 4, .aload 0, .iload 1, .bipush 0, .invokeinterface 206 3, .aload 0, .iload 2, .bipush 0, .invokeinterface 206 3, .invokeinterface 201 2, .if_icmp .gt 105, .bipush 1, .istore 5, .bipush 0, .istore 6, .jsr 31] ls st m := At.eq k311_5
theorem k311_31 : pg.1 311 31 = [.iload 6, .iload 4, .if_icmp .ge 87, .iload 5, .ifCond .eq 87, .aload 0, .iload 1, .bipush 2, .aload 0, .iload 1, .bipush 0, .invokeinterface 206 3, .iadd, .iload 4, .isub, .iload 6, .iadd, .invokeinterface 206 3, .aload 0, .iload 2, .bipush 2, .iload 6, .iadd, .invokeinterface 206 3, .if_icmp .ne 78, .bipush 1, .goto 79] := rfl
theorem a311_31 {tb : Tab} {d : Nat} {K : Out → AM → Prop} {ls st : List AV} {m : AM} : At tb d 311 K 31 ls st m = wpB tb (pg.2.1 311) (Runs tb pg d) K (At tb d 311 K) [.iload 6, .iload 4, .if_icmp .ge 87, .iload 5, .ifCond .eq 87, .aload 0, .iload 1, .bipush 2, .aload 0, .iload 1, .bipush 0, .invokeinterface 206 3, .iadd, .iload 4, .isub, .iload 6, .iadd, .invokeinterface 206 3, .aload 0, .iload 2, .bipush 2, .iload 6, .iadd, .invokeinterface 206 3, .if_icmp .ne 78, .bipush 1, .goto 79] ls st m := At.eq k311_31
theorem k311_78 : pg.1 311 78 = [.bipush 0, .jsr 79] := rfl
theorem a311_78 {tb : Tab} {d : Nat} {K : Out → AM → Prop} {ls st : List AV} {m : AM} : At tb d 311 K 78 ls st m = wpB tb (pg.2.1 311) (Runs tb pg d) K (At tb d 311 K) [.bipush 0, .jsr 79] ls st m := At.eq k311_78
theorem k311_79 : pg.1 311 79 = [.istore 5, .iinc 6 1, .goto 31] := rfl
theorem a311_79 {tb : Tab} {d : Nat} {K : Out → AM → Prop} {ls st : List AV} {m : AM} : At tb d 311 K 79 ls st m = wpB tb (pg.2.1 311) (Runs tb pg d) K (At tb d 311 K) [.istore 5, .iinc 6 1, .goto 31] ls st m := At.eq k311_79
theorem k311_87 : pg.1 311 87 = [.iload 5, .ifCond .eq 97, .iload 4, .goto 98] := rfl
theorem a311_87 {tb : Tab} {d : Nat} {K : Out → AM → Prop} {ls st : List AV} {m : AM} : At tb d 311 K 87 ls st m = wpB tb (pg.2.1 311) (Runs tb pg d) K (At tb d 311 K) [.iload 5, .ifCond .eq 97, .iload 4, .goto 98] ls st m := At.eq k311_87
theorem k311_97 : pg.1 311 97 = [.iload 3, .jsr 98] := rfl
theorem a311_97 {tb : Tab} {d : Nat} {K : Out → AM → Prop} {ls st : List AV} {m : AM} : At tb d 311 K 97 ls st m = wpB tb (pg.2.1 311) (Runs tb pg d) K (At tb d 311 K) [.iload 3, .jsr 98] ls st m := At.eq k311_97
theorem k311_98 : pg.1 311 98 = [.istore 3, .iinc 4 1, .goto 5] := rfl
theorem a311_98 {tb : Tab} {d : Nat} {K : Out → AM → Prop} {ls st : List AV} {m : AM} : At tb d 311 K 98 ls st m = wpB tb (pg.2.1 311) (Runs tb pg d) K (At tb d 311 K) [.istore 3, .iinc 4 1, .goto 5] ls st m := At.eq k311_98
theorem k311_105 : pg.1 311 105 = [.iload 3, .ireturn] := rfl
theorem a311_105 {tb : Tab} {d : Nat} {K : Out → AM → Prop} {ls st : List AV} {m : AM} : At tb d 311 K 105 ls st m = wpB tb (pg.2.1 311) (Runs tb pg d) K (At tb d 311 K) [.iload 3, .ireturn] ls st m := At.eq k311_105
theorem q_311 {p o : Int} (hB : BR S) (hp : 0 ≤ p ∧ p < 6) (ho : 0 ≤ o ∧ o < 6) (hK : ∀ r, isOv (oR S) p o ((if oR S p 0 < oR S o 0 then oR S p 0 else oR S o 0) + 1) r → 0 ≤ r → r ≤ 6 → K (.inl (some (vi r))) (X S m)) : Runs tb pg (d + 2) 311 [vr 300, vi p, vi o] (X S m) K := by
  have b4 := (hB.2.2.2.2.1 p hp.1 hp.2).1
  have b6 := (hB.2.2.2.2.1 o ho.1 ho.2).1
  have hL5 : (fun i : Int => ∀ (z5 : AV) (z6 : AV) (n : Int) (a : Int), n = i + 1 → (isOv (oR S) p o (i + 1) a) → (0 ≤ a ∧ a ≤ i) → At tb (d + 1) 311 K 5 [vr 300, vi p, vi o, vi a, vi n, z5, z6] [] (X S m)) 0 := by
    refine loopZ (fun i : Int => ∀ (z5 : AV) (z6 : AV) (n : Int) (a : Int), n = i + 1 → (isOv (oR S) p o (i + 1) a) → (0 ≤ a ∧ a ≤ i) → At tb (d + 1) 311 K 5 [vr 300, vi p, vi o, vi a, vi n, z5, z6] [] (X S m)) (if oR S p 0 < oR S o 0 then oR S p 0 else oR S o 0) (by split <;> omega) ?_ ?_
    · intro i h0 h1 h9 z5 z6 n a hn ha hc
      have hmin : i < oR S p 0 ∧ i < oR S o 0 := by split at h1 <;> omega
      have hL31 : (fun j : Int => ∀ (c : Int), (yn c (ovM (oR S) p o (i + 1) j)) → At tb (d + 1) 311 K 31 [vr 300, vi p, vi o, vi a, vi n, vi c, vi j] [] (X S m)) 0 := by
        refine loopZ (fun j : Int => ∀ (c : Int), (yn c (ovM (oR S) p o (i + 1) j)) → At tb (d + 1) 311 K 31 [vr 300, vi p, vi o, vi a, vi n, vi c, vi j] [] (X S m)) (i + 1) (by omega) ?_ ?_
        · intro j j0 j1 h8 c hc
          have q4 := ovM_s (P := oR S) (p := p) (o := o) (n := i + 1) j0
          have q6 : ovM (oR S) p o (i + 1) (i + 1) → ovM (oR S) p o (i + 1) j := fun z => ovM_le (by omega) z
          have e9 : 2 + oR S p 0 - n + j = 2 + oR S p 0 - (i + 1) + j := by omega
          rw [a311_31]
          repeat' (first | refine h8 _ ?_ | refine h9 _ _ _ _ ?_ ?_ ?_ | simp only [w_iconst, w_istore, w_fall, Int.reduceToNat, w_iload, w_aload, w_call, w_ifc, cI, w_if, w_iadd, w_isub, w_goto, w_iinc, lgB, Nat.reduceSub, w_ireturn, a311_0, a311_78, a311_79, a311_87, a311_97, a311_98, a311_105, R32, List.getElem?_cons_zero, List.getElem?_cons_succ, List.set_cons_zero, List.set_cons_succ, List.cons_append, List.nil_append, List.replicate_succ, List.replicate_zero, List.take_succ_cons, List.take_zero, List.drop_succ_cons, List.drop_zero, List.reverse_cons, List.reverse_nil, List.length_cons, List.length_nil, Option.toList, true_and, and_true, eq_self, ↓reduceIte, not_true_eq_false, not_false_eq_true] | refine q_201 ?_ ?_ ?_ | refine q_206 hB ?_ ?_ ?_ | with_reducible refine And.intro ?_ ?_ | with_reducible intro _)
          all_goals (try (first | omega | contradiction | ((try clear hK); (try clear hK0); (try clear hB); (try clear h9); (try clear h8); (try clear h7); first | omega | (refine isOv_s ha (by omega) ?_; grind [yn]) | grind [yn])))
        · intro c hc
          rw [a311_31]
          repeat' (first | refine h9 _ _ _ _ ?_ ?_ ?_ | simp only [w_iconst, w_istore, w_fall, Int.reduceToNat, w_iload, w_aload, w_call, w_ifc, cI, w_if, w_iadd, w_isub, w_goto, w_iinc, lgB, Nat.reduceSub, w_ireturn, a311_0, a311_78, a311_79, a311_87, a311_97, a311_98, a311_105, R32, List.getElem?_cons_zero, List.getElem?_cons_succ, List.set_cons_zero, List.set_cons_succ, List.cons_append, List.nil_append, List.replicate_succ, List.replicate_zero, List.take_succ_cons, List.take_zero, List.drop_succ_cons, List.drop_zero, List.reverse_cons, List.reverse_nil, List.length_cons, List.length_nil, Option.toList, true_and, and_true, eq_self, ↓reduceIte, not_true_eq_false, not_false_eq_true] | refine q_201 ?_ ?_ ?_ | refine q_206 hB ?_ ?_ ?_ | with_reducible refine And.intro ?_ ?_ | with_reducible intro _)
          all_goals (try (first | omega | contradiction | ((try clear hK); (try clear hK0); (try clear hB); (try clear h9); (try clear h8); (try clear h7); first | omega | (refine isOv_s ha (by omega) ?_; grind [yn]) | grind [yn])))
      rw [a311_5]
      repeat' (first | refine h9 _ _ _ _ ?_ ?_ ?_ | refine hL31 _ ?_ | simp only [w_iconst, w_istore, w_fall, Int.reduceToNat, w_iload, w_aload, w_call, w_ifc, cI, w_if, w_iadd, w_isub, w_goto, w_iinc, lgB, Nat.reduceSub, w_ireturn, a311_0, a311_78, a311_79, a311_87, a311_97, a311_98, a311_105, R32, List.getElem?_cons_zero, List.getElem?_cons_succ, List.set_cons_zero, List.set_cons_succ, List.cons_append, List.nil_append, List.replicate_succ, List.replicate_zero, List.take_succ_cons, List.take_zero, List.drop_succ_cons, List.drop_zero, List.reverse_cons, List.reverse_nil, List.length_cons, List.length_nil, Option.toList, true_and, and_true, eq_self, ↓reduceIte, not_true_eq_false, not_false_eq_true] | refine q_201 ?_ ?_ ?_ | refine q_206 hB ?_ ?_ ?_ | with_reducible refine And.intro ?_ ?_ | with_reducible intro _)
      all_goals (try (first | omega | contradiction | ((try clear hK); (try clear hK0); (try clear hB); (try clear h9); (try clear h8); (try clear h7); first | omega | grind [yn, ovM_0])))
    · intro z5 z6 n a hn ha hc
      rw [a311_5]
      repeat' (first | refine hK _ ?_ ?_ ?_ | simp only [w_iconst, w_istore, w_fall, Int.reduceToNat, w_iload, w_aload, w_call, w_ifc, cI, w_if, w_iadd, w_isub, w_goto, w_iinc, lgB, Nat.reduceSub, w_ireturn, a311_0, a311_78, a311_79, a311_87, a311_97, a311_98, a311_105, R32, List.getElem?_cons_zero, List.getElem?_cons_succ, List.set_cons_zero, List.set_cons_succ, List.cons_append, List.nil_append, List.replicate_succ, List.replicate_zero, List.take_succ_cons, List.take_zero, List.drop_succ_cons, List.drop_zero, List.reverse_cons, List.reverse_nil, List.length_cons, List.length_nil, Option.toList, true_and, and_true, eq_self, ↓reduceIte, not_true_eq_false, not_false_eq_true] | refine q_201 ?_ ?_ ?_ | refine q_206 hB ?_ ?_ ?_ | with_reducible refine And.intro ?_ ?_ | with_reducible intro _)
      all_goals (try (first | omega | contradiction | ((try clear hK); (try clear hK0); (try clear hB); (try clear h9); (try clear h8); (try clear h7); first | omega | grind)))
  refine Runs.of (al := [vr 300, vi p, vi o]) (n := 4) ⟨300, _, _, rfl, xo_300⟩ rfl rfl trivial ?_
  repeat' (first | refine hL5 _ _ _ _ ?_ ?_ ?_ | simp only [w_iconst, w_istore, w_fall, Int.reduceToNat, w_iload, w_aload, w_call, w_ifc, cI, w_if, w_iadd, w_isub, w_goto, w_iinc, lgB, Nat.reduceSub, w_ireturn, a311_0, a311_78, a311_79, a311_87, a311_97, a311_98, a311_105, R32, List.getElem?_cons_zero, List.getElem?_cons_succ, List.set_cons_zero, List.set_cons_succ, List.cons_append, List.nil_append, List.replicate_succ, List.replicate_zero, List.take_succ_cons, List.take_zero, List.drop_succ_cons, List.drop_zero, List.reverse_cons, List.reverse_nil, List.length_cons, List.length_nil, Option.toList, true_and, and_true, eq_self, ↓reduceIte, not_true_eq_false, not_false_eq_true] | refine q_201 ?_ ?_ ?_ | refine q_206 hB ?_ ?_ ?_ | with_reducible refine And.intro ?_ ?_ | with_reducible intro _)
  all_goals (try (first | omega | contradiction | ((try clear hK); (try clear hK0); (try clear hB); (try clear h9); (try clear h8); (try clear h7); first | omega | grind [isOv])))
theorem k313_0 : pg.1 313 0 = [.bipush 0, .istore 2, .bipush 0, .istore 3, .jsr 4] := rfl
theorem a313_0 {tb : Tab} {d : Nat} {K : Out → AM → Prop} {ls st : List AV} {m : AM} : At tb d 313 K 0 ls st m = wpB tb (pg.2.1 313) (Runs tb pg d) K (At tb d 313 K) [.bipush 0, .istore 2, .bipush 0, .istore 3, .jsr 4] ls st m := At.eq k313_0
theorem k313_4 : pg.1 313 4 = [.iload 3, .aload 0, .getfield 1001, .bipush 4, .iaload, .if_icmp .ge 40, .iload 2, .iload 1, .iload 3, .invokeinterface 203 2, .ifCond .eq 31, .aload 0, .iload 3, .invokeinterface 276 2, .goto 32] := rfl
theorem a313_4 {tb : Tab} {d : Nat} {K : Out → AM → Prop} {ls st : List AV} {m : AM} : At tb d 313 K 4 ls st m = wpB tb (pg.2.1 313) (Runs tb pg d) K (At tb d 313 K) [.iload 3, .aload 0, .getfield 1001, .bipush 4, .iaload, .if_icmp .ge 40, .iload 2, .iload 1, .iload 3, .invokeinterface 203 2, .ifCond .eq 31, .aload 0, .iload 3, .invokeinterface 276 2, .goto 32] ls st m := At.eq k313_4
theorem k313_31 : pg.1 313 31 = [.bipush 0, .jsr 32] := rfl
theorem a313_31 {tb : Tab} {d : Nat} {K : Out → AM → Prop} {ls st : List AV} {m : AM} : At tb d 313 K 31 ls st m = wpB tb (pg.2.1 313) (Runs tb pg d) K (At tb d 313 K) [.bipush 0, .jsr 32] ls st m := At.eq k313_31
theorem k313_32 : pg.1 313 32 = [.iadd, .istore 2, .iinc 3 1, .goto 4] := rfl
theorem a313_32 {tb : Tab} {d : Nat} {K : Out → AM → Prop} {ls st : List AV} {m : AM} : At tb d 313 K 32 ls st m = wpB tb (pg.2.1 313) (Runs tb pg d) K (At tb d 313 K) [.iadd, .istore 2, .iinc 3 1, .goto 4] ls st m := At.eq k313_32
theorem k313_40 : pg.1 313 40 = [.iload 2, .ireturn] := rfl
theorem a313_40 {tb : Tab} {d : Nat} {K : Out → AM → Prop} {ls st : List AV} {m : AM} : At tb d 313 K 40 ls st m = wpB tb (pg.2.1 313) (Runs tb pg d) K (At tb d 313 K) [.iload 2, .ireturn] ls st m := At.eq k313_40
theorem q_313 {s : Int} (hB : BR S) (hK : ∀ r, r = balM (dR S) (S 301 5) (S 301 4) s → -600000 ≤ r → r ≤ 600000 → K (.inl (some (vi r))) (X S m)) : Runs tb pg (d + 4) 313 [vr 300, vi s] (X S m) K := by
  have b4 := hB.2.2.1
  have u := balM_bd (s := s) hB b4
  have hL4 : (fun i : Int => ∀ (a : Int), a = balM (dR S) (S 301 5) i s → At tb (d + 3) 313 K 4 [vr 300, vi s, vi a, vi i] [] (X S m)) 0 := by
    refine loopZ (fun i : Int => ∀ (a : Int), a = balM (dR S) (S 301 5) i s → At tb (d + 3) 313 K 4 [vr 300, vi s, vi a, vi i] [] (X S m)) (S 301 4) (by omega) ?_ ?_
    · intro i h0 h1 h9 a ha
      rw [a313_4]
      repeat' (first | refine h9 _ ?_ | simp only [w_iconst, w_istore, w_fall, Int.reduceToNat, w_iload, w_aload, x_g1001_300, x_iald, w_ialoads, w_ialoadw, w_ifc, cI, w_call, w_if, w_goto, w_iadd, w_iinc, lgB, Nat.reduceSub, w_ireturn, isA_301, isA_302, isA_303, isA_304, isA_305, isA_306, isA_307, isA_308, isA_309, isA_310, isA_311, isA_312, isA_313, isA_314, isA_315, len_301, len_302, len_303, len_304, len_305, len_306, len_307, len_308, len_309, len_310, len_311, len_312, len_313, len_314, len_315, Int.cast_ofNat_Int, a313_0, a313_31, a313_32, a313_40, R32, List.getElem?_cons_zero, List.getElem?_cons_succ, List.set_cons_zero, List.set_cons_succ, List.cons_append, List.nil_append, List.replicate_succ, List.replicate_zero, List.take_succ_cons, List.take_zero, List.drop_succ_cons, List.drop_zero, List.reverse_cons, List.reverse_nil, List.length_cons, List.length_nil, Option.toList, true_and, and_true, eq_self, ↓reduceIte, not_true_eq_false, not_false_eq_true] | refine q_203 (fun q9 => ?_) (fun q9 => ?_) | refine q_276 hB ?_ ?_ | with_reducible refine And.intro ?_ ?_ | with_reducible intro _)
      all_goals (try (first | omega | contradiction | ((try clear hK); (try clear hK0); (try clear hB); (try clear h9); (try clear h8); (try clear h7); first | omega | grind [balM, sumZ_s])))
    · intro a ha
      rw [a313_4]
      repeat' (first | refine hK _ ?_ ?_ ?_ | simp only [w_iconst, w_istore, w_fall, Int.reduceToNat, w_iload, w_aload, x_g1001_300, x_iald, w_ialoads, w_ialoadw, w_ifc, cI, w_call, w_if, w_goto, w_iadd, w_iinc, lgB, Nat.reduceSub, w_ireturn, isA_301, isA_302, isA_303, isA_304, isA_305, isA_306, isA_307, isA_308, isA_309, isA_310, isA_311, isA_312, isA_313, isA_314, isA_315, len_301, len_302, len_303, len_304, len_305, len_306, len_307, len_308, len_309, len_310, len_311, len_312, len_313, len_314, len_315, Int.cast_ofNat_Int, a313_0, a313_31, a313_32, a313_40, R32, List.getElem?_cons_zero, List.getElem?_cons_succ, List.set_cons_zero, List.set_cons_succ, List.cons_append, List.nil_append, List.replicate_succ, List.replicate_zero, List.take_succ_cons, List.take_zero, List.drop_succ_cons, List.drop_zero, List.reverse_cons, List.reverse_nil, List.length_cons, List.length_nil, Option.toList, true_and, and_true, eq_self, ↓reduceIte, not_true_eq_false, not_false_eq_true] | refine q_203 (fun q9 => ?_) (fun q9 => ?_) | refine q_276 hB ?_ ?_ | with_reducible refine And.intro ?_ ?_ | with_reducible intro _)
      all_goals (try (first | omega | contradiction | ((try clear hK); (try clear hK0); (try clear hB); (try clear h9); (try clear h8); (try clear h7); first | omega | grind)))
  refine Runs.of (al := [vr 300, vi s]) (n := 2) ⟨300, _, _, rfl, xo_300⟩ rfl rfl trivial ?_
  repeat' (first | refine hL4 _ ?_ | simp only [w_iconst, w_istore, w_fall, Int.reduceToNat, w_iload, w_aload, x_g1001_300, x_iald, w_ialoads, w_ialoadw, w_ifc, cI, w_call, w_if, w_goto, w_iadd, w_iinc, lgB, Nat.reduceSub, w_ireturn, isA_301, isA_302, isA_303, isA_304, isA_305, isA_306, isA_307, isA_308, isA_309, isA_310, isA_311, isA_312, isA_313, isA_314, isA_315, len_301, len_302, len_303, len_304, len_305, len_306, len_307, len_308, len_309, len_310, len_311, len_312, len_313, len_314, len_315, Int.cast_ofNat_Int, a313_0, a313_31, a313_32, a313_40, R32, List.getElem?_cons_zero, List.getElem?_cons_succ, List.set_cons_zero, List.set_cons_succ, List.cons_append, List.nil_append, List.replicate_succ, List.replicate_zero, List.take_succ_cons, List.take_zero, List.drop_succ_cons, List.drop_zero, List.reverse_cons, List.reverse_nil, List.length_cons, List.length_nil, Option.toList, true_and, and_true, eq_self, ↓reduceIte, not_true_eq_false, not_false_eq_true] | refine q_203 (fun q9 => ?_) (fun q9 => ?_) | refine q_276 hB ?_ ?_ | with_reducible refine And.intro ?_ ?_ | with_reducible intro _)
  all_goals (try (first | omega | contradiction | ((try clear hK); (try clear hK0); (try clear hB); (try clear h9); (try clear h8); (try clear h7); first | omega | rfl)))
theorem k315_0 : pg.1 315 0 = [.bipush 0, .istore 2, .bipush 0, .istore 3, .jsr 4] := rfl
theorem a315_0 {tb : Tab} {d : Nat} {K : Out → AM → Prop} {ls st : List AV} {m : AM} : At tb d 315 K 0 ls st m = wpB tb (pg.2.1 315) (Runs tb pg d) K (At tb d 315 K) [.bipush 0, .istore 2, .bipush 0, .istore 3, .jsr 4] ls st m := At.eq k315_0
theorem k315_4 : pg.1 315 4 = [.iload 3, .aload 0, .getfield 1001, .bipush 5, .iaload, .if_icmp .ge 48, .iload 2, .iload 1, .aload 0, .iload 3, .bipush 0, .invokeinterface 208 3, .invokeinterface 203 2, .ifCond .eq 39, .bipush 1, .aload 0, .iload 3, .bipush 1, .invokeinterface 208 3, .ishl, .goto 40] := rfl
theorem a315_4 {tb : Tab} {d : Nat} {K : Out → AM → Prop} {ls st : List AV} {m : AM} : At tb d 315 K 4 ls st m = wpB tb (pg.2.1 315) (Runs tb pg d) K (At tb d 315 K) [.iload 3, .aload 0, .getfield 1001, .bipush 5, .iaload, .if_icmp .ge 48, .iload 2, .iload 1, .aload 0, .iload 3, .bipush 0, .invokeinterface 208 3, .invokeinterface 203 2, .ifCond .eq 39, .bipush 1, .aload 0, .iload 3, .bipush 1, .invokeinterface 208 3, .ishl, .goto 40] ls st m := At.eq k315_4
theorem k315_39 : pg.1 315 39 = [.bipush 0, .jsr 40] := rfl
theorem a315_39 {tb : Tab} {d : Nat} {K : Out → AM → Prop} {ls st : List AV} {m : AM} : At tb d 315 K 39 ls st m = wpB tb (pg.2.1 315) (Runs tb pg d) K (At tb d 315 K) [.bipush 0, .jsr 40] ls st m := At.eq k315_39
theorem k315_40 : pg.1 315 40 = [.ior, .istore 2, .iinc 3 1, .goto 4] := rfl
theorem a315_40 {tb : Tab} {d : Nat} {K : Out → AM → Prop} {ls st : List AV} {m : AM} : At tb d 315 K 40 ls st m = wpB tb (pg.2.1 315) (Runs tb pg d) K (At tb d 315 K) [.ior, .istore 2, .iinc 3 1, .goto 4] ls st m := At.eq k315_40
theorem k315_48 : pg.1 315 48 = [.iload 2, .ireturn] := rfl
theorem a315_48 {tb : Tab} {d : Nat} {K : Out → AM → Prop} {ls st : List AV} {m : AM} : At tb d 315 K 48 ls st m = wpB tb (pg.2.1 315) (Runs tb pg d) K (At tb d 315 K) [.iload 2, .ireturn] ls st m := At.eq k315_48
theorem q_315 {s : Int} (hB : BR S) (hD : DR S) (hK : ∀ r, isDb (dR S) s (S 301 5) r → K (.inl (some (vi r))) (X S m)) : Runs tb pg (d + 2) 315 [vr 300, vi s] (X S m) K := by
  have b5 := hB.2.2.2.1
  have hL4 : (fun i : Int => ∀ (a : Int), (isDb (dR S) s i a) → At tb (d + 1) 315 K 4 [vr 300, vi s, vi a, vi i] [] (X S m)) 0 := by
    refine loopZ (fun i : Int => ∀ (a : Int), (isDb (dR S) s i a) → At tb (d + 1) 315 K 4 [vr 300, vi s, vi a, vi i] [] (X S m)) (S 301 5) (by omega) ?_ ?_
    · intro i h0 h1 h9 a ha
      have q1 := hD i h0 h1
      rw [a315_4]
      repeat' (first | refine h9 _ ?_ | simp only [w_iconst, w_istore, w_fall, Int.reduceToNat, w_iload, w_aload, x_g1001_300, x_iald, w_ialoads, w_ialoadw, w_ifc, cI, w_call, w_if, w_ishl, w_goto, w_ior, w_iinc, lgB, Nat.reduceSub, w_ireturn, isA_301, isA_302, isA_303, isA_304, isA_305, isA_306, isA_307, isA_308, isA_309, isA_310, isA_311, isA_312, isA_313, isA_314, isA_315, len_301, len_302, len_303, len_304, len_305, len_306, len_307, len_308, len_309, len_310, len_311, len_312, len_313, len_314, len_315, Int.cast_ofNat_Int, a315_0, a315_39, a315_40, a315_48, R32, List.getElem?_cons_zero, List.getElem?_cons_succ, List.set_cons_zero, List.set_cons_succ, List.cons_append, List.nil_append, List.replicate_succ, List.replicate_zero, List.take_succ_cons, List.take_zero, List.drop_succ_cons, List.drop_zero, List.reverse_cons, List.reverse_nil, List.length_cons, List.length_nil, Option.toList, true_and, and_true, eq_self, ↓reduceIte, not_true_eq_false, not_false_eq_true] | refine q_203 (fun q9 => ?_) (fun q9 => ?_) | refine q_208 hB ?_ ?_ ?_ | with_reducible refine And.intro ?_ ?_ | with_reducible intro _)
      all_goals (try (first | omega | contradiction | ((try clear hK); (try clear hK0); (try clear hB); (try clear h9); (try clear h8); (try clear h7); first | omega | (((with_reducible refine isDb_y h0 q1.2 ha ?_) <;> first | omega | assumption | grind); done) | (((with_reducible refine isDb_n ha ?_) <;> first | omega | assumption | grind); done) | (((with_reducible refine isDb_n0 ha ?_) <;> first | omega | assumption | grind); done) | grind)))
    · intro a ha
      rw [a315_4]
      repeat' (first | refine hK _ ?_ | simp only [w_iconst, w_istore, w_fall, Int.reduceToNat, w_iload, w_aload, x_g1001_300, x_iald, w_ialoads, w_ialoadw, w_ifc, cI, w_call, w_if, w_ishl, w_goto, w_ior, w_iinc, lgB, Nat.reduceSub, w_ireturn, isA_301, isA_302, isA_303, isA_304, isA_305, isA_306, isA_307, isA_308, isA_309, isA_310, isA_311, isA_312, isA_313, isA_314, isA_315, len_301, len_302, len_303, len_304, len_305, len_306, len_307, len_308, len_309, len_310, len_311, len_312, len_313, len_314, len_315, Int.cast_ofNat_Int, a315_0, a315_39, a315_40, a315_48, R32, List.getElem?_cons_zero, List.getElem?_cons_succ, List.set_cons_zero, List.set_cons_succ, List.cons_append, List.nil_append, List.replicate_succ, List.replicate_zero, List.take_succ_cons, List.take_zero, List.drop_succ_cons, List.drop_zero, List.reverse_cons, List.reverse_nil, List.length_cons, List.length_nil, Option.toList, true_and, and_true, eq_self, ↓reduceIte, not_true_eq_false, not_false_eq_true] | refine q_203 (fun q9 => ?_) (fun q9 => ?_) | refine q_208 hB ?_ ?_ ?_ | with_reducible refine And.intro ?_ ?_ | with_reducible intro _)
      all_goals (try (first | omega | contradiction | ((try clear hK); (try clear hK0); (try clear hB); (try clear h9); (try clear h8); (try clear h7); first | omega | grind)))
  refine Runs.of (al := [vr 300, vi s]) (n := 2) ⟨300, _, _, rfl, xo_300⟩ rfl rfl trivial ?_
  repeat' (first | refine hL4 _ ?_ | simp only [w_iconst, w_istore, w_fall, Int.reduceToNat, w_iload, w_aload, x_g1001_300, x_iald, w_ialoads, w_ialoadw, w_ifc, cI, w_call, w_if, w_ishl, w_goto, w_ior, w_iinc, lgB, Nat.reduceSub, w_ireturn, isA_301, isA_302, isA_303, isA_304, isA_305, isA_306, isA_307, isA_308, isA_309, isA_310, isA_311, isA_312, isA_313, isA_314, isA_315, len_301, len_302, len_303, len_304, len_305, len_306, len_307, len_308, len_309, len_310, len_311, len_312, len_313, len_314, len_315, Int.cast_ofNat_Int, a315_0, a315_39, a315_40, a315_48, R32, List.getElem?_cons_zero, List.getElem?_cons_succ, List.set_cons_zero, List.set_cons_succ, List.cons_append, List.nil_append, List.replicate_succ, List.replicate_zero, List.take_succ_cons, List.take_zero, List.drop_succ_cons, List.drop_zero, List.reverse_cons, List.reverse_nil, List.length_cons, List.length_nil, Option.toList, true_and, and_true, eq_self, ↓reduceIte, not_true_eq_false, not_false_eq_true] | refine q_203 (fun q9 => ?_) (fun q9 => ?_) | refine q_208 hB ?_ ?_ ?_ | with_reducible refine And.intro ?_ ?_ | with_reducible intro _)
  all_goals (try (first | omega | contradiction | ((try clear hK); (try clear hK0); (try clear hB); (try clear h9); (try clear h8); (try clear h7); first | omega | exact isDb_0)))
theorem k319_0 : pg.1 319 0 = [.bipush 0, .istore 1, .bipush 0, .istore 2, .jsr 4] := rfl
theorem a319_0 {tb : Tab} {d : Nat} {K : Out → AM → Prop} {ls st : List AV} {m : AM} : At tb d 319 K 0 ls st m = wpB tb (pg.2.1 319) (Runs tb pg d) K (At tb d 319 K) [.bipush 0, .istore 1, .bipush 0, .istore 2, .jsr 4] ls st m := At.eq k319_0
theorem k319_4 : pg.1 319 4 = [.iload 2, .aload 0, .getfield 1001, .bipush 4, .iaload, .if_icmp .ge 33, .iload 1, .aload 0, .getfield 1025, .aload 0, .iload 2, .invokeinterface 213 2, .iaload, .ixor, .istore 1, .iinc 2 1, .goto 4] := rfl
theorem a319_4 {tb : Tab} {d : Nat} {K : Out → AM → Prop} {ls st : List AV} {m : AM} : At tb d 319 K 4 ls st m = wpB tb (pg.2.1 319) (Runs tb pg d) K (At tb d 319 K) [.iload 2, .aload 0, .getfield 1001, .bipush 4, .iaload, .if_icmp .ge 33, .iload 1, .aload 0, .getfield 1025, .aload 0, .iload 2, .invokeinterface 213 2, .iaload, .ixor, .istore 1, .iinc 2 1, .goto 4] ls st m := At.eq k319_4
theorem k319_33 : pg.1 319 33 = [.iload 1, .ireturn] := rfl
theorem a319_33 {tb : Tab} {d : Nat} {K : Out → AM → Prop} {ls st : List AV} {m : AM} : At tb d 319 K 33 ls st m = wpB tb (pg.2.1 319) (Runs tb pg d) K (At tb d 319 K) [.iload 1, .ireturn] ls st m := At.eq k319_33
theorem q_319 (hB : BR S) (hG : GR S) (hK : ∀ r, r = nimM (oR S) (S 301 4) → K (.inl (some (vi r))) (X S m)) : Runs tb pg (d + 4) 319 [vr 300] (X S m) K := by
  have b4 := hB.2.2.1
  have hL4 : (fun i : Int => ∀ (a : Int), a = nimM (oR S) i → At tb (d + 3) 319 K 4 [vr 300, vi a, vi i] [] (X S m)) 0 := by
    refine loopZ (fun i : Int => ∀ (a : Int), a = nimM (oR S) i → At tb (d + 3) 319 K 4 [vr 300, vi a, vi i] [] (X S m)) (S 301 4) (by omega) ?_ ?_
    · intro i h0 h1 h9 a ha
      have q1 := leftM_le (P := oR S) (p := i) (hB.2.2.2.2.1 i h0 (by omega)).1.1
      have q2 := (hB.2.2.2.2.1 i h0 (by omega)).1
      have q3 := hG (leftM (oR S) i (oR S i 0)) (by omega) (by omega)
      rw [a319_4]
      repeat' (first | refine h9 _ ?_ | simp only [w_iconst, w_istore, w_fall, Int.reduceToNat, w_iload, w_aload, x_g1001_300, x_iald, w_ialoads, w_ialoadw, w_ifc, cI, x_g1025_300, w_call, w_ixor, w_iinc, lgB, Nat.reduceSub, w_goto, w_ireturn, isA_301, isA_302, isA_303, isA_304, isA_305, isA_306, isA_307, isA_308, isA_309, isA_310, isA_311, isA_312, isA_313, isA_314, isA_315, len_301, len_302, len_303, len_304, len_305, len_306, len_307, len_308, len_309, len_310, len_311, len_312, len_313, len_314, len_315, Int.cast_ofNat_Int, a319_0, a319_33, R32, List.getElem?_cons_zero, List.getElem?_cons_succ, List.set_cons_zero, List.set_cons_succ, List.cons_append, List.nil_append, List.replicate_succ, List.replicate_zero, List.take_succ_cons, List.take_zero, List.drop_succ_cons, List.drop_zero, List.reverse_cons, List.reverse_nil, List.length_cons, List.length_nil, Option.toList, true_and, and_true, eq_self, ↓reduceIte, not_true_eq_false, not_false_eq_true] | refine q_213 hB ?_ ?_ | with_reducible refine And.intro ?_ ?_ | with_reducible intro _)
      all_goals (try (first | omega | contradiction | ((try clear hK); (try clear hK0); (try clear hB); (try clear h9); (try clear h8); (try clear h7); first | omega | grind [nimM, xorZ_s, worthZ])))
    · intro a ha
      rw [a319_4]
      repeat' (first | refine hK _ ?_ | simp only [w_iconst, w_istore, w_fall, Int.reduceToNat, w_iload, w_aload, x_g1001_300, x_iald, w_ialoads, w_ialoadw, w_ifc, cI, x_g1025_300, w_call, w_ixor, w_iinc, lgB, Nat.reduceSub, w_goto, w_ireturn, isA_301, isA_302, isA_303, isA_304, isA_305, isA_306, isA_307, isA_308, isA_309, isA_310, isA_311, isA_312, isA_313, isA_314, isA_315, len_301, len_302, len_303, len_304, len_305, len_306, len_307, len_308, len_309, len_310, len_311, len_312, len_313, len_314, len_315, Int.cast_ofNat_Int, a319_0, a319_33, R32, List.getElem?_cons_zero, List.getElem?_cons_succ, List.set_cons_zero, List.set_cons_succ, List.cons_append, List.nil_append, List.replicate_succ, List.replicate_zero, List.take_succ_cons, List.take_zero, List.drop_succ_cons, List.drop_zero, List.reverse_cons, List.reverse_nil, List.length_cons, List.length_nil, Option.toList, true_and, and_true, eq_self, ↓reduceIte, not_true_eq_false, not_false_eq_true] | refine q_213 hB ?_ ?_ | with_reducible refine And.intro ?_ ?_ | with_reducible intro _)
      all_goals (try (first | omega | contradiction | ((try clear hK); (try clear hK0); (try clear hB); (try clear h9); (try clear h8); (try clear h7); first | omega | grind)))
  refine Runs.of (al := [vr 300]) (n := 2) ⟨300, _, _, rfl, xo_300⟩ rfl rfl trivial ?_
  repeat' (first | refine hL4 _ ?_ | simp only [w_iconst, w_istore, w_fall, Int.reduceToNat, w_iload, w_aload, x_g1001_300, x_iald, w_ialoads, w_ialoadw, w_ifc, cI, x_g1025_300, w_call, w_ixor, w_iinc, lgB, Nat.reduceSub, w_goto, w_ireturn, isA_301, isA_302, isA_303, isA_304, isA_305, isA_306, isA_307, isA_308, isA_309, isA_310, isA_311, isA_312, isA_313, isA_314, isA_315, len_301, len_302, len_303, len_304, len_305, len_306, len_307, len_308, len_309, len_310, len_311, len_312, len_313, len_314, len_315, Int.cast_ofNat_Int, a319_0, a319_33, R32, List.getElem?_cons_zero, List.getElem?_cons_succ, List.set_cons_zero, List.set_cons_succ, List.cons_append, List.nil_append, List.replicate_succ, List.replicate_zero, List.take_succ_cons, List.take_zero, List.drop_succ_cons, List.drop_zero, List.reverse_cons, List.reverse_nil, List.length_cons, List.length_nil, Option.toList, true_and, and_true, eq_self, ↓reduceIte, not_true_eq_false, not_false_eq_true] | refine q_213 hB ?_ ?_ | with_reducible refine And.intro ?_ ?_ | with_reducible intro _)
  all_goals (try (first | omega | contradiction | ((try clear hK); (try clear hK0); (try clear hB); (try clear h9); (try clear h8); (try clear h7); first | omega | rfl)))
theorem k322_0 : pg.1 322 0 = [.bipush 0, .istore 1, .jsr 2] := rfl
theorem a322_0 {tb : Tab} {d : Nat} {K : Out → AM → Prop} {ls st : List AV} {m : AM} : At tb d 322 K 0 ls st m = wpB tb (pg.2.1 322) (Runs tb pg d) K (At tb d 322 K) [.bipush 0, .istore 1, .jsr 2] ls st m := At.eq k322_0
theorem k322_2 : pg.1 322 2 = [.iload 0, .iload 1, .invokeinterface 203 2, .ifCond .ne 16, .iinc 1 1, .goto 2] := rfl
theorem a322_2 {tb : Tab} {d : Nat} {K : Out → AM → Prop} {ls st : List AV} {m : AM} : At tb d 322 K 2 ls st m = wpB tb (pg.2.1 322) (Runs tb pg d) K (At tb d 322 K) [.iload 0, .iload 1, .invokeinterface 203 2, .ifCond .ne 16, .iinc 1 1, .goto 2] ls st m := At.eq k322_2
theorem k322_16 : pg.1 322 16 = [.iload 1, .ireturn] := rfl
theorem a322_16 {tb : Tab} {d : Nat} {K : Out → AM → Prop} {ls st : List AV} {m : AM} : At tb d 322 K 16 ls st m = wpB tb (pg.2.1 322) (Runs tb pg d) K (At tb d 322 K) [.iload 1, .ireturn] ls st m := At.eq k322_16
theorem q_322 {s : Int} (hs : ∃ j, 0 ≤ j ∧ j < 8 ∧ bitB s j) (hK : ∀ r, 0 ≤ r → r < 8 → bitB s r → (∀ j, 0 ≤ j → j < r → ¬ bitB s j) → K (.inl (some (vi r))) m) : Runs tb pg (d + 2) 322 [vi s] m K := by
  have hL2 : (fun i : Int => (∀ j, 0 ≤ j → j < i → ¬ bitB s j) → At tb (d + 1) 322 K 2 [vi s, vi i] [] m) 0 := by
    refine loopZ (fun i : Int => (∀ j, 0 ≤ j → j < i → ¬ bitB s j) → At tb (d + 1) 322 K 2 [vi s, vi i] [] m) (8) (by omega) ?_ ?_
    · intro i h0 h1 h9  hc
      rw [a322_2]
      repeat' (first | refine h9  ?_ | refine hK _ ?_ ?_ ?_ ?_ | simp only [w_iconst, w_istore, w_fall, Int.reduceToNat, w_iload, w_call, w_if, cI, w_iinc, lgB, Nat.reduceSub, w_goto, w_ireturn, a322_0, a322_16, R32, List.getElem?_cons_zero, List.getElem?_cons_succ, List.set_cons_zero, List.set_cons_succ, List.cons_append, List.nil_append, List.replicate_succ, List.replicate_zero, List.take_succ_cons, List.take_zero, List.drop_succ_cons, List.drop_zero, List.reverse_cons, List.reverse_nil, List.length_cons, List.length_nil, Option.toList, true_and, and_true, eq_self, ↓reduceIte, not_true_eq_false, not_false_eq_true] | refine q_203 (fun q9 => ?_) (fun q9 => ?_) | with_reducible refine And.intro ?_ ?_ | with_reducible intro _)
      all_goals (try (first | omega | contradiction | ((try clear hK); (try clear hK0); (try clear hB); (try clear h9); (try clear h8); (try clear h7); first | omega | assumption | grind)))
    · intro  hc
      rw [a322_2]
      repeat' (first | simp only [w_iconst, w_istore, w_fall, Int.reduceToNat, w_iload, w_call, w_if, cI, w_iinc, lgB, Nat.reduceSub, w_goto, w_ireturn, a322_0, a322_16, R32, List.getElem?_cons_zero, List.getElem?_cons_succ, List.set_cons_zero, List.set_cons_succ, List.cons_append, List.nil_append, List.replicate_succ, List.replicate_zero, List.take_succ_cons, List.take_zero, List.drop_succ_cons, List.drop_zero, List.reverse_cons, List.reverse_nil, List.length_cons, List.length_nil, Option.toList, true_and, and_true, eq_self, ↓reduceIte, not_true_eq_false, not_false_eq_true] | refine q_203 (fun q9 => ?_) (fun q9 => ?_) | with_reducible refine And.intro ?_ ?_ | with_reducible intro _)
      all_goals (try (first | omega | contradiction | ((try clear hK); (try clear hK0); (try clear hB); (try clear h9); (try clear h8); (try clear h7); first | omega | grind)))
  refine Runs.of (al := [vi s]) (n := 1) trivial rfl rfl trivial ?_
  repeat' (first | refine hL2 ?_ | simp only [w_iconst, w_istore, w_fall, Int.reduceToNat, w_iload, w_call, w_if, cI, w_iinc, lgB, Nat.reduceSub, w_goto, w_ireturn, a322_0, a322_16, R32, List.getElem?_cons_zero, List.getElem?_cons_succ, List.set_cons_zero, List.set_cons_succ, List.cons_append, List.nil_append, List.replicate_succ, List.replicate_zero, List.take_succ_cons, List.take_zero, List.drop_succ_cons, List.drop_zero, List.reverse_cons, List.reverse_nil, List.length_cons, List.length_nil, Option.toList, true_and, and_true, eq_self, ↓reduceIte, not_true_eq_false, not_false_eq_true] | refine q_203 (fun q9 => ?_) (fun q9 => ?_) | with_reducible refine And.intro ?_ ?_ | with_reducible intro _)
  all_goals (try (first | omega | contradiction | ((try clear hK); (try clear hK0); (try clear hB); (try clear h9); (try clear h8); (try clear h7); first | omega | grind)))
theorem k323_0 : pg.1 323 0 = [.bipush 0, .istore 2, .bipush 0, .istore 3, .jsr 4] := rfl
theorem a323_0 {tb : Tab} {d : Nat} {K : Out → AM → Prop} {ls st : List AV} {m : AM} : At tb d 323 K 0 ls st m = wpB tb (pg.2.1 323) (Runs tb pg d) K (At tb d 323 K) [.bipush 0, .istore 2, .bipush 0, .istore 3, .jsr 4] ls st m := At.eq k323_0
theorem k323_4 : pg.1 323 4 = [.iload 3, .aload 0, .iload 1, .bipush 0, .invokeinterface 206 3, .if_icmp .ge 33, .iload 2, .bipush 1, .aload 0, .iload 1, .bipush 2, .iload 3, .iadd, .invokeinterface 206 3, .ishl, .ior, .istore 2, .iinc 3 1, .goto 4] := rfl
theorem a323_4 {tb : Tab} {d : Nat} {K : Out → AM → Prop} {ls st : List AV} {m : AM} : At tb d 323 K 4 ls st m = wpB tb (pg.2.1 323) (Runs tb pg d) K (At tb d 323 K) [.iload 3, .aload 0, .iload 1, .bipush 0, .invokeinterface 206 3, .if_icmp .ge 33, .iload 2, .bipush 1, .aload 0, .iload 1, .bipush 2, .iload 3, .iadd, .invokeinterface 206 3, .ishl, .ior, .istore 2, .iinc 3 1, .goto 4] ls st m := At.eq k323_4
theorem k323_33 : pg.1 323 33 = [.iload 2, .ireturn] := rfl
theorem a323_33 {tb : Tab} {d : Nat} {K : Out → AM → Prop} {ls st : List AV} {m : AM} : At tb d 323 K 33 ls st m = wpB tb (pg.2.1 323) (Runs tb pg d) K (At tb d 323 K) [.iload 2, .ireturn] ls st m := At.eq k323_33
theorem q_323 {p : Int} (hB : BR S) (hp : 0 ≤ p ∧ p < 6) (hK : ∀ r, r = kindsM (oR S) p (oR S p 0) → K (.inl (some (vi r))) (X S m)) : Runs tb pg (d + 2) 323 [vr 300, vi p] (X S m) K := by
  have b4 := (hB.2.2.2.2.1 p hp.1 hp.2).1
  have hL4 : (fun i : Int => ∀ (a : Int), a = kindsM (oR S) p i → At tb (d + 1) 323 K 4 [vr 300, vi p, vi a, vi i] [] (X S m)) 0 := by
    refine loopZ (fun i : Int => ∀ (a : Int), a = kindsM (oR S) p i → At tb (d + 1) 323 K 4 [vr 300, vi p, vi a, vi i] [] (X S m)) (oR S p 0) (by omega) ?_ ?_
    · intro i h0 h1 h9 a ha
      rw [a323_4]
      repeat' (first | refine h9 _ ?_ | simp only [w_iconst, w_istore, w_fall, Int.reduceToNat, w_iload, w_aload, w_call, w_ifc, cI, w_iadd, w_ishl, w_ior, w_iinc, lgB, Nat.reduceSub, w_goto, w_ireturn, a323_0, a323_33, R32, List.getElem?_cons_zero, List.getElem?_cons_succ, List.set_cons_zero, List.set_cons_succ, List.cons_append, List.nil_append, List.replicate_succ, List.replicate_zero, List.take_succ_cons, List.take_zero, List.drop_succ_cons, List.drop_zero, List.reverse_cons, List.reverse_nil, List.length_cons, List.length_nil, Option.toList, true_and, and_true, eq_self, ↓reduceIte, not_true_eq_false, not_false_eq_true] | refine q_206 hB ?_ ?_ ?_ | with_reducible refine And.intro ?_ ?_ | with_reducible intro _)
      all_goals (try (first | omega | contradiction | ((try clear hK); (try clear hK0); (try clear hB); (try clear h9); (try clear h8); (try clear h7); first | omega | grind [kindsM, orZ_s])))
    · intro a ha
      rw [a323_4]
      repeat' (first | refine hK _ ?_ | simp only [w_iconst, w_istore, w_fall, Int.reduceToNat, w_iload, w_aload, w_call, w_ifc, cI, w_iadd, w_ishl, w_ior, w_iinc, lgB, Nat.reduceSub, w_goto, w_ireturn, a323_0, a323_33, R32, List.getElem?_cons_zero, List.getElem?_cons_succ, List.set_cons_zero, List.set_cons_succ, List.cons_append, List.nil_append, List.replicate_succ, List.replicate_zero, List.take_succ_cons, List.take_zero, List.drop_succ_cons, List.drop_zero, List.reverse_cons, List.reverse_nil, List.length_cons, List.length_nil, Option.toList, true_and, and_true, eq_self, ↓reduceIte, not_true_eq_false, not_false_eq_true] | refine q_206 hB ?_ ?_ ?_ | with_reducible refine And.intro ?_ ?_ | with_reducible intro _)
      all_goals (try (first | omega | contradiction | ((try clear hK); (try clear hK0); (try clear hB); (try clear h9); (try clear h8); (try clear h7); first | omega | grind)))
  refine Runs.of (al := [vr 300, vi p]) (n := 2) ⟨300, _, _, rfl, xo_300⟩ rfl rfl trivial ?_
  repeat' (first | refine hL4 _ ?_ | simp only [w_iconst, w_istore, w_fall, Int.reduceToNat, w_iload, w_aload, w_call, w_ifc, cI, w_iadd, w_ishl, w_ior, w_iinc, lgB, Nat.reduceSub, w_goto, w_ireturn, a323_0, a323_33, R32, List.getElem?_cons_zero, List.getElem?_cons_succ, List.set_cons_zero, List.set_cons_succ, List.cons_append, List.nil_append, List.replicate_succ, List.replicate_zero, List.take_succ_cons, List.take_zero, List.drop_succ_cons, List.drop_zero, List.reverse_cons, List.reverse_nil, List.length_cons, List.length_nil, Option.toList, true_and, and_true, eq_self, ↓reduceIte, not_true_eq_false, not_false_eq_true] | refine q_206 hB ?_ ?_ ?_ | with_reducible refine And.intro ?_ ?_ | with_reducible intro _)
  all_goals (try (first | omega | contradiction | ((try clear hK); (try clear hK0); (try clear hB); (try clear h9); (try clear h8); (try clear h7); first | omega | rfl)))
def comM (P : Int → Int → Int) (p o : Int) : Int := bitsM (andI (kindsM P p (P p 0)) (kindsM P o (P o 0))) 31
theorem k324_0 : pg.1 324 0 = [.aload 0, .iload 1, .invokeinterface 323 2, .aload 0, .iload 2, .invokeinterface 323 2, .iand, .invokeinterface 204 1, .ireturn] := rfl
theorem a324_0 {tb : Tab} {d : Nat} {K : Out → AM → Prop} {ls st : List AV} {m : AM} : At tb d 324 K 0 ls st m = wpB tb (pg.2.1 324) (Runs tb pg d) K (At tb d 324 K) [.aload 0, .iload 1, .invokeinterface 323 2, .aload 0, .iload 2, .invokeinterface 323 2, .iand, .invokeinterface 204 1, .ireturn] ls st m := At.eq k324_0
theorem q_324 {p o : Int} (hB : BR S) (hp : 0 ≤ p ∧ p < 6) (ho : 0 ≤ o ∧ o < 6) (hK : ∀ r, r = comM (oR S) p o → 0 ≤ r → r ≤ 31 → K (.inl (some (vi r))) (X S m)) : Runs tb pg (d + 3) 324 [vr 300, vi p, vi o] (X S m) K := by
  refine Runs.of (al := [vr 300, vi p, vi o]) (n := 0) ⟨300, _, _, rfl, xo_300⟩ rfl rfl trivial ?_
  have u := bits_le (andI (kindsM (oR S) p (oR S p 0)) (kindsM (oR S) o (oR S o 0)))
  repeat' (first | refine hK _ ?_ ?_ ?_ | simp only [w_aload, w_iload, w_call, w_iand, w_ireturn, a324_0, R32, List.getElem?_cons_zero, List.getElem?_cons_succ, List.set_cons_zero, List.set_cons_succ, List.cons_append, List.nil_append, List.replicate_succ, List.replicate_zero, List.take_succ_cons, List.take_zero, List.drop_succ_cons, List.drop_zero, List.reverse_cons, List.reverse_nil, List.length_cons, List.length_nil, Option.toList, true_and, and_true, eq_self, ↓reduceIte, not_true_eq_false, not_false_eq_true] | refine q_204 ?_ | refine q_323 hB ?_ (fun _ _ => ?_) | with_reducible refine And.intro ?_ ?_ | with_reducible intro _)
  all_goals (try (first | omega | contradiction | ((try clear hK); (try clear hK0); (try clear hB); (try clear h9); (try clear h8); (try clear h7); first | omega | grind [comM])))
theorem k329_0 : pg.1 329 0 = [.iload 2, .ifCond .ne 14, .iload 3, .ifCond .ne 12, .bipush 2, .goto 13] := rfl
theorem a329_0 {tb : Tab} {d : Nat} {K : Out → AM → Prop} {ls st : List AV} {m : AM} : At tb d 329 K 0 ls st m = wpB tb (pg.2.1 329) (Runs tb pg d) K (At tb d 329 K) [.iload 2, .ifCond .ne 14, .iload 3, .ifCond .ne 12, .bipush 2, .goto 13] ls st m := At.eq k329_0
theorem k329_12 : pg.1 329 12 = [.bipush 1, .jsr 13] := rfl
theorem a329_12 {tb : Tab} {d : Nat} {K : Out → AM → Prop} {ls st : List AV} {m : AM} : At tb d 329 K 12 ls st m = wpB tb (pg.2.1 329) (Runs tb pg d) K (At tb d 329 K) [.bipush 1, .jsr 13] ls st m := At.eq k329_12
theorem k329_13 : pg.1 329 13 = [.ireturn] := rfl
theorem a329_13 {tb : Tab} {d : Nat} {K : Out → AM → Prop} {ls st : List AV} {m : AM} : At tb d 329 K 13 ls st m = wpB tb (pg.2.1 329) (Runs tb pg d) K (At tb d 329 K) [.ireturn] ls st m := At.eq k329_13
theorem k329_14 : pg.1 329 14 = [.iload 3, .ifCond .ne 28, .aload 0, .iload 1, .bipush 0, .invokeinterface 205 3, .ineg, .goto 29] := rfl
theorem a329_14 {tb : Tab} {d : Nat} {K : Out → AM → Prop} {ls st : List AV} {m : AM} : At tb d 329 K 14 ls st m = wpB tb (pg.2.1 329) (Runs tb pg d) K (At tb d 329 K) [.iload 3, .ifCond .ne 28, .aload 0, .iload 1, .bipush 0, .invokeinterface 205 3, .ineg, .goto 29] ls st m := At.eq k329_14
theorem k329_28 : pg.1 329 28 = [.bipush 0, .jsr 29] := rfl
theorem a329_28 {tb : Tab} {d : Nat} {K : Out → AM → Prop} {ls st : List AV} {m : AM} : At tb d 329 K 28 ls st m = wpB tb (pg.2.1 329) (Runs tb pg d) K (At tb d 329 K) [.bipush 0, .jsr 29] ls st m := At.eq k329_28
theorem k329_29 : pg.1 329 29 = [.ireturn] := rfl
theorem a329_29 {tb : Tab} {d : Nat} {K : Out → AM → Prop} {ls st : List AV} {m : AM} : At tb d 329 K 29 ls st m = wpB tb (pg.2.1 329) (Runs tb pg d) K (At tb d 329 K) [.ireturn] ls st m := At.eq k329_29
theorem q_329 {f a b : Int} (hB : BR S) (hf : 0 ≤ f ∧ f < 6) (ha : R32 a) (hb : R32 b) (hK : ∀ r, r = (if a = 0 then (if b = 0 then 2 else 1) else (if b = 0 then - fR S f 0 else 0)) → -10000 ≤ r → r ≤ 10000 → K (.inl (some (vi r))) (X S m)) : Runs tb pg (d + 2) 329 [vr 300, vi f, vi a, vi b] (X S m) K := by
  refine Runs.of (al := [vr 300, vi f, vi a, vi b]) (n := 0) ⟨300, _, _, rfl, xo_300⟩ rfl rfl trivial ?_
  unfold R32 at ha hb
  repeat' (first | refine hK _ ?_ ?_ ?_ | simp only [w_iload, w_if, cI, Int.reduceToNat, w_iconst, w_goto, w_fall, w_ireturn, w_aload, w_call, w_ineg, a329_0, a329_12, a329_13, a329_14, a329_28, a329_29, R32, List.getElem?_cons_zero, List.getElem?_cons_succ, List.set_cons_zero, List.set_cons_succ, List.cons_append, List.nil_append, List.replicate_succ, List.replicate_zero, List.take_succ_cons, List.take_zero, List.drop_succ_cons, List.drop_zero, List.reverse_cons, List.reverse_nil, List.length_cons, List.length_nil, Option.toList, true_and, and_true, eq_self, ↓reduceIte, not_true_eq_false, not_false_eq_true] | refine q_205 hB ?_ ?_ ?_ | with_reducible refine And.intro ?_ ?_ | with_reducible intro _)
  all_goals (try (first | omega | contradiction | ((try clear hK); (try clear hK0); (try clear hB); (try clear h9); (try clear h8); (try clear h7); first | omega | grind)))
def valM (S : Nat → Int → Int) (w k : Int) : Int := if w = 0 then fR S k 2 - usedM (oR S) (S 301 4) k else if w = 1 then fR S k 1 else oR S k 0
theorem used_bd {S : Nat → Int → Int} {f : Int} (hB : BR S) : 0 ≤ usedM (oR S) (S 301 4) f ∧ usedM (oR S) (S 301 4) f ≤ 36 := by
  have b4 := hB.2.2.1
  have := sumZ_le (f := fun p => if oR S p 1 = f then oR S p 0 else 0) (n := S 301 4) (a := 0) (b := 6) b4.1 (fun i i0 i1 => by have := hB.2.2.2.2.1 i i0 (by omega); split <;> omega)
  unfold usedM
  omega
theorem k332_0 : pg.1 332 0 = [.iload 1, .ifCond .ne 19, .aload 0, .iload 2, .bipush 2, .invokeinterface 205 3, .aload 0, .iload 2, .invokeinterface 212 2, .isub, .goto 39] := rfl
theorem a332_0 {tb : Tab} {d : Nat} {K : Out → AM → Prop} {ls st : List AV} {m : AM} : At tb d 332 K 0 ls st m = wpB tb (pg.2.1 332) (Runs tb pg d) K (At tb d 332 K) [.iload 1, .ifCond .ne 19, .aload 0, .iload 2, .bipush 2, .invokeinterface 205 3, .aload 0, .iload 2, .invokeinterface 212 2, .isub, .goto 39] ls st m := At.eq k332_0
theorem k332_19 : pg.1 332 19 = [.iload 1, .bipush 1, .if_icmp .ne 33, .aload 0, .iload 2, .bipush 1, .invokeinterface 205 3, .goto 39] := rfl
theorem a332_19 {tb : Tab} {d : Nat} {K : Out → AM → Prop} {ls st : List AV} {m : AM} : At tb d 332 K 19 ls st m = wpB tb (pg.2.1 332) (Runs tb pg d) K (At tb d 332 K) [.iload 1, .bipush 1, .if_icmp .ne 33, .aload 0, .iload 2, .bipush 1, .invokeinterface 205 3, .goto 39] ls st m := At.eq k332_19
theorem k332_33 : pg.1 332 33 = [.aload 0, .iload 2, .bipush 0, .invokeinterface 206 3, .jsr 39] := rfl
theorem a332_33 {tb : Tab} {d : Nat} {K : Out → AM → Prop} {ls st : List AV} {m : AM} : At tb d 332 K 33 ls st m = wpB tb (pg.2.1 332) (Runs tb pg d) K (At tb d 332 K) [.aload 0, .iload 2, .bipush 0, .invokeinterface 206 3, .jsr 39] ls st m := At.eq k332_33
theorem k332_39 : pg.1 332 39 = [.ireturn] := rfl
theorem a332_39 {tb : Tab} {d : Nat} {K : Out → AM → Prop} {ls st : List AV} {m : AM} : At tb d 332 K 39 ls st m = wpB tb (pg.2.1 332) (Runs tb pg d) K (At tb d 332 K) [.ireturn] ls st m := At.eq k332_39
theorem q_332 {w k : Int} (hB : BR S) (hw : R32 w) (hk : 0 ≤ k ∧ k < 6) (hK : ∀ r, r = valM S w k → -20000 ≤ r → r ≤ 20000 → K (.inl (some (vi r))) (X S m)) : Runs tb pg (d + 3) 332 [vr 300, vi w, vi k] (X S m) K := by
  refine Runs.of (al := [vr 300, vi w, vi k]) (n := 0) ⟨300, _, _, rfl, xo_300⟩ rfl rfl trivial ?_
  unfold R32 at hw
  have u := used_bd (f := k) hB
  repeat' (first | refine hK _ ?_ ?_ ?_ | simp only [w_iload, w_if, cI, Int.reduceToNat, w_aload, w_iconst, w_call, w_isub, w_goto, w_ifc, w_fall, w_ireturn, a332_0, a332_19, a332_33, a332_39, R32, List.getElem?_cons_zero, List.getElem?_cons_succ, List.set_cons_zero, List.set_cons_succ, List.cons_append, List.nil_append, List.replicate_succ, List.replicate_zero, List.take_succ_cons, List.take_zero, List.drop_succ_cons, List.drop_zero, List.reverse_cons, List.reverse_nil, List.length_cons, List.length_nil, Option.toList, true_and, and_true, eq_self, ↓reduceIte, not_true_eq_false, not_false_eq_true] | refine q_205 hB ?_ ?_ ?_ | refine q_206 hB ?_ ?_ ?_ | refine q_212 hB ?_ ?_ | with_reducible refine And.intro ?_ ?_ | with_reducible intro _)
  all_goals (try (first | omega | contradiction | ((try clear hK); (try clear hK0); (try clear hB); (try clear h9); (try clear h8); (try clear h7); first | omega | grind [valM])))
def lgR (S : Nat → Int → Int) (k w : Int) : Int := S 301 (175 + 4 * k + w)
theorem k340_0 : pg.1 340 0 = [.aload 0, .getfield 1001, .bipush 175, .bipush 4, .iload 1, .imul, .iadd, .iload 2, .iadd, .iaload, .ireturn] := rfl
theorem a340_0 {tb : Tab} {d : Nat} {K : Out → AM → Prop} {ls st : List AV} {m : AM} : At tb d 340 K 0 ls st m = wpB tb (pg.2.1 340) (Runs tb pg d) K (At tb d 340 K) [.aload 0, .getfield 1001, .bipush 175, .bipush 4, .iload 1, .imul, .iadd, .iload 2, .iadd, .iaload, .ireturn] ls st m := At.eq k340_0
theorem q_340 {k w : Int} (hB : BR S) (hk : 0 ≤ k ∧ k < 60) (hw : 0 ≤ w ∧ w < 4) (hK : -1 ≤ lgR S k w → lgR S k w ≤ 10000 → K (.inl (some (vi (lgR S k w)))) (X S m)) : Runs tb pg (d + 1) 340 [vr 300, vi k, vi w] (X S m) K := by
  refine Runs.of (al := [vr 300, vi k, vi w]) (n := 0) ⟨300, _, _, rfl, xo_300⟩ rfl rfl trivial ?_
  have q := hB.1 (175 + 4 * k + w) (by omega)
  repeat' (first | refine hK q.1 q.2 | simp only [w_aload, x_g1001_300, w_iconst, w_iload, w_imul, w_iadd, x_iald, w_ialoads, w_ialoadw, w_ireturn, isA_301, isA_302, isA_303, isA_304, isA_305, isA_306, isA_307, isA_308, isA_309, isA_310, isA_311, isA_312, isA_313, isA_314, isA_315, len_301, len_302, len_303, len_304, len_305, len_306, len_307, len_308, len_309, len_310, len_311, len_312, len_313, len_314, len_315, Int.cast_ofNat_Int, a340_0, R32, List.getElem?_cons_zero, List.getElem?_cons_succ, List.set_cons_zero, List.set_cons_succ, List.cons_append, List.nil_append, List.replicate_succ, List.replicate_zero, List.take_succ_cons, List.take_zero, List.drop_succ_cons, List.drop_zero, List.reverse_cons, List.reverse_nil, List.length_cons, List.length_nil, Option.toList, true_and, and_true, eq_self, ↓reduceIte, not_true_eq_false, not_false_eq_true] | with_reducible refine And.intro ?_ ?_ | with_reducible intro _)
  all_goals (try (first | omega | contradiction | ((try clear hK); (try clear hK0); (try clear hB); (try clear h9); (try clear h8); (try clear h7); first | omega | grind)))
end Ref4
