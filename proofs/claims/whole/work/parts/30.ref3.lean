/-! ===== THE REFERENCE, readers of names and debts ===== -/
/-- of a set, how many have the letter v at a place -/
def cntBy (P : Int → Int → Int) (n s k v : Int) : Int := sumZ n fun p => if bitB s p ∧ P p (2 + k) = v then 1 else 0
theorem cntBy_le {P : Int → Int → Int} {n s k v : Int} (h : 0 ≤ n) : 0 ≤ cntBy P n s k v ∧ cntBy P n s k v ≤ n := by
  have := sumZ_le (f := fun p => if bitB s p ∧ P p (2 + k) = v then 1 else 0) (n := n) (a := 0) (b := 1) h (fun i _ _ => by split <;> omega)
  unfold cntBy
  omega
def unlM (P : Int → Int → Int) (s p o n : Int) : Prop := ∃ k, 0 ≤ k ∧ k < n ∧ bitB s k ∧ P p (2 + k) ≠ P o (2 + k)
theorem unlM_s {P : Int → Int → Int} {s p o n : Int} (h : 0 ≤ n) : unlM P s p o (n + 1) ↔ unlM P s p o n ∨ (bitB s n ∧ P p (2 + n) ≠ P o (2 + n)) := by
  constructor
  · rintro ⟨k, k0, k1, k2⟩
    by_cases e : k = n
    · subst e; exact Or.inr k2
    · exact Or.inl ⟨k, k0, by omega, k2⟩
  · rintro (⟨k, k0, k1, k2⟩ | z)
    · exact ⟨k, k0, by omega, k2⟩
    · exact ⟨n, h, by omega, z⟩
theorem unlM_0 {P : Int → Int → Int} {s p o : Int} : ¬ unlM P s p o 0 := by rintro ⟨k, k0, k1, k2⟩; omega
def tellsM (P : Int → Int → Int) (n s : Int) : Prop := ∀ p o, 0 ≤ o → o < p → p < n → unlM P s p o 6
def tell2 (P : Int → Int → Int) (p s j : Int) : Prop := tellsM P p s ∧ ∀ o, 0 ≤ o → o < j → unlM P s p o 6
theorem tellsM_s {P : Int → Int → Int} {n s : Int} : tellsM P (n + 1) s ↔ tell2 P n s n := by
  constructor
  · intro z
    exact ⟨fun p o h1 h2 h3 => z p o h1 h2 (by omega), fun o h1 h2 => z n o h1 h2 (by omega)⟩
  · intro z p o h1 h2 h3
    by_cases e : p = n
    · subst e; exact z.2 o h1 h2
    · exact z.1 p o h1 h2 (by omega)
theorem tell2_s {P : Int → Int → Int} {p s j : Int} (h : 0 ≤ j) : tell2 P p s (j + 1) ↔ tell2 P p s j ∧ unlM P s p j 6 := by
  constructor
  · intro z
    exact ⟨⟨z.1, fun o h1 h2 => z.2 o h1 (by omega)⟩, z.2 j h (by omega)⟩
  · intro z
    refine ⟨z.1.1, fun o h1 h2 => ?_⟩
    by_cases e : o = j
    · subst e; exact z.2
    · exact z.1.2 o h1 (by omega)
theorem tell2_0 {P : Int → Int → Int} {p s : Int} : tell2 P p s 0 ↔ tellsM P p s := ⟨fun z => z.1, fun z => ⟨z, fun o h1 h2 => by omega⟩⟩
theorem tellsM_0 {P : Int → Int → Int} {s : Int} : tellsM P 0 s := fun p o h1 h2 h3 => by omega
def difM (P : Int → Int → Int) (p o n : Int) : Int := sumZ n fun k => if P p (2 + k) = P o (2 + k) then 0 else 1
def nxM (a b : Int) : Prop := (a + 1) % 8 = b ∨ (b + 1) % 8 = a
def allNx (P : Int → Int → Int) (p o n : Int) : Prop := ∀ k, 0 ≤ k → k < n → P p (2 + k) ≠ P o (2 + k) → nxM (P p (2 + k)) (P o (2 + k))
theorem allNx_s {P : Int → Int → Int} {p o n : Int} (h : 0 ≤ n) : allNx P p o (n + 1) ↔ allNx P p o n ∧ (P p (2 + n) ≠ P o (2 + n) → nxM (P p (2 + n)) (P o (2 + n))) := by
  constructor
  · intro z
    exact ⟨fun k h1 h2 => z k h1 (by omega), z n h (by omega)⟩
  · intro z k h1 h2
    by_cases e : k = n
    · subst e; exact z.2
    · exact z.1 k h1 (by omega)
theorem allNx_0 {P : Int → Int → Int} {p o : Int} : allNx P p o 0 := fun k h1 h2 => by omega
/-- the name of o is a run of the name of p, from a letter on -/
def runM (P : Int → Int → Int) (p o f n : Int) : Prop := f + P o 0 ≤ P p 0 ∧ ∀ k, 0 ≤ k → k < n → P p (2 + f + k) = P o (2 + k)
theorem runM_s {P : Int → Int → Int} {p o f n : Int} (h : 0 ≤ n) : runM P p o f (n + 1) ↔ runM P p o f n ∧ P p (2 + f + n) = P o (2 + n) := by
  constructor
  · intro z
    exact ⟨⟨z.1, fun k h1 h2 => z.2 k h1 (by omega)⟩, z.2 n h (by omega)⟩
  · intro z
    refine ⟨z.1.1, fun k h1 h2 => ?_⟩
    by_cases e : k = n
    · subst e; exact z.2
    · exact z.1.2 k h1 (by omega)
theorem runM_0 {P : Int → Int → Int} {p o f : Int} : runM P p o f 0 ↔ f + P o 0 ≤ P p 0 := ⟨fun z => z.1, fun z => ⟨z, fun k h1 h2 => by omega⟩⟩
theorem runM_le {P : Int → Int → Int} {p o f i n : Int} (h : i ≤ n) (z : runM P p o f n) : runM P p o f i := ⟨z.1, fun k h1 h2 => z.2 k h1 (by omega)⟩
def holdsM (P : Int → Int → Int) (p o n : Int) : Prop := ∃ f, 0 ≤ f ∧ f < n ∧ runM P p o f (P o 0)
theorem holdsM_s {P : Int → Int → Int} {p o n : Int} (h : 0 ≤ n) : holdsM P p o (n + 1) ↔ holdsM P p o n ∨ runM P p o n (P o 0) := by
  constructor
  · rintro ⟨k, k0, k1, k2⟩
    by_cases e : k = n
    · subst e; exact Or.inr k2
    · exact Or.inl ⟨k, k0, by omega, k2⟩
  · rintro (⟨k, k0, k1, k2⟩ | z)
    · exact ⟨k, k0, by omega, k2⟩
    · exact ⟨n, h, by omega, z⟩
theorem holdsM_0 {P : Int → Int → Int} {p o : Int} : ¬ holdsM P p o 0 := by rintro ⟨k, k0, k1, k2⟩; omega
/-- the last n letters of p are the first of o -/
def ovM (P : Int → Int → Int) (p o n j : Int) : Prop := ∀ k, 0 ≤ k → k < j → P p (2 + P p 0 - n + k) = P o (2 + k)
theorem ovM_s {P : Int → Int → Int} {p o n j : Int} (h : 0 ≤ j) : ovM P p o n (j + 1) ↔ ovM P p o n j ∧ P p (2 + P p 0 - n + j) = P o (2 + j) := by
  constructor
  · intro z
    exact ⟨fun k h1 h2 => z k h1 (by omega), z j h (by omega)⟩
  · intro z k h1 h2
    by_cases e : k = j
    · subst e; exact z.2
    · exact z.1 k h1 (by omega)
theorem ovM_0 {P : Int → Int → Int} {p o n : Int} : ovM P p o n 0 := fun k h1 h2 => by omega
theorem ovM_le {P : Int → Int → Int} {p o n i j : Int} (h : i ≤ j) (z : ovM P p o n j) : ovM P p o n i := fun k h1 h2 => z k h1 (by omega)
/-- the most letters that the end of p and the begin of o share, of less than n -/
def isOv (P : Int → Int → Int) (p o n r : Int) : Prop := (r = 0 ∨ (0 < r ∧ r < n ∧ ovM P p o r r)) ∧ ∀ k, r < k → k < n → 0 < k → ¬ ovM P p o k k
section Ref3
variable {tb : Tab} {d : Nat} {m : AM} {K : Out → AM → Prop} {S : Nat → Int → Int}
theorem k300_0 : pg.1 300 0 = [.bipush 0, .istore 3, .bipush (-1), .istore 4, .jsr 5] := rfl
theorem a300_0 {tb : Tab} {d : Nat} {K : Out → AM → Prop} {ls st : List AV} {m : AM} : At tb d 300 K 0 ls st m = wpB tb (pg.2.1 300) (Runs tb pg d) K (At tb d 300 K) [.bipush 0, .istore 3, .bipush (-1), .istore 4, .jsr 5] ls st m := At.eq k300_0
theorem k300_5 : pg.1 300 5 = [.iload 4, .bipush 8, .if_icmp .ge 81, .bipush 0, .istore 5, .bipush 0, .istore 6, .jsr 18] := rfl
theorem a300_5 {tb : Tab} {d : Nat} {K : Out → AM → Prop} {ls st : List AV} {m : AM} : At tb d 300 K 5 ls st m = wpB tb (pg.2.1 300) (Runs tb pg d) K (At tb d 300 K) [.iload 4, .bipush 8, .if_icmp .ge 81, .bipush 0, .istore 5, .bipush 0, .istore 6, .jsr 18] ls st m := At.eq k300_5
theorem k300_18 : pg.1 300 18 = [.iload 6, .aload 0, .getfield 1001, .bipush 4, .iaload, .if_icmp .ge 68, .iload 5, .iload 1, .iload 6, .invokeinterface 203 2, .ifCond .eq 58, .aload 0, .iload 6, .bipush 2, .iload 2, .iadd, .invokeinterface 206 3, .iload 4, .if_icmp .ne 58, .bipush 1, .goto 59] := rfl
theorem a300_18 {tb : Tab} {d : Nat} {K : Out → AM → Prop} {ls st : List AV} {m : AM} : At tb d 300 K 18 ls st m = wpB tb (pg.2.1 300) (Runs tb pg d) K (At tb d 300 K) [.iload 6, .aload 0, .getfield 1001, .bipush 4, .iaload, .if_icmp .ge 68, .iload 5, .iload 1, .iload 6, .invokeinterface 203 2, .ifCond .eq 58, .aload 0, .iload 6, .bipush 2, .iload 2, .iadd, .invokeinterface 206 3, .iload 4, .if_icmp .ne 58, .bipush 1, .goto 59] ls st m := At.eq k300_18
theorem k300_58 : pg.1 300 58 = [.bipush 0, .jsr 59] := rfl
theorem a300_58 {tb : Tab} {d : Nat} {K : Out → AM → Prop} {ls st : List AV} {m : AM} : At tb d 300 K 58 ls st m = wpB tb (pg.2.1 300) (Runs tb pg d) K (At tb d 300 K) [.bipush 0, .jsr 59] ls st m := At.eq k300_58
theorem k300_59 : pg.1 300 59 = [.iadd, .istore 5, .iinc 6 1, .goto 18] := rfl
theorem a300_59 {tb : Tab} {d : Nat} {K : Out → AM → Prop} {ls st : List AV} {m : AM} : At tb d 300 K 59 ls st m = wpB tb (pg.2.1 300) (Runs tb pg d) K (At tb d 300 K) [.iadd, .istore 5, .iinc 6 1, .goto 18] ls st m := At.eq k300_59
theorem k300_68 : pg.1 300 68 = [.iload 3, .iload 5, .invokeinterface 202 2, .istore 3, .iinc 4 1, .goto 5] := rfl
theorem a300_68 {tb : Tab} {d : Nat} {K : Out → AM → Prop} {ls st : List AV} {m : AM} : At tb d 300 K 68 ls st m = wpB tb (pg.2.1 300) (Runs tb pg d) K (At tb d 300 K) [.iload 3, .iload 5, .invokeinterface 202 2, .istore 3, .iinc 4 1, .goto 5] ls st m := At.eq k300_68
theorem k300_81 : pg.1 300 81 = [.iload 3, .ireturn] := rfl
theorem a300_81 {tb : Tab} {d : Nat} {K : Out → AM → Prop} {ls st : List AV} {m : AM} : At tb d 300 K 81 ls st m = wpB tb (pg.2.1 300) (Runs tb pg d) K (At tb d 300 K) [.iload 3, .ireturn] ls st m := At.eq k300_81
theorem q_300 {s k : Int} (hB : BR S) (hk : 0 ≤ k ∧ k < 6) (hK : ∀ r, (∀ v, -1 ≤ v → v < 8 → cntBy (oR S) (S 301 4) s k v ≤ r) → (r = 0 ∨ ∃ v, -1 ≤ v ∧ v < 8 ∧ cntBy (oR S) (S 301 4) s k v = r) → 0 ≤ r → r ≤ 6 → K (.inl (some (vi r))) (X S m)) : Runs tb pg (d + 2) 300 [vr 300, vi s, vi k] (X S m) K := by
  have b4 := hB.2.2.1
  have u := fun v => cntBy_le (P := oR S) (n := S 301 4) (s := s) (k := k) (v := v) b4.1
  have hL5 : (fun i : Int => ∀ (z5 : AV) (z6 : AV) (v : Int) (a : Int), v = i - 1 → (0 ≤ a ∧ a ≤ 6) → (∀ v, -1 ≤ v → v < i - 1 → cntBy (oR S) (S 301 4) s k v ≤ a) → (a = 0 ∨ ∃ v, -1 ≤ v ∧ v < 8 ∧ cntBy (oR S) (S 301 4) s k v = a) → At tb (d + 1) 300 K 5 [vr 300, vi s, vi k, vi a, vi v, z5, z6] [] (X S m)) 0 := by
    refine loopZ (fun i : Int => ∀ (z5 : AV) (z6 : AV) (v : Int) (a : Int), v = i - 1 → (0 ≤ a ∧ a ≤ 6) → (∀ v, -1 ≤ v → v < i - 1 → cntBy (oR S) (S 301 4) s k v ≤ a) → (a = 0 ∨ ∃ v, -1 ≤ v ∧ v < 8 ∧ cntBy (oR S) (S 301 4) s k v = a) → At tb (d + 1) 300 K 5 [vr 300, vi s, vi k, vi a, vi v, z5, z6] [] (X S m)) (9) (by omega) ?_ ?_
    · intro i h0 h1 h9 z5 z6 v a hv ha hc he
      have hL18 : (fun j : Int => ∀ (b : Int), b = cntBy (oR S) j s k v → At tb (d + 1) 300 K 18 [vr 300, vi s, vi k, vi a, vi v, vi b, vi j] [] (X S m)) 0 := by
        refine loopZ (fun j : Int => ∀ (b : Int), b = cntBy (oR S) j s k v → At tb (d + 1) 300 K 18 [vr 300, vi s, vi k, vi a, vi v, vi b, vi j] [] (X S m)) (S 301 4) (by omega) ?_ ?_
        · intro j j0 j1 h8 b hb
          rw [a300_18]
          repeat' (first | refine h8 _ ?_ | simp only [w_iconst, w_istore, w_fall, Int.reduceToNat, w_iload, w_ifc, R32, cI, w_aload, x_g1001_300, x_iald, w_ialoads, w_ialoadw, w_call, w_if, w_iadd, w_goto, w_iinc, lgB, Nat.reduceSub, w_ireturn, isA_301, isA_302, isA_303, isA_304, isA_305, isA_306, isA_307, isA_308, isA_309, isA_310, isA_311, isA_312, isA_313, isA_314, isA_315, len_301, len_302, len_303, len_304, len_305, len_306, len_307, len_308, len_309, len_310, len_311, len_312, len_313, len_314, len_315, Int.cast_ofNat_Int, a300_0, a300_58, a300_59, a300_68, a300_81, List.getElem?_cons_zero, List.getElem?_cons_succ, List.set_cons_zero, List.set_cons_succ, List.cons_append, List.nil_append, List.replicate_succ, List.replicate_zero, List.take_succ_cons, List.take_zero, List.drop_succ_cons, List.drop_zero, List.reverse_cons, List.reverse_nil, List.length_cons, List.length_nil, Option.toList, true_and, and_true, eq_self, ↓reduceIte, not_true_eq_false, not_false_eq_true] | refine q_202 ?_ ?_ ?_ | refine q_203 (fun q9 => ?_) (fun q9 => ?_) | refine q_206 hB ?_ ?_ ?_ | refine And.intro ?_ ?_ | intro _)
          all_goals (try (first | omega | contradiction | ((try clear hK); (try clear hK0); (try clear hB); (try clear h9); (try clear h8); (try clear h7); first | omega | grind [cntBy, sumZ_s])))
        · intro b hb
          rw [a300_18]
          repeat' (first | refine h9 _ _ _ _ ?_ ?_ ?_ ?_ | simp only [w_iconst, w_istore, w_fall, Int.reduceToNat, w_iload, w_ifc, R32, cI, w_aload, x_g1001_300, x_iald, w_ialoads, w_ialoadw, w_call, w_if, w_iadd, w_goto, w_iinc, lgB, Nat.reduceSub, w_ireturn, isA_301, isA_302, isA_303, isA_304, isA_305, isA_306, isA_307, isA_308, isA_309, isA_310, isA_311, isA_312, isA_313, isA_314, isA_315, len_301, len_302, len_303, len_304, len_305, len_306, len_307, len_308, len_309, len_310, len_311, len_312, len_313, len_314, len_315, Int.cast_ofNat_Int, a300_0, a300_58, a300_59, a300_68, a300_81, List.getElem?_cons_zero, List.getElem?_cons_succ, List.set_cons_zero, List.set_cons_succ, List.cons_append, List.nil_append, List.replicate_succ, List.replicate_zero, List.take_succ_cons, List.take_zero, List.drop_succ_cons, List.drop_zero, List.reverse_cons, List.reverse_nil, List.length_cons, List.length_nil, Option.toList, true_and, and_true, eq_self, ↓reduceIte, not_true_eq_false, not_false_eq_true] | refine q_202 ?_ ?_ ?_ | refine q_203 (fun q9 => ?_) (fun q9 => ?_) | refine q_206 hB ?_ ?_ ?_ | refine And.intro ?_ ?_ | intro _)
          all_goals (try (first | omega | contradiction | ((try clear hK); (try clear hK0); (try clear hB); (try clear h9); (try clear h8); (try clear h7); first | omega | grind)))
      rw [a300_5]
      repeat' (first | refine h9 _ _ _ _ ?_ ?_ ?_ ?_ | refine hL18 _ ?_ | simp only [w_iconst, w_istore, w_fall, Int.reduceToNat, w_iload, w_ifc, R32, cI, w_aload, x_g1001_300, x_iald, w_ialoads, w_ialoadw, w_call, w_if, w_iadd, w_goto, w_iinc, lgB, Nat.reduceSub, w_ireturn, isA_301, isA_302, isA_303, isA_304, isA_305, isA_306, isA_307, isA_308, isA_309, isA_310, isA_311, isA_312, isA_313, isA_314, isA_315, len_301, len_302, len_303, len_304, len_305, len_306, len_307, len_308, len_309, len_310, len_311, len_312, len_313, len_314, len_315, Int.cast_ofNat_Int, a300_0, a300_58, a300_59, a300_68, a300_81, List.getElem?_cons_zero, List.getElem?_cons_succ, List.set_cons_zero, List.set_cons_succ, List.cons_append, List.nil_append, List.replicate_succ, List.replicate_zero, List.take_succ_cons, List.take_zero, List.drop_succ_cons, List.drop_zero, List.reverse_cons, List.reverse_nil, List.length_cons, List.length_nil, Option.toList, true_and, and_true, eq_self, ↓reduceIte, not_true_eq_false, not_false_eq_true] | refine q_202 ?_ ?_ ?_ | refine q_203 (fun q9 => ?_) (fun q9 => ?_) | refine q_206 hB ?_ ?_ ?_ | refine And.intro ?_ ?_ | intro _)
      all_goals (try (first | omega | contradiction | ((try clear hK); (try clear hK0); (try clear hB); (try clear h9); (try clear h8); (try clear h7); first | omega | rfl)))
    · intro z5 z6 v a hv ha hc he
      rw [a300_5]
      repeat' (first | refine hK _ ?_ ?_ ?_ ?_ | simp only [w_iconst, w_istore, w_fall, Int.reduceToNat, w_iload, w_ifc, R32, cI, w_aload, x_g1001_300, x_iald, w_ialoads, w_ialoadw, w_call, w_if, w_iadd, w_goto, w_iinc, lgB, Nat.reduceSub, w_ireturn, isA_301, isA_302, isA_303, isA_304, isA_305, isA_306, isA_307, isA_308, isA_309, isA_310, isA_311, isA_312, isA_313, isA_314, isA_315, len_301, len_302, len_303, len_304, len_305, len_306, len_307, len_308, len_309, len_310, len_311, len_312, len_313, len_314, len_315, Int.cast_ofNat_Int, a300_0, a300_58, a300_59, a300_68, a300_81, List.getElem?_cons_zero, List.getElem?_cons_succ, List.set_cons_zero, List.set_cons_succ, List.cons_append, List.nil_append, List.replicate_succ, List.replicate_zero, List.take_succ_cons, List.take_zero, List.drop_succ_cons, List.drop_zero, List.reverse_cons, List.reverse_nil, List.length_cons, List.length_nil, Option.toList, true_and, and_true, eq_self, ↓reduceIte, not_true_eq_false, not_false_eq_true] | refine q_202 ?_ ?_ ?_ | refine q_203 (fun q9 => ?_) (fun q9 => ?_) | refine q_206 hB ?_ ?_ ?_ | refine And.intro ?_ ?_ | intro _)
      all_goals (try (first | omega | contradiction | ((try clear hK); (try clear hK0); (try clear hB); (try clear h9); (try clear h8); (try clear h7); first | omega | grind)))
  refine Runs.of (al := [vr 300, vi s, vi k]) (n := 4) ⟨300, _, _, rfl, xo_300⟩ rfl rfl trivial ?_
  repeat' (first | refine hL5 _ _ _ _ ?_ ?_ ?_ ?_ | simp only [w_iconst, w_istore, w_fall, Int.reduceToNat, w_iload, w_ifc, R32, cI, w_aload, x_g1001_300, x_iald, w_ialoads, w_ialoadw, w_call, w_if, w_iadd, w_goto, w_iinc, lgB, Nat.reduceSub, w_ireturn, isA_301, isA_302, isA_303, isA_304, isA_305, isA_306, isA_307, isA_308, isA_309, isA_310, isA_311, isA_312, isA_313, isA_314, isA_315, len_301, len_302, len_303, len_304, len_305, len_306, len_307, len_308, len_309, len_310, len_311, len_312, len_313, len_314, len_315, Int.cast_ofNat_Int, a300_0, a300_58, a300_59, a300_68, a300_81, List.getElem?_cons_zero, List.getElem?_cons_succ, List.set_cons_zero, List.set_cons_succ, List.cons_append, List.nil_append, List.replicate_succ, List.replicate_zero, List.take_succ_cons, List.take_zero, List.drop_succ_cons, List.drop_zero, List.reverse_cons, List.reverse_nil, List.length_cons, List.length_nil, Option.toList, true_and, and_true, eq_self, ↓reduceIte, not_true_eq_false, not_false_eq_true] | refine q_202 ?_ ?_ ?_ | refine q_203 (fun q9 => ?_) (fun q9 => ?_) | refine q_206 hB ?_ ?_ ?_ | refine And.intro ?_ ?_ | intro _)
  all_goals (try (first | omega | contradiction | ((try clear hK); (try clear hK0); (try clear hB); (try clear h9); (try clear h8); (try clear h7); first | omega | grind)))
theorem k302_0 : pg.1 302 0 = [.bipush 1, .istore 2, .bipush 0, .istore 3, .jsr 4] := rfl
theorem a302_0 {tb : Tab} {d : Nat} {K : Out → AM → Prop} {ls st : List AV} {m : AM} : At tb d 302 K 0 ls st m = wpB tb (pg.2.1 302) (Runs tb pg d) K (At tb d 302 K) [.bipush 1, .istore 2, .bipush 0, .istore 3, .jsr 4] ls st m := At.eq k302_0
theorem k302_4 : pg.1 302 4 = [.iload 3, .aload 0, .getfield 1001, .bipush 4, .iaload, .if_icmp .ge 112, .bipush 0, .istore 4, .jsr 17] := rfl
theorem a302_4 {tb : Tab} {d : Nat} {K : Out → AM → Prop} {ls st : List AV} {m : AM} : At tb d 302 K 4 ls st m = wpB tb (pg.2.1 302) (Runs tb pg d) K (At tb d 302 K) [.iload 3, .aload 0, .getfield 1001, .bipush 4, .iaload, .if_icmp .ge 112, .bipush 0, .istore 4, .jsr 17] ls st m := At.eq k302_4
theorem k302_17 : pg.1 302 17 = [.iload 4, .iload 3, .if_icmp .ge 106, .bipush 0, .istore 5, .bipush 0, .istore 6, .jsr 29] := rfl
theorem a302_17 {tb : Tab} {d : Nat} {K : Out → AM → Prop} {ls st : List AV} {m : AM} : At tb d 302 K 17 ls st m = wpB tb (pg.2.1 302) (Runs tb pg d) K (At tb d 302 K) [.iload 4, .iload 3, .if_icmp .ge 106, .bipush 0, .istore 5, .bipush 0, .istore 6, .jsr 29] ls st m := At.eq k302_17
theorem k302_29 : pg.1 302 29 = [.iload 6, .bipush 6, .if_icmp .ge 85, .iload 5, .ifCond .ne 72, .iload 1, .iload 6, .invokeinterface 203 2, .ifCond .eq 76, .aload 0, .iload 3, .bipush 2, .iload 6, .iadd, .invokeinterface 206 3, .aload 0, .iload 4, .bipush 2, .iload 6, .iadd, .invokeinterface 206 3, .if_icmp .eq 76, .jsr 72] := rfl
theorem a302_29 {tb : Tab} {d : Nat} {K : Out → AM → Prop} {ls st : List AV} {m : AM} : At tb d 302 K 29 ls st m = wpB tb (pg.2.1 302) (Runs tb pg d) K (At tb d 302 K) [.iload 6, .bipush 6, .if_icmp .ge 85, .iload 5, .ifCond .ne 72, .iload 1, .iload 6, .invokeinterface 203 2, .ifCond .eq 76, .aload 0, .iload 3, .bipush 2, .iload 6, .iadd, .invokeinterface 206 3, .aload 0, .iload 4, .bipush 2, .iload 6, .iadd, .invokeinterface 206 3, .if_icmp .eq 76, .jsr 72] ls st m := At.eq k302_29
theorem k302_72 : pg.1 302 72 = [.bipush 1, .goto 77] := rfl
theorem a302_72 {tb : Tab} {d : Nat} {K : Out → AM → Prop} {ls st : List AV} {m : AM} : At tb d 302 K 72 ls st m = wpB tb (pg.2.1 302) (Runs tb pg d) K (At tb d 302 K) [.bipush 1, .goto 77] ls st m := At.eq k302_72
theorem k302_76 : pg.1 302 76 = [.bipush 0, .jsr 77] := rfl
theorem a302_76 {tb : Tab} {d : Nat} {K : Out → AM → Prop} {ls st : List AV} {m : AM} : At tb d 302 K 76 ls st m = wpB tb (pg.2.1 302) (Runs tb pg d) K (At tb d 302 K) [.bipush 0, .jsr 77] ls st m := At.eq k302_76
theorem k302_77 : pg.1 302 77 = [.istore 5, .iinc 6 1, .goto 29] := rfl
theorem a302_77 {tb : Tab} {d : Nat} {K : Out → AM → Prop} {ls st : List AV} {m : AM} : At tb d 302 K 77 ls st m = wpB tb (pg.2.1 302) (Runs tb pg d) K (At tb d 302 K) [.istore 5, .iinc 6 1, .goto 29] ls st m := At.eq k302_77
theorem k302_85 : pg.1 302 85 = [.iload 2, .ifCond .eq 98, .iload 5, .ifCond .eq 98, .bipush 1, .goto 99] := rfl
theorem a302_85 {tb : Tab} {d : Nat} {K : Out → AM → Prop} {ls st : List AV} {m : AM} : At tb d 302 K 85 ls st m = wpB tb (pg.2.1 302) (Runs tb pg d) K (At tb d 302 K) [.iload 2, .ifCond .eq 98, .iload 5, .ifCond .eq 98, .bipush 1, .goto 99] ls st m := At.eq k302_85
theorem k302_98 : pg.1 302 98 = [.bipush 0, .jsr 99] := rfl
theorem a302_98 {tb : Tab} {d : Nat} {K : Out → AM → Prop} {ls st : List AV} {m : AM} : At tb d 302 K 98 ls st m = wpB tb (pg.2.1 302) (Runs tb pg d) K (At tb d 302 K) [.bipush 0, .jsr 99] ls st m := At.eq k302_98
theorem k302_99 : pg.1 302 99 = [.istore 2, .iinc 4 1, .goto 17] := rfl
theorem a302_99 {tb : Tab} {d : Nat} {K : Out → AM → Prop} {ls st : List AV} {m : AM} : At tb d 302 K 99 ls st m = wpB tb (pg.2.1 302) (Runs tb pg d) K (At tb d 302 K) [.istore 2, .iinc 4 1, .goto 17] ls st m := At.eq k302_99
theorem k302_106 : pg.1 302 106 = [.iinc 3 1, .goto 4] := rfl
theorem a302_106 {tb : Tab} {d : Nat} {K : Out → AM → Prop} {ls st : List AV} {m : AM} : At tb d 302 K 106 ls st m = wpB tb (pg.2.1 302) (Runs tb pg d) K (At tb d 302 K) [.iinc 3 1, .goto 4] ls st m := At.eq k302_106
theorem k302_112 : pg.1 302 112 = [.iload 2, .freturn] := rfl
theorem a302_112 {tb : Tab} {d : Nat} {K : Out → AM → Prop} {ls st : List AV} {m : AM} : At tb d 302 K 112 ls st m = wpB tb (pg.2.1 302) (Runs tb pg d) K (At tb d 302 K) [.iload 2, .freturn] ls st m := At.eq k302_112
theorem q_302 {s : Int} (hB : BR S) (hK : ∀ r, yn r (tellsM (oR S) (S 301 4) s) → K (.inl (some (vi r))) (X S m)) : Runs tb pg (d + 2) 302 [vr 300, vi s] (X S m) K := by
  have b4 := hB.2.2.1
  have hL4 : (fun i : Int => ∀ (z4 : AV) (z5 : AV) (z6 : AV) (a : Int), (yn a (tellsM (oR S) i s)) → At tb (d + 1) 302 K 4 [vr 300, vi s, vi a, vi i, z4, z5, z6] [] (X S m)) 0 := by
    refine loopZ (fun i : Int => ∀ (z4 : AV) (z5 : AV) (z6 : AV) (a : Int), (yn a (tellsM (oR S) i s)) → At tb (d + 1) 302 K 4 [vr 300, vi s, vi a, vi i, z4, z5, z6] [] (X S m)) (S 301 4) (by omega) ?_ ?_
    · intro i h0 h1 h9 z4 z5 z6 a ha
      have hL17 : (fun j : Int => ∀ (z5 : AV) (z6 : AV) (b : Int), (yn b (tell2 (oR S) i s j)) → At tb (d + 1) 302 K 17 [vr 300, vi s, vi b, vi i, vi j, z5, z6] [] (X S m)) 0 := by
        refine loopZ (fun j : Int => ∀ (z5 : AV) (z6 : AV) (b : Int), (yn b (tell2 (oR S) i s j)) → At tb (d + 1) 302 K 17 [vr 300, vi s, vi b, vi i, vi j, z5, z6] [] (X S m)) (i) (by omega) ?_ ?_
        · intro j j0 j1 h8 z5 z6 b hb
          have hL29 : (fun k : Int => ∀ (c : Int), (yn c (unlM (oR S) s i j k)) → At tb (d + 1) 302 K 29 [vr 300, vi s, vi b, vi i, vi j, vi c, vi k] [] (X S m)) 0 := by
            refine loopZ (fun k : Int => ∀ (c : Int), (yn c (unlM (oR S) s i j k)) → At tb (d + 1) 302 K 29 [vr 300, vi s, vi b, vi i, vi j, vi c, vi k] [] (X S m)) (6) (by omega) ?_ ?_
            · intro k k0 k1 h7 c hc
              rw [a302_29]
              repeat' (first | refine h7 _ ?_ | simp only [w_iconst, w_istore, w_fall, Int.reduceToNat, w_iload, w_aload, x_g1001_300, x_iald, w_ialoads, w_ialoadw, w_ifc, R32, cI, w_if, w_call, w_iadd, w_goto, w_iinc, lgB, Nat.reduceSub, w_zreturn, isA_301, isA_302, isA_303, isA_304, isA_305, isA_306, isA_307, isA_308, isA_309, isA_310, isA_311, isA_312, isA_313, isA_314, isA_315, len_301, len_302, len_303, len_304, len_305, len_306, len_307, len_308, len_309, len_310, len_311, len_312, len_313, len_314, len_315, Int.cast_ofNat_Int, a302_0, a302_72, a302_76, a302_77, a302_85, a302_98, a302_99, a302_106, a302_112, List.getElem?_cons_zero, List.getElem?_cons_succ, List.set_cons_zero, List.set_cons_succ, List.cons_append, List.nil_append, List.replicate_succ, List.replicate_zero, List.take_succ_cons, List.take_zero, List.drop_succ_cons, List.drop_zero, List.reverse_cons, List.reverse_nil, List.length_cons, List.length_nil, Option.toList, true_and, and_true, eq_self, ↓reduceIte, not_true_eq_false, not_false_eq_true] | refine q_203 (fun q9 => ?_) (fun q9 => ?_) | refine q_206 hB ?_ ?_ ?_ | refine And.intro ?_ ?_ | intro _)
              all_goals (try (first | omega | contradiction | ((try clear hK); (try clear hK0); (try clear hB); (try clear h9); (try clear h8); (try clear h7); first | omega | grind [yn, unlM_s])))
            · intro c hc
              rw [a302_29]
              repeat' (first | refine h8 _ _ _ ?_ | simp only [w_iconst, w_istore, w_fall, Int.reduceToNat, w_iload, w_aload, x_g1001_300, x_iald, w_ialoads, w_ialoadw, w_ifc, R32, cI, w_if, w_call, w_iadd, w_goto, w_iinc, lgB, Nat.reduceSub, w_zreturn, isA_301, isA_302, isA_303, isA_304, isA_305, isA_306, isA_307, isA_308, isA_309, isA_310, isA_311, isA_312, isA_313, isA_314, isA_315, len_301, len_302, len_303, len_304, len_305, len_306, len_307, len_308, len_309, len_310, len_311, len_312, len_313, len_314, len_315, Int.cast_ofNat_Int, a302_0, a302_72, a302_76, a302_77, a302_85, a302_98, a302_99, a302_106, a302_112, List.getElem?_cons_zero, List.getElem?_cons_succ, List.set_cons_zero, List.set_cons_succ, List.cons_append, List.nil_append, List.replicate_succ, List.replicate_zero, List.take_succ_cons, List.take_zero, List.drop_succ_cons, List.drop_zero, List.reverse_cons, List.reverse_nil, List.length_cons, List.length_nil, Option.toList, true_and, and_true, eq_self, ↓reduceIte, not_true_eq_false, not_false_eq_true] | refine q_203 (fun q9 => ?_) (fun q9 => ?_) | refine q_206 hB ?_ ?_ ?_ | refine And.intro ?_ ?_ | intro _)
              all_goals (try (first | omega | contradiction | ((try clear hK); (try clear hK0); (try clear hB); (try clear h9); (try clear h8); (try clear h7); first | omega | grind [yn, tell2_s])))
          rw [a302_17]
          repeat' (first | refine h8 _ _ _ ?_ | refine hL29 _ ?_ | simp only [w_iconst, w_istore, w_fall, Int.reduceToNat, w_iload, w_aload, x_g1001_300, x_iald, w_ialoads, w_ialoadw, w_ifc, R32, cI, w_if, w_call, w_iadd, w_goto, w_iinc, lgB, Nat.reduceSub, w_zreturn, isA_301, isA_302, isA_303, isA_304, isA_305, isA_306, isA_307, isA_308, isA_309, isA_310, isA_311, isA_312, isA_313, isA_314, isA_315, len_301, len_302, len_303, len_304, len_305, len_306, len_307, len_308, len_309, len_310, len_311, len_312, len_313, len_314, len_315, Int.cast_ofNat_Int, a302_0, a302_72, a302_76, a302_77, a302_85, a302_98, a302_99, a302_106, a302_112, List.getElem?_cons_zero, List.getElem?_cons_succ, List.set_cons_zero, List.set_cons_succ, List.cons_append, List.nil_append, List.replicate_succ, List.replicate_zero, List.take_succ_cons, List.take_zero, List.drop_succ_cons, List.drop_zero, List.reverse_cons, List.reverse_nil, List.length_cons, List.length_nil, Option.toList, true_and, and_true, eq_self, ↓reduceIte, not_true_eq_false, not_false_eq_true] | refine q_203 (fun q9 => ?_) (fun q9 => ?_) | refine q_206 hB ?_ ?_ ?_ | refine And.intro ?_ ?_ | intro _)
          all_goals (try (first | omega | contradiction | ((try clear hK); (try clear hK0); (try clear hB); (try clear h9); (try clear h8); (try clear h7); first | omega | grind [yn, unlM_0])))
        · intro z5 z6 b hb
          rw [a302_17]
          repeat' (first | refine h9 _ _ _ _ ?_ | simp only [w_iconst, w_istore, w_fall, Int.reduceToNat, w_iload, w_aload, x_g1001_300, x_iald, w_ialoads, w_ialoadw, w_ifc, R32, cI, w_if, w_call, w_iadd, w_goto, w_iinc, lgB, Nat.reduceSub, w_zreturn, isA_301, isA_302, isA_303, isA_304, isA_305, isA_306, isA_307, isA_308, isA_309, isA_310, isA_311, isA_312, isA_313, isA_314, isA_315, len_301, len_302, len_303, len_304, len_305, len_306, len_307, len_308, len_309, len_310, len_311, len_312, len_313, len_314, len_315, Int.cast_ofNat_Int, a302_0, a302_72, a302_76, a302_77, a302_85, a302_98, a302_99, a302_106, a302_112, List.getElem?_cons_zero, List.getElem?_cons_succ, List.set_cons_zero, List.set_cons_succ, List.cons_append, List.nil_append, List.replicate_succ, List.replicate_zero, List.take_succ_cons, List.take_zero, List.drop_succ_cons, List.drop_zero, List.reverse_cons, List.reverse_nil, List.length_cons, List.length_nil, Option.toList, true_and, and_true, eq_self, ↓reduceIte, not_true_eq_false, not_false_eq_true] | refine q_203 (fun q9 => ?_) (fun q9 => ?_) | refine q_206 hB ?_ ?_ ?_ | refine And.intro ?_ ?_ | intro _)
          all_goals (try (first | omega | contradiction | ((try clear hK); (try clear hK0); (try clear hB); (try clear h9); (try clear h8); (try clear h7); first | omega | grind [tellsM_s])))
      rw [a302_4]
      repeat' (first | refine h9 _ _ _ _ ?_ | refine hL17 _ _ _ ?_ | simp only [w_iconst, w_istore, w_fall, Int.reduceToNat, w_iload, w_aload, x_g1001_300, x_iald, w_ialoads, w_ialoadw, w_ifc, R32, cI, w_if, w_call, w_iadd, w_goto, w_iinc, lgB, Nat.reduceSub, w_zreturn, isA_301, isA_302, isA_303, isA_304, isA_305, isA_306, isA_307, isA_308, isA_309, isA_310, isA_311, isA_312, isA_313, isA_314, isA_315, len_301, len_302, len_303, len_304, len_305, len_306, len_307, len_308, len_309, len_310, len_311, len_312, len_313, len_314, len_315, Int.cast_ofNat_Int, a302_0, a302_72, a302_76, a302_77, a302_85, a302_98, a302_99, a302_106, a302_112, List.getElem?_cons_zero, List.getElem?_cons_succ, List.set_cons_zero, List.set_cons_succ, List.cons_append, List.nil_append, List.replicate_succ, List.replicate_zero, List.take_succ_cons, List.take_zero, List.drop_succ_cons, List.drop_zero, List.reverse_cons, List.reverse_nil, List.length_cons, List.length_nil, Option.toList, true_and, and_true, eq_self, ↓reduceIte, not_true_eq_false, not_false_eq_true] | refine q_203 (fun q9 => ?_) (fun q9 => ?_) | refine q_206 hB ?_ ?_ ?_ | refine And.intro ?_ ?_ | intro _)
      all_goals (try (first | omega | contradiction | ((try clear hK); (try clear hK0); (try clear hB); (try clear h9); (try clear h8); (try clear h7); first | omega | grind [tell2_0])))
    · intro z4 z5 z6 a ha
      rw [a302_4]
      repeat' (first | refine hK _ ?_ | simp only [w_iconst, w_istore, w_fall, Int.reduceToNat, w_iload, w_aload, x_g1001_300, x_iald, w_ialoads, w_ialoadw, w_ifc, R32, cI, w_if, w_call, w_iadd, w_goto, w_iinc, lgB, Nat.reduceSub, w_zreturn, isA_301, isA_302, isA_303, isA_304, isA_305, isA_306, isA_307, isA_308, isA_309, isA_310, isA_311, isA_312, isA_313, isA_314, isA_315, len_301, len_302, len_303, len_304, len_305, len_306, len_307, len_308, len_309, len_310, len_311, len_312, len_313, len_314, len_315, Int.cast_ofNat_Int, a302_0, a302_72, a302_76, a302_77, a302_85, a302_98, a302_99, a302_106, a302_112, List.getElem?_cons_zero, List.getElem?_cons_succ, List.set_cons_zero, List.set_cons_succ, List.cons_append, List.nil_append, List.replicate_succ, List.replicate_zero, List.take_succ_cons, List.take_zero, List.drop_succ_cons, List.drop_zero, List.reverse_cons, List.reverse_nil, List.length_cons, List.length_nil, Option.toList, true_and, and_true, eq_self, ↓reduceIte, not_true_eq_false, not_false_eq_true] | refine q_203 (fun q9 => ?_) (fun q9 => ?_) | refine q_206 hB ?_ ?_ ?_ | refine And.intro ?_ ?_ | intro _)
      all_goals (try (first | omega | contradiction | ((try clear hK); (try clear hK0); (try clear hB); (try clear h9); (try clear h8); (try clear h7); first | omega | grind [yn])))
  refine Runs.of (al := [vr 300, vi s]) (n := 5) ⟨300, _, _, rfl, xo_300⟩ rfl rfl trivial ?_
  repeat' (first | refine hL4 _ _ _ _ ?_ | simp only [w_iconst, w_istore, w_fall, Int.reduceToNat, w_iload, w_aload, x_g1001_300, x_iald, w_ialoads, w_ialoadw, w_ifc, R32, cI, w_if, w_call, w_iadd, w_goto, w_iinc, lgB, Nat.reduceSub, w_zreturn, isA_301, isA_302, isA_303, isA_304, isA_305, isA_306, isA_307, isA_308, isA_309, isA_310, isA_311, isA_312, isA_313, isA_314, isA_315, len_301, len_302, len_303, len_304, len_305, len_306, len_307, len_308, len_309, len_310, len_311, len_312, len_313, len_314, len_315, Int.cast_ofNat_Int, a302_0, a302_72, a302_76, a302_77, a302_85, a302_98, a302_99, a302_106, a302_112, List.getElem?_cons_zero, List.getElem?_cons_succ, List.set_cons_zero, List.set_cons_succ, List.cons_append, List.nil_append, List.replicate_succ, List.replicate_zero, List.take_succ_cons, List.take_zero, List.drop_succ_cons, List.drop_zero, List.reverse_cons, List.reverse_nil, List.length_cons, List.length_nil, Option.toList, true_and, and_true, eq_self, ↓reduceIte, not_true_eq_false, not_false_eq_true] | refine q_203 (fun q9 => ?_) (fun q9 => ?_) | refine q_206 hB ?_ ?_ ?_ | refine And.intro ?_ ?_ | intro _)
  all_goals (try (first | omega | contradiction | ((try clear hK); (try clear hK0); (try clear hB); (try clear h9); (try clear h8); (try clear h7); first | omega | grind [yn, tellsM_0])))
theorem k306_0 : pg.1 306 0 = [.bipush 0, .istore 3, .bipush 1, .istore 4, .bipush 0, .istore 5, .jsr 8] := rfl
theorem a306_0 {tb : Tab} {d : Nat} {K : Out → AM → Prop} {ls st : List AV} {m : AM} : At tb d 306 K 0 ls st m = wpB tb (pg.2.1 306) (Runs tb pg d) K (At tb d 306 K) [.bipush 0, .istore 3, .bipush 1, .istore 4, .bipush 0, .istore 5, .jsr 8] ls st m := At.eq k306_0
theorem k306_8 : pg.1 306 8 = [.iload 5, .aload 0, .iload 1, .bipush 0, .invokeinterface 206 3, .if_icmp .ge 96, .aload 0, .iload 1, .bipush 2, .iload 5, .iadd, .invokeinterface 206 3, .istore 6, .aload 0, .iload 2, .bipush 2, .iload 5, .iadd, .invokeinterface 206 3, .istore 7, .iload 6, .iload 7, .if_icmp .ne 51, .goto 90] := rfl
theorem a306_8 {tb : Tab} {d : Nat} {K : Out → AM → Prop} {ls st : List AV} {m : AM} : At tb d 306 K 8 ls st m = wpB tb (pg.2.1 306) (Runs tb pg d) K (At tb d 306 K) [.iload 5, .aload 0, .iload 1, .bipush 0, .invokeinterface 206 3, .if_icmp .ge 96, .aload 0, .iload 1, .bipush 2, .iload 5, .iadd, .invokeinterface 206 3, .istore 6, .aload 0, .iload 2, .bipush 2, .iload 5, .iadd, .invokeinterface 206 3, .istore 7, .iload 6, .iload 7, .if_icmp .ne 51, .goto 90] ls st m := At.eq k306_8
theorem k306_51 : pg.1 306 51 = [.iinc 3 1, .iload 4, .ifCond .eq 87, .iload 6, .bipush 1, .iadd, .bipush 8, .irem, .iload 7, .if_icmp .eq 83, .iload 7, .bipush 1, .iadd, .bipush 8, .irem, .iload 6, .if_icmp .ne 87, .jsr 83] := rfl
theorem a306_51 {tb : Tab} {d : Nat} {K : Out → AM → Prop} {ls st : List AV} {m : AM} : At tb d 306 K 51 ls st m = wpB tb (pg.2.1 306) (Runs tb pg d) K (At tb d 306 K) [.iinc 3 1, .iload 4, .ifCond .eq 87, .iload 6, .bipush 1, .iadd, .bipush 8, .irem, .iload 7, .if_icmp .eq 83, .iload 7, .bipush 1, .iadd, .bipush 8, .irem, .iload 6, .if_icmp .ne 87, .jsr 83] ls st m := At.eq k306_51
theorem k306_83 : pg.1 306 83 = [.bipush 1, .goto 88] := rfl
theorem a306_83 {tb : Tab} {d : Nat} {K : Out → AM → Prop} {ls st : List AV} {m : AM} : At tb d 306 K 83 ls st m = wpB tb (pg.2.1 306) (Runs tb pg d) K (At tb d 306 K) [.bipush 1, .goto 88] ls st m := At.eq k306_83
theorem k306_87 : pg.1 306 87 = [.bipush 0, .jsr 88] := rfl
theorem a306_87 {tb : Tab} {d : Nat} {K : Out → AM → Prop} {ls st : List AV} {m : AM} : At tb d 306 K 87 ls st m = wpB tb (pg.2.1 306) (Runs tb pg d) K (At tb d 306 K) [.bipush 0, .jsr 88] ls st m := At.eq k306_87
theorem k306_88 : pg.1 306 88 = [.istore 4, .jsr 90] := rfl
theorem a306_88 {tb : Tab} {d : Nat} {K : Out → AM → Prop} {ls st : List AV} {m : AM} : At tb d 306 K 88 ls st m = wpB tb (pg.2.1 306) (Runs tb pg d) K (At tb d 306 K) [.istore 4, .jsr 90] ls st m := At.eq k306_88
theorem k306_90 : pg.1 306 90 = [.iinc 5 1, .goto 8] := rfl
theorem a306_90 {tb : Tab} {d : Nat} {K : Out → AM → Prop} {ls st : List AV} {m : AM} : At tb d 306 K 90 ls st m = wpB tb (pg.2.1 306) (Runs tb pg d) K (At tb d 306 K) [.iinc 5 1, .goto 8] ls st m := At.eq k306_90
theorem k306_96 : pg.1 306 96 = [.aload 0, .iload 1, .bipush 0, .invokeinterface 206 3, .aload 0, .iload 2, .bipush 0, .invokeinterface 206 3, .if_icmp .ne 125, .iload 3, .bipush 1, .if_icmp .ne 125, .iload 4, .ifCond .eq 125, .bipush 1, .goto 126] := rfl
theorem a306_96 {tb : Tab} {d : Nat} {K : Out → AM → Prop} {ls st : List AV} {m : AM} : At tb d 306 K 96 ls st m = wpB tb (pg.2.1 306) (Runs tb pg d) K (At tb d 306 K) [.aload 0, .iload 1, .bipush 0, .invokeinterface 206 3, .aload 0, .iload 2, .bipush 0, .invokeinterface 206 3, .if_icmp .ne 125, .iload 3, .bipush 1, .if_icmp .ne 125, .iload 4, .ifCond .eq 125, .bipush 1, .goto 126] ls st m := At.eq k306_96
theorem k306_125 : pg.1 306 125 = [.bipush 0, .jsr 126] := rfl
theorem a306_125 {tb : Tab} {d : Nat} {K : Out → AM → Prop} {ls st : List AV} {m : AM} : At tb d 306 K 125 ls st m = wpB tb (pg.2.1 306) (Runs tb pg d) K (At tb d 306 K) [.bipush 0, .jsr 126] ls st m := At.eq k306_125
theorem k306_126 : pg.1 306 126 = [.freturn] := rfl
theorem a306_126 {tb : Tab} {d : Nat} {K : Out → AM → Prop} {ls st : List AV} {m : AM} : At tb d 306 K 126 ls st m = wpB tb (pg.2.1 306) (Runs tb pg d) K (At tb d 306 K) [.freturn] ls st m := At.eq k306_126
theorem q_306 {p o : Int} (hB : BR S) (hp : 0 ≤ p ∧ p < 6) (ho : 0 ≤ o ∧ o < 6) (hK : ∀ r, yn r (oR S p 0 = oR S o 0 ∧ difM (oR S) p o (oR S p 0) = 1 ∧ allNx (oR S) p o (oR S p 0)) → K (.inl (some (vi r))) (X S m)) : Runs tb pg (d + 2) 306 [vr 300, vi p, vi o] (X S m) K := by
  have b4 := (hB.2.2.2.2.1 p hp.1 hp.2).1
  have hL8 : (fun i : Int => ∀ (z6 : AV) (z7 : AV) (a : Int) (b : Int), a = difM (oR S) p o i → (yn b (allNx (oR S) p o i)) → (0 ≤ a ∧ a ≤ i) → At tb (d + 1) 306 K 8 [vr 300, vi p, vi o, vi a, vi b, vi i, z6, z7] [] (X S m)) 0 := by
    refine loopZ (fun i : Int => ∀ (z6 : AV) (z7 : AV) (a : Int) (b : Int), a = difM (oR S) p o i → (yn b (allNx (oR S) p o i)) → (0 ≤ a ∧ a ≤ i) → At tb (d + 1) 306 K 8 [vr 300, vi p, vi o, vi a, vi b, vi i, z6, z7] [] (X S m)) (oR S p 0) (by omega) ?_ ?_
    · intro i h0 h1 h9 z6 z7 a b ha hb hc
      have q1 := hB.2.2.2.2.2.2 p i hp.1 hp.2 h0 (by omega)
      have q2 := hB.2.2.2.2.2.2 o i ho.1 ho.2 h0 (by omega)
      have q3 : difM (oR S) p o (i + 1) = difM (oR S) p o i + if oR S p (2 + i) = oR S o (2 + i) then 0 else 1 := sumZ_s h0
      have q4 := allNx_s (P := oR S) (p := p) (o := o) h0
      rw [a306_8]
      repeat' (first | refine h9 _ _ _ _ ?_ ?_ ?_ | simp only [w_iconst, w_istore, w_fall, Int.reduceToNat, w_iload, w_aload, w_call, w_ifc, R32, cI, w_iadd, w_goto, w_iinc, lgB, Nat.reduceSub, w_if, w_irem, w_zreturn, a306_0, a306_51, a306_83, a306_87, a306_88, a306_90, a306_96, a306_125, a306_126, List.getElem?_cons_zero, List.getElem?_cons_succ, List.set_cons_zero, List.set_cons_succ, List.cons_append, List.nil_append, List.replicate_succ, List.replicate_zero, List.take_succ_cons, List.take_zero, List.drop_succ_cons, List.drop_zero, List.reverse_cons, List.reverse_nil, List.length_cons, List.length_nil, Option.toList, true_and, and_true, eq_self, ↓reduceIte, not_true_eq_false, not_false_eq_true] | refine q_206 hB ?_ ?_ ?_ | refine And.intro ?_ ?_ | intro _)
      all_goals (try (first | omega | contradiction | ((try clear hK); (try clear hK0); (try clear hB); (try clear h9); (try clear h8); (try clear h7); first | omega | grind [yn, nxM])))
    · intro z6 z7 a b ha hb hc
      rw [a306_8]
      repeat' (first | refine hK _ ?_ | simp only [w_iconst, w_istore, w_fall, Int.reduceToNat, w_iload, w_aload, w_call, w_ifc, R32, cI, w_iadd, w_goto, w_iinc, lgB, Nat.reduceSub, w_if, w_irem, w_zreturn, a306_0, a306_51, a306_83, a306_87, a306_88, a306_90, a306_96, a306_125, a306_126, List.getElem?_cons_zero, List.getElem?_cons_succ, List.set_cons_zero, List.set_cons_succ, List.cons_append, List.nil_append, List.replicate_succ, List.replicate_zero, List.take_succ_cons, List.take_zero, List.drop_succ_cons, List.drop_zero, List.reverse_cons, List.reverse_nil, List.length_cons, List.length_nil, Option.toList, true_and, and_true, eq_self, ↓reduceIte, not_true_eq_false, not_false_eq_true] | refine q_206 hB ?_ ?_ ?_ | refine And.intro ?_ ?_ | intro _)
      all_goals (try (first | omega | contradiction | ((try clear hK); (try clear hK0); (try clear hB); (try clear h9); (try clear h8); (try clear h7); first | omega | grind [yn])))
  refine Runs.of (al := [vr 300, vi p, vi o]) (n := 5) ⟨300, _, _, rfl, xo_300⟩ rfl rfl trivial ?_
  repeat' (first | refine hL8 _ _ _ _ ?_ ?_ ?_ | simp only [w_iconst, w_istore, w_fall, Int.reduceToNat, w_iload, w_aload, w_call, w_ifc, R32, cI, w_iadd, w_goto, w_iinc, lgB, Nat.reduceSub, w_if, w_irem, w_zreturn, a306_0, a306_51, a306_83, a306_87, a306_88, a306_90, a306_96, a306_125, a306_126, List.getElem?_cons_zero, List.getElem?_cons_succ, List.set_cons_zero, List.set_cons_succ, List.cons_append, List.nil_append, List.replicate_succ, List.replicate_zero, List.take_succ_cons, List.take_zero, List.drop_succ_cons, List.drop_zero, List.reverse_cons, List.reverse_nil, List.length_cons, List.length_nil, Option.toList, true_and, and_true, eq_self, ↓reduceIte, not_true_eq_false, not_false_eq_true] | refine q_206 hB ?_ ?_ ?_ | refine And.intro ?_ ?_ | intro _)
  all_goals (try (first | omega | contradiction | ((try clear hK); (try clear hK0); (try clear hB); (try clear h9); (try clear h8); (try clear h7); first | omega | grind [yn, difM, sumZ_0, allNx_0])))
theorem k309_0 : pg.1 309 0 = [.iload 3, .aload 0, .iload 2, .bipush 0, .invokeinterface 206 3, .iadd, .aload 0, .iload 1, .bipush 0, .invokeinterface 206 3, .if_icmp .gt 21, .bipush 1, .goto 22] := rfl
theorem a309_0 {tb : Tab} {d : Nat} {K : Out → AM → Prop} {ls st : List AV} {m : AM} : At tb d 309 K 0 ls st m = wpB tb (pg.2.1 309) (Runs tb pg d) K (At tb d 309 K) [.iload 3, .aload 0, .iload 2, .bipush 0, .invokeinterface 206 3, .iadd, .aload 0, .iload 1, .bipush 0, .invokeinterface 206 3, .if_icmp .gt 21, .bipush 1, .goto 22] ls st m := At.eq k309_0
theorem k309_21 : pg.1 309 21 = [.bipush 0, .jsr 22] := rfl
theorem a309_21 {tb : Tab} {d : Nat} {K : Out → AM → Prop} {ls st : List AV} {m : AM} : At tb d 309 K 21 ls st m = wpB tb (pg.2.1 309) (Runs tb pg d) K (At tb d 309 K) [.bipush 0, .jsr 22] ls st m := At.eq k309_21
theorem k309_22 : pg.1 309 22 = [.istore 4, .bipush 0, .istore 5, .jsr 27] := rfl
theorem a309_22 {tb : Tab} {d : Nat} {K : Out → AM → Prop} {ls st : List AV} {m : AM} : At tb d 309 K 22 ls st m = wpB tb (pg.2.1 309) (Runs tb pg d) K (At tb d 309 K) [.istore 4, .bipush 0, .istore 5, .jsr 27] ls st m := At.eq k309_22
theorem k309_27 : pg.1 309 27 = [.iload 5, .aload 0, .iload 2, .bipush 0, .invokeinterface 206 3, .if_icmp .ge 79, .iload 4, .ifCond .eq 79, .aload 0, .iload 1, .bipush 2, .iload 3, .iadd, .iload 5, .iadd, .invokeinterface 206 3, .aload 0, .iload 2, .bipush 2, .iload 5, .iadd, .invokeinterface 206 3, .if_icmp .ne 70, .bipush 1, .goto 71] := rfl
theorem a309_27 {tb : Tab} {d : Nat} {K : Out → AM → Prop} {ls st : List AV} {m : AM} : At tb d 309 K 27 ls st m = wpB tb (pg.2.1 309) (Runs tb pg d) K (At tb d 309 K) [.iload 5, .aload 0, .iload 2, .bipush 0, .invokeinterface 206 3, .if_icmp .ge 79, .iload 4, .ifCond .eq 79, .aload 0, .iload 1, .bipush 2, .iload 3, .iadd, .iload 5, .iadd, .invokeinterface 206 3, .aload 0, .iload 2, .bipush 2, .iload 5, .iadd, .invokeinterface 206 3, .if_icmp .ne 70, .bipush 1, .goto 71] ls st m := At.eq k309_27
theorem k309_70 : pg.1 309 70 = [.bipush 0, .jsr 71] := rfl
theorem a309_70 {tb : Tab} {d : Nat} {K : Out → AM → Prop} {ls st : List AV} {m : AM} : At tb d 309 K 70 ls st m = wpB tb (pg.2.1 309) (Runs tb pg d) K (At tb d 309 K) [.bipush 0, .jsr 71] ls st m := At.eq k309_70
theorem k309_71 : pg.1 309 71 = [.istore 4, .iinc 5 1, .goto 27] := rfl
theorem a309_71 {tb : Tab} {d : Nat} {K : Out → AM → Prop} {ls st : List AV} {m : AM} : At tb d 309 K 71 ls st m = wpB tb (pg.2.1 309) (Runs tb pg d) K (At tb d 309 K) [.istore 4, .iinc 5 1, .goto 27] ls st m := At.eq k309_71
theorem k309_79 : pg.1 309 79 = [.iload 4, .freturn] := rfl
theorem a309_79 {tb : Tab} {d : Nat} {K : Out → AM → Prop} {ls st : List AV} {m : AM} : At tb d 309 K 79 ls st m = wpB tb (pg.2.1 309) (Runs tb pg d) K (At tb d 309 K) [.iload 4, .freturn] ls st m := At.eq k309_79
theorem q_309 {p o f : Int} (hB : BR S) (hp : 0 ≤ p ∧ p < 6) (ho : 0 ≤ o ∧ o < 6) (hf : 0 ≤ f ∧ f < 6) (hK : ∀ r, yn r (runM (oR S) p o f (oR S o 0)) → K (.inl (some (vi r))) (X S m)) : Runs tb pg (d + 2) 309 [vr 300, vi p, vi o, vi f] (X S m) K := by
  have b4 := (hB.2.2.2.2.1 p hp.1 hp.2).1
  have b6 := (hB.2.2.2.2.1 o ho.1 ho.2).1
  have hL27 : (fun i : Int => ∀ (a : Int), (yn a (runM (oR S) p o f i)) → At tb (d + 1) 309 K 27 [vr 300, vi p, vi o, vi f, vi a, vi i] [] (X S m)) 0 := by
    refine loopZ (fun i : Int => ∀ (a : Int), (yn a (runM (oR S) p o f i)) → At tb (d + 1) 309 K 27 [vr 300, vi p, vi o, vi f, vi a, vi i] [] (X S m)) (oR S o 0) (by omega) ?_ ?_
    · intro i h0 h1 h9 a ha
      have q4 := runM_s (P := oR S) (p := p) (o := o) (f := f) h0
      have q5 : runM (oR S) p o f i → f + oR S o 0 ≤ oR S p 0 := fun z => z.1
      have q6 : runM (oR S) p o f (oR S o 0) → runM (oR S) p o f i := fun z => runM_le (by omega) z
      rw [a309_27]
      repeat' (first | refine h9 _ ?_ | refine hK _ ?_ | simp only [w_iload, w_aload, w_iconst, w_call, w_iadd, w_ifc, R32, cI, Int.reduceToNat, w_goto, w_fall, w_istore, w_if, w_iinc, lgB, Nat.reduceSub, w_zreturn, a309_0, a309_21, a309_22, a309_70, a309_71, a309_79, List.getElem?_cons_zero, List.getElem?_cons_succ, List.set_cons_zero, List.set_cons_succ, List.cons_append, List.nil_append, List.replicate_succ, List.replicate_zero, List.take_succ_cons, List.take_zero, List.drop_succ_cons, List.drop_zero, List.reverse_cons, List.reverse_nil, List.length_cons, List.length_nil, Option.toList, true_and, and_true, eq_self, ↓reduceIte, not_true_eq_false, not_false_eq_true] | refine q_206 hB ?_ ?_ ?_ | refine And.intro ?_ ?_ | intro _)
      all_goals (try (first | omega | contradiction | ((try clear hK); (try clear hK0); (try clear hB); (try clear h9); (try clear h8); (try clear h7); first | omega | grind [yn])))
    · intro a ha
      rw [a309_27]
      repeat' (first | refine hK _ ?_ | simp only [w_iload, w_aload, w_iconst, w_call, w_iadd, w_ifc, R32, cI, Int.reduceToNat, w_goto, w_fall, w_istore, w_if, w_iinc, lgB, Nat.reduceSub, w_zreturn, a309_0, a309_21, a309_22, a309_70, a309_71, a309_79, List.getElem?_cons_zero, List.getElem?_cons_succ, List.set_cons_zero, List.set_cons_succ, List.cons_append, List.nil_append, List.replicate_succ, List.replicate_zero, List.take_succ_cons, List.take_zero, List.drop_succ_cons, List.drop_zero, List.reverse_cons, List.reverse_nil, List.length_cons, List.length_nil, Option.toList, true_and, and_true, eq_self, ↓reduceIte, not_true_eq_false, not_false_eq_true] | refine q_206 hB ?_ ?_ ?_ | refine And.intro ?_ ?_ | intro _)
      all_goals (try (first | omega | contradiction | ((try clear hK); (try clear hK0); (try clear hB); (try clear h9); (try clear h8); (try clear h7); first | omega | grind [yn])))
  refine Runs.of (al := [vr 300, vi p, vi o, vi f]) (n := 2) ⟨300, _, _, rfl, xo_300⟩ rfl rfl trivial ?_
  repeat' (first | refine hL27 _ ?_ | simp only [w_iload, w_aload, w_iconst, w_call, w_iadd, w_ifc, R32, cI, Int.reduceToNat, w_goto, w_fall, w_istore, w_if, w_iinc, lgB, Nat.reduceSub, w_zreturn, a309_0, a309_21, a309_22, a309_70, a309_71, a309_79, List.getElem?_cons_zero, List.getElem?_cons_succ, List.set_cons_zero, List.set_cons_succ, List.cons_append, List.nil_append, List.replicate_succ, List.replicate_zero, List.take_succ_cons, List.take_zero, List.drop_succ_cons, List.drop_zero, List.reverse_cons, List.reverse_nil, List.length_cons, List.length_nil, Option.toList, true_and, and_true, eq_self, ↓reduceIte, not_true_eq_false, not_false_eq_true] | refine q_206 hB ?_ ?_ ?_ | refine And.intro ?_ ?_ | intro _)
  all_goals (try (first | omega | contradiction | ((try clear hK); (try clear hK0); (try clear hB); (try clear h9); (try clear h8); (try clear h7); first | omega | grind [yn, runM_0])))
theorem k310_0 : pg.1 310 0 = [.bipush 0, .istore 3, .bipush 0, .istore 4, .jsr 5] := rfl
theorem a310_0 {tb : Tab} {d : Nat} {K : Out → AM → Prop} {ls st : List AV} {m : AM} : At tb d 310 K 0 ls st m = wpB tb (pg.2.1 310) (Runs tb pg d) K (At tb d 310 K) [.bipush 0, .istore 3, .bipush 0, .istore 4, .jsr 5] ls st m := At.eq k310_0
theorem k310_5 : pg.1 310 5 = [.iload 4, .bipush 6, .if_icmp .ge 39, .iload 3, .ifCond .ne 27, .aload 0, .iload 1, .iload 2, .iload 4, .invokeinterface 309 4, .ifCond .eq 31, .jsr 27] := rfl
theorem a310_5 {tb : Tab} {d : Nat} {K : Out → AM → Prop} {ls st : List AV} {m : AM} : At tb d 310 K 5 ls st m = wpB tb (pg.2.1 310) (Runs tb pg d) K (At tb d 310 K) [.iload 4, .bipush 6, .if_icmp .ge 39, .iload 3, .ifCond .ne 27, .aload 0, .iload 1, .iload 2, .iload 4, .invokeinterface 309 4, .ifCond .eq 31, .jsr 27] ls st m := At.eq k310_5
theorem k310_27 : pg.1 310 27 = [.bipush 1, .goto 32] := rfl
theorem a310_27 {tb : Tab} {d : Nat} {K : Out → AM → Prop} {ls st : List AV} {m : AM} : At tb d 310 K 27 ls st m = wpB tb (pg.2.1 310) (Runs tb pg d) K (At tb d 310 K) [.bipush 1, .goto 32] ls st m := At.eq k310_27
theorem k310_31 : pg.1 310 31 = [.bipush 0, .jsr 32] := rfl
theorem a310_31 {tb : Tab} {d : Nat} {K : Out → AM → Prop} {ls st : List AV} {m : AM} : At tb d 310 K 31 ls st m = wpB tb (pg.2.1 310) (Runs tb pg d) K (At tb d 310 K) [.bipush 0, .jsr 32] ls st m := At.eq k310_31
theorem k310_32 : pg.1 310 32 = [.istore 3, .iinc 4 1, .goto 5] := rfl
theorem a310_32 {tb : Tab} {d : Nat} {K : Out → AM → Prop} {ls st : List AV} {m : AM} : At tb d 310 K 32 ls st m = wpB tb (pg.2.1 310) (Runs tb pg d) K (At tb d 310 K) [.istore 3, .iinc 4 1, .goto 5] ls st m := At.eq k310_32
theorem k310_39 : pg.1 310 39 = [.iload 3, .freturn] := rfl
theorem a310_39 {tb : Tab} {d : Nat} {K : Out → AM → Prop} {ls st : List AV} {m : AM} : At tb d 310 K 39 ls st m = wpB tb (pg.2.1 310) (Runs tb pg d) K (At tb d 310 K) [.iload 3, .freturn] ls st m := At.eq k310_39
theorem q_310 {p o : Int} (hB : BR S) (hp : 0 ≤ p ∧ p < 6) (ho : 0 ≤ o ∧ o < 6) (hK : ∀ r, yn r (holdsM (oR S) p o 6) → K (.inl (some (vi r))) (X S m)) : Runs tb pg (d + 3) 310 [vr 300, vi p, vi o] (X S m) K := by
  have hL5 : (fun i : Int => ∀ (a : Int), (yn a (holdsM (oR S) p o i)) → At tb (d + 2) 310 K 5 [vr 300, vi p, vi o, vi a, vi i] [] (X S m)) 0 := by
    refine loopZ (fun i : Int => ∀ (a : Int), (yn a (holdsM (oR S) p o i)) → At tb (d + 2) 310 K 5 [vr 300, vi p, vi o, vi a, vi i] [] (X S m)) (6) (by omega) ?_ ?_
    · intro i h0 h1 h9 a ha
      rw [a310_5]
      repeat' (first | refine h9 _ ?_ | simp only [w_iconst, w_istore, w_fall, Int.reduceToNat, w_iload, w_ifc, R32, cI, w_if, w_aload, w_call, w_goto, w_iinc, lgB, Nat.reduceSub, w_zreturn, a310_0, a310_27, a310_31, a310_32, a310_39, List.getElem?_cons_zero, List.getElem?_cons_succ, List.set_cons_zero, List.set_cons_succ, List.cons_append, List.nil_append, List.replicate_succ, List.replicate_zero, List.take_succ_cons, List.take_zero, List.drop_succ_cons, List.drop_zero, List.reverse_cons, List.reverse_nil, List.length_cons, List.length_nil, Option.toList, true_and, and_true, eq_self, ↓reduceIte, not_true_eq_false, not_false_eq_true] | refine q_309 hB ?_ ?_ ?_ ?_ | refine And.intro ?_ ?_ | intro _)
      all_goals (try (first | omega | contradiction | ((try clear hK); (try clear hK0); (try clear hB); (try clear h9); (try clear h8); (try clear h7); first | omega | grind [yn, holdsM_s])))
    · intro a ha
      rw [a310_5]
      repeat' (first | refine hK _ ?_ | simp only [w_iconst, w_istore, w_fall, Int.reduceToNat, w_iload, w_ifc, R32, cI, w_if, w_aload, w_call, w_goto, w_iinc, lgB, Nat.reduceSub, w_zreturn, a310_0, a310_27, a310_31, a310_32, a310_39, List.getElem?_cons_zero, List.getElem?_cons_succ, List.set_cons_zero, List.set_cons_succ, List.cons_append, List.nil_append, List.replicate_succ, List.replicate_zero, List.take_succ_cons, List.take_zero, List.drop_succ_cons, List.drop_zero, List.reverse_cons, List.reverse_nil, List.length_cons, List.length_nil, Option.toList, true_and, and_true, eq_self, ↓reduceIte, not_true_eq_false, not_false_eq_true] | refine q_309 hB ?_ ?_ ?_ ?_ | refine And.intro ?_ ?_ | intro _)
      all_goals (try (first | omega | contradiction | ((try clear hK); (try clear hK0); (try clear hB); (try clear h9); (try clear h8); (try clear h7); first | omega | grind [yn])))
  refine Runs.of (al := [vr 300, vi p, vi o]) (n := 2) ⟨300, _, _, rfl, xo_300⟩ rfl rfl trivial ?_
  repeat' (first | refine hL5 _ ?_ | simp only [w_iconst, w_istore, w_fall, Int.reduceToNat, w_iload, w_ifc, R32, cI, w_if, w_aload, w_call, w_goto, w_iinc, lgB, Nat.reduceSub, w_zreturn, a310_0, a310_27, a310_31, a310_32, a310_39, List.getElem?_cons_zero, List.getElem?_cons_succ, List.set_cons_zero, List.set_cons_succ, List.cons_append, List.nil_append, List.replicate_succ, List.replicate_zero, List.take_succ_cons, List.take_zero, List.drop_succ_cons, List.drop_zero, List.reverse_cons, List.reverse_nil, List.length_cons, List.length_nil, Option.toList, true_and, and_true, eq_self, ↓reduceIte, not_true_eq_false, not_false_eq_true] | refine q_309 hB ?_ ?_ ?_ ?_ | refine And.intro ?_ ?_ | intro _)
  all_goals (try (first | omega | contradiction | ((try clear hK); (try clear hK0); (try clear hB); (try clear h9); (try clear h8); (try clear h7); first | omega | grind [yn, holdsM_0])))
end Ref3
