/-! ===== THE REFERENCE: together, first, led, odds ===== -/
def mnM (P : Int → Int → Int) (p o : Int) : Int := if P p 0 < P o 0 then P p 0 else P o 0
/-- which of two names goes first when they are run together -/
def selA (P : Int → Int → Int) (p o a : Int) : Prop := ∃ s1 s2, isOv P o p (mnM P o p + 1) s1 ∧ isOv P p o (mnM P p o + 1) s2 ∧ ((holdsM P p o 6 ∧ a = p) ∨ (¬ holdsM P p o 6 ∧ holdsM P o p 6 ∧ a = o) ∨ (¬ holdsM P p o 6 ∧ ¬ holdsM P o p 6 ∧ ((s2 < s1 ∧ a = o) ∨ (s1 ≤ s2 ∧ a = p))))
def lenT (P : Int → Int → Int) (a b n : Int) : Prop := (holdsM P a b 6 ∧ n = P a 0) ∨ (¬ holdsM P a b 6 ∧ ∃ s, isOv P a b (mnM P a b + 1) s ∧ 0 ≤ s ∧ s ≤ P a 0 ∧ s ≤ P b 0 ∧ n = P a 0 + P b 0 - s)
def togV (P : Int → Int → Int) (a b n k r : Int) : Prop := (k = -1 ∧ r = n) ∨ (k ≠ -1 ∧ ¬ (0 ≤ k ∧ k < n) ∧ r = -1) ∨ (k ≠ -1 ∧ (0 ≤ k ∧ k < n) ∧ ((k < P a 0 ∧ r = P a (2 + k)) ∨ (P a 0 ≤ k ∧ r = P b (2 + k - n + P b 0))))
def frM (P : Int → Int → Int) (all k : Int) : Prop := (1 ≤ k % 10 ∧ k % 10 ≤ 2) ∧ k / 10 % 10 + k % 10 ≤ leftM P (k / 100) (P (k / 100) 0) ∧ all ≠ 0 ∧ xorI (xorI (xorI all (worthZ (leftM P (k / 100) (P (k / 100) 0)))) (worthZ (k / 10 % 10))) (worthZ (leftM P (k / 100) (P (k / 100) 0) - k / 10 % 10 - k % 10)) = 0
def prodN (f : Int → Int) (a : Int) : Nat → Int
  | 0 => a
  | n + 1 => prodN f a n * f n
def prodZ (a n : Int) (f : Int → Int) : Int := prodN f a n.toNat
theorem prodZ_s {a i : Int} {f : Int → Int} (h : 0 ≤ i) : prodZ a (i + 1) f = prodZ a i f * f i := by
  unfold prodZ
  rw [show (i + 1).toNat = i.toNat + 1 by omega]
  show prodN f a i.toNat * f (i.toNat : Int) = _
  rw [Int.toNat_of_nonneg h]
/-- the odds of one set of days with hares, in so many parts of a hundred to the n -/
def od1 (n k h s : Int) : Int := prodZ (if bitsM s 31 < k then 0 else 1) n fun i => if bitB s i then h else 100 - h
def odR (n k h : Int) : Int := sumZ (pw n) (od1 n k h)
def odW (n : Int) : Int := prodZ 1 n fun _ => 100
theorem prodZ_bd {a n : Int} {f : Int → Int} (ha : 0 ≤ a ∧ a ≤ 1) (h : ∀ i, 0 ≤ i → 0 ≤ f i ∧ f i ≤ 100) : 0 ≤ prodZ a n f ∧ prodZ a n f ≤ 100 ^ n.toNat := by
  unfold prodZ
  induction n.toNat with
  | zero => exact ha
  | succ k ih =>
    have h1 := h k (by omega)
    show 0 ≤ prodN f a k * f k ∧ prodN f a k * f k ≤ 100 ^ (k + 1)
    rw [Int.pow_succ]
    exact ⟨Int.mul_nonneg ih.1 h1.1, Int.mul_le_mul ih.2 h1.2 h1.1 (Int.le_trans ih.1 ih.2)⟩
theorem pow100 : ∀ n : Fin 6, (100 : Int) ^ (n : Nat) ≤ 10000000000 ∧ 1 ≤ (100 : Int) ^ (n : Nat) ∧ pw (n : Nat) ≤ 32 := by decide +kernel
theorem odW_eq : ∀ n : Fin 6, odW (n : Nat) = 100 ^ (n : Nat) := by decide +kernel
theorem od1_bd {n k h s : Int} (n0 : 0 ≤ n) (n1 : n < 6) (h0 : 0 ≤ h) (h1 : h < 101) : 0 ≤ od1 n k h s ∧ od1 n k h s ≤ 10000000000 := by
  have q := (pow100 ⟨n.toNat, by omega⟩).1
  have := prodZ_bd (a := if bitsM s 31 < k then 0 else 1) (n := n) (f := fun i => if bitB s i then h else 100 - h) (by split <;> decide) (fun i _ => by split <;> omega)
  unfold od1
  exact ⟨this.1, Int.le_trans this.2 q⟩
theorem od_bd2 {n k h : Int} (n0 : 0 ≤ n) (n1 : n < 6) (h0 : 0 ≤ h) (h1 : h < 101) : (0 ≤ odR n k h ∧ odR n k h ≤ 320000000000) ∧ 0 < odW n ∧ odW n ≤ 10000000000 := by
  have q := pow100 ⟨n.toNat, by omega⟩
  have w := odW_eq ⟨n.toNat, by omega⟩
  dsimp only at q w
  rw [Int.toNat_of_nonneg n0] at q w
  have p0 := pw_pos n
  have := sumZ_le (f := od1 n k h) (n := pw n) (a := 0) (b := 10000000000) (by omega) (fun i _ _ => od1_bd n0 n1 h0 h1)
  unfold odR
  omega
section Ref8
variable {tb : Tab} {d : Nat} {m : AM} {K : Out → AM → Prop} {S : Nat → Int → Int}
theorem k341_0 : pg.1 341 0 = [.aload 0, .aload 0, .iload 1, .invokeinterface 210 2, .ifCond .ne 13, .bipush 1, .goto 14] := rfl
theorem a341_0 {tb : Tab} {d : Nat} {K : Out → AM → Prop} {ls st : List AV} {m : AM} : At tb d 341 K 0 ls st m = wpB tb (pg.2.1 341) (Runs tb pg d) K (At tb d 341 K) [.aload 0, .aload 0, .iload 1, .invokeinterface 210 2, .ifCond .ne 13, .bipush 1, .goto 14] ls st m := At.eq k341_0
theorem k341_13 : pg.1 341 13 = [.bipush 0, .jsr 14] := rfl
theorem a341_13 {tb : Tab} {d : Nat} {K : Out → AM → Prop} {ls st : List AV} {m : AM} : At tb d 341 K 13 ls st m = wpB tb (pg.2.1 341) (Runs tb pg d) K (At tb d 341 K) [.bipush 0, .jsr 14] ls st m := At.eq k341_13
theorem k341_14 : pg.1 341 14 = [.putfield 1000, .aload 0, .getfield 1000, .ifCond .le 26, .bipush 0, .ireturn] := rfl
theorem a341_14 {tb : Tab} {d : Nat} {K : Out → AM → Prop} {ls st : List AV} {m : AM} : At tb d 341 K 14 ls st m = wpB tb (pg.2.1 341) (Runs tb pg d) K (At tb d 341 K) [.putfield 1000, .aload 0, .getfield 1000, .ifCond .le 26, .bipush 0, .ireturn] ls st m := At.eq k341_14
theorem k341_26 : pg.1 341 26 = [.bipush 0, .istore 3, .bipush (-1), .istore 4, .aload 0, .getfield 1001, .bipush 11, .iaload, .bipush 1, .isub, .istore 5, .jsr 42] := rfl
theorem a341_26 {tb : Tab} {d : Nat} {K : Out → AM → Prop} {ls st : List AV} {m : AM} : At tb d 341 K 26 ls st m = wpB tb (pg.2.1 341) (Runs tb pg d) K (At tb d 341 K) [.bipush 0, .istore 3, .bipush (-1), .istore 4, .aload 0, .getfield 1001, .bipush 11, .iaload, .bipush 1, .isub, .istore 5, .jsr 42] ls st m := At.eq k341_26
theorem k341_42 : pg.1 341 42 = [.iload 5, .ifCond .lt 79, .aload 0, .iload 5, .bipush 1, .invokeinterface 340 3, .iload 1, .if_icmp .eq 61, .goto 73] := rfl
theorem a341_42 {tb : Tab} {d : Nat} {K : Out → AM → Prop} {ls st : List AV} {m : AM} : At tb d 341 K 42 ls st m = wpB tb (pg.2.1 341) (Runs tb pg d) K (At tb d 341 K) [.iload 5, .ifCond .lt 79, .aload 0, .iload 5, .bipush 1, .invokeinterface 340 3, .iload 1, .if_icmp .eq 61, .goto 73] ls st m := At.eq k341_42
theorem k341_61 : pg.1 341 61 = [.iinc 3 1, .aload 0, .iload 5, .bipush 0, .invokeinterface 340 3, .istore 4, .jsr 73] := rfl
theorem a341_61 {tb : Tab} {d : Nat} {K : Out → AM → Prop} {ls st : List AV} {m : AM} : At tb d 341 K 61 ls st m = wpB tb (pg.2.1 341) (Runs tb pg d) K (At tb d 341 K) [.iinc 3 1, .aload 0, .iload 5, .bipush 0, .invokeinterface 340 3, .istore 4, .jsr 73] ls st m := At.eq k341_61
theorem k341_73 : pg.1 341 73 = [.iinc 5 (-1), .goto 42] := rfl
theorem a341_73 {tb : Tab} {d : Nat} {K : Out → AM → Prop} {ls st : List AV} {m : AM} : At tb d 341 K 73 ls st m = wpB tb (pg.2.1 341) (Runs tb pg d) K (At tb d 341 K) [.iinc 5 (-1), .goto 42] ls st m := At.eq k341_73
theorem k341_79 : pg.1 341 79 = [.iload 2, .ifCond .eq 88, .iload 4, .goto 89] := rfl
theorem a341_79 {tb : Tab} {d : Nat} {K : Out → AM → Prop} {ls st : List AV} {m : AM} : At tb d 341 K 79 ls st m = wpB tb (pg.2.1 341) (Runs tb pg d) K (At tb d 341 K) [.iload 2, .ifCond .eq 88, .iload 4, .goto 89] ls st m := At.eq k341_79
theorem k341_88 : pg.1 341 88 = [.iload 3, .jsr 89] := rfl
theorem a341_88 {tb : Tab} {d : Nat} {K : Out → AM → Prop} {ls st : List AV} {m : AM} : At tb d 341 K 88 ls st m = wpB tb (pg.2.1 341) (Runs tb pg d) K (At tb d 341 K) [.iload 3, .jsr 89] ls st m := At.eq k341_88
theorem k341_89 : pg.1 341 89 = [.ireturn] := rfl
theorem a341_89 {tb : Tab} {d : Nat} {K : Out → AM → Prop} {ls st : List AV} {m : AM} : At tb d 341 K 89 ls st m = wpB tb (pg.2.1 341) (Runs tb pg d) K (At tb d 341 K) [.ireturn] ls st m := At.eq k341_89
theorem q_341 {p w : Int} (hB : BR S) (hC : CR S) (hp : R32 p) (hw : R32 w) (hK1 : ¬ (0 ≤ p ∧ p < S 301 4) → K (.inl (some (vi 0))) (X (upS S 300 0 1) m)) (hK : ∀ r, (0 ≤ p ∧ p < S 301 4) → (w = 0 → r = sumZ (S 301 11) (fun k => if lgR S k 1 = p then 1 else 0)) → (w ≠ 0 → (r = -1 ∧ ∀ k, 0 ≤ k → k < S 301 11 → lgR S k 1 ≠ p) ∨ (∃ q, 0 ≤ q ∧ q < S 301 11 ∧ lgR S q 1 = p ∧ r = lgR S q 0 ∧ ∀ k, 0 ≤ k → k < q → lgR S k 1 ≠ p)) → K (.inl (some (vi r))) (X (upS S 300 0 0) m)) : Runs tb pg (d + 3) 341 [vr 300, vi p, vi w] (X S m) K := by
  unfold R32 at hp hw
  have c11 := hC.2.2.2.1
  have u := fun (i : Int) (h : 0 ≤ i) => sumZ_le (f := fun k => if lgR S k 1 = p then 1 else 0) (n := i) (a := 0) (b := 1) h (fun i _ _ => by split <;> omega)
  have hL42 : (fun i : Int => ∀ (n : Int) (a : Int) (b : Int), n = S 301 11 - 1 - i → a = sumZ (S 301 11) (fun k => if lgR S k 1 = p then 1 else 0) - sumZ (S 301 11 - i) (fun k => if lgR S k 1 = p then 1 else 0) → ((b = -1 ∧ ∀ k, S 301 11 - i ≤ k → k < S 301 11 → lgR S k 1 ≠ p) ∨ (∃ q, S 301 11 - i ≤ q ∧ q < S 301 11 ∧ lgR S q 1 = p ∧ b = lgR S q 0 ∧ ∀ k, S 301 11 - i ≤ k → k < q → lgR S k 1 ≠ p)) → (0 ≤ p ∧ p < S 301 4) → At tb (d + 2) 341 K 42 [vr 300, vi p, vi w, vi a, vi b, vi n] [] (X (upS S 300 0 0) m)) 0 := by
    refine loopZ (fun i : Int => ∀ (n : Int) (a : Int) (b : Int), n = S 301 11 - 1 - i → a = sumZ (S 301 11) (fun k => if lgR S k 1 = p then 1 else 0) - sumZ (S 301 11 - i) (fun k => if lgR S k 1 = p then 1 else 0) → ((b = -1 ∧ ∀ k, S 301 11 - i ≤ k → k < S 301 11 → lgR S k 1 ≠ p) ∨ (∃ q, S 301 11 - i ≤ q ∧ q < S 301 11 ∧ lgR S q 1 = p ∧ b = lgR S q 0 ∧ ∀ k, S 301 11 - i ≤ k → k < q → lgR S k 1 ≠ p)) → (0 ≤ p ∧ p < S 301 4) → At tb (d + 2) 341 K 42 [vr 300, vi p, vi w, vi a, vi b, vi n] [] (X (upS S 300 0 0) m)) (S 301 11) (by omega) ?_ ?_
    · intro i h0 h1 h9 n a b hn ha hb hr
      have q1 := sumZ_s (f := fun k => if lgR S k 1 = p then 1 else 0) (show 0 ≤ S 301 11 - 1 - i by omega)
      rw [show S 301 11 - 1 - i + 1 = S 301 11 - i by omega] at q1
      rw [show S 301 11 - 1 - i = S 301 11 - (i + 1) by omega] at q1 hn
      rw [a341_42]
      repeat' (first | refine h9 _ _ _ ?_ ?_ ?_ ?_ | simp only [w_aload, w_iload, w_call, w_if, cI, Int.reduceToNat, w_iconst, w_goto, w_fall, x_p1000_300, x_g1000_300, w_ireturn, w_istore, x_g1001_300, x_iald, w_ialoads, w_ialoadw, w_isub, w_ifc, w_iinc, lgB, Nat.reduceSub, isA_301, isA_302, isA_303, isA_304, isA_305, isA_306, isA_307, isA_308, isA_309, isA_310, isA_311, isA_312, isA_313, isA_314, isA_315, len_301, len_302, len_303, len_304, len_305, len_306, len_307, len_308, len_309, len_310, len_311, len_312, len_313, len_314, len_315, Int.cast_ofNat_Int, a341_0, a341_13, a341_14, a341_26, a341_61, a341_73, a341_79, a341_88, a341_89, R32, List.getElem?_cons_zero, List.getElem?_cons_succ, List.set_cons_zero, List.set_cons_succ, List.cons_append, List.nil_append, List.replicate_succ, List.replicate_zero, List.take_succ_cons, List.take_zero, List.drop_succ_cons, List.drop_zero, List.reverse_cons, List.reverse_nil, List.length_cons, List.length_nil, Option.toList, true_and, and_true, eq_self, ↓reduceIte, not_true_eq_false, not_false_eq_true, upS_at, up300, up300b, oR3, fR3, dR3, lgR3, valM3, Int.reduceEq, Nat.reduceEqDiff, and_self, and_true, and_false, false_and, if_true, if_false] | refine q_210 hB ?_ ?_ | refine q_210 (BR3 hB) ?_ ?_ | refine q_340 hB ?_ ?_ (fun _ _ => ?_) | refine q_340 (BR3 hB) ?_ ?_ (fun _ _ => ?_) | with_reducible refine And.intro ?_ ?_ | with_reducible intro _)
      all_goals (try (first | omega | contradiction | ((try clear hK); (try clear hK0); (try clear hB); (try clear h9); (try clear h8); (try clear h7); (try simp only [oR3, fR3, dR3, lgR3, valM3, up300, up300b] at *); first | omega | grind)))
    · intro n a b hn ha hb hr
      rw [a341_42]
      repeat' (first | refine hK _ ?_ ?_ ?_ | simp only [w_aload, w_iload, w_call, w_if, cI, Int.reduceToNat, w_iconst, w_goto, w_fall, x_p1000_300, x_g1000_300, w_ireturn, w_istore, x_g1001_300, x_iald, w_ialoads, w_ialoadw, w_isub, w_ifc, w_iinc, lgB, Nat.reduceSub, isA_301, isA_302, isA_303, isA_304, isA_305, isA_306, isA_307, isA_308, isA_309, isA_310, isA_311, isA_312, isA_313, isA_314, isA_315, len_301, len_302, len_303, len_304, len_305, len_306, len_307, len_308, len_309, len_310, len_311, len_312, len_313, len_314, len_315, Int.cast_ofNat_Int, a341_0, a341_13, a341_14, a341_26, a341_61, a341_73, a341_79, a341_88, a341_89, R32, List.getElem?_cons_zero, List.getElem?_cons_succ, List.set_cons_zero, List.set_cons_succ, List.cons_append, List.nil_append, List.replicate_succ, List.replicate_zero, List.take_succ_cons, List.take_zero, List.drop_succ_cons, List.drop_zero, List.reverse_cons, List.reverse_nil, List.length_cons, List.length_nil, Option.toList, true_and, and_true, eq_self, ↓reduceIte, not_true_eq_false, not_false_eq_true, upS_at, up300, up300b, oR3, fR3, dR3, lgR3, valM3, Int.reduceEq, Nat.reduceEqDiff, and_self, and_true, and_false, false_and, if_true, if_false] | refine q_210 hB ?_ ?_ | refine q_210 (BR3 hB) ?_ ?_ | refine q_340 hB ?_ ?_ (fun _ _ => ?_) | refine q_340 (BR3 hB) ?_ ?_ (fun _ _ => ?_) | with_reducible refine And.intro ?_ ?_ | with_reducible intro _)
      all_goals (try (first | omega | contradiction | ((try clear hK); (try clear hK0); (try clear hB); (try clear h9); (try clear h8); (try clear h7); (try simp only [oR3, fR3, dR3, lgR3, valM3, up300, up300b] at *); first | omega | (rw [show S 301 11 - S 301 11 = 0 by omega] at *; rw [sumZ_0] at *; grind))))
  refine Runs.of (al := [vr 300, vi p, vi w]) (n := 3) ⟨300, _, _, rfl, xo_300⟩ rfl rfl trivial ?_
  repeat' (first | refine hL42 _ _ _ ?_ ?_ ?_ ?_ | refine hK1 ?_ | simp only [w_aload, w_iload, w_call, w_if, cI, Int.reduceToNat, w_iconst, w_goto, w_fall, x_p1000_300, x_g1000_300, w_ireturn, w_istore, x_g1001_300, x_iald, w_ialoads, w_ialoadw, w_isub, w_ifc, w_iinc, lgB, Nat.reduceSub, isA_301, isA_302, isA_303, isA_304, isA_305, isA_306, isA_307, isA_308, isA_309, isA_310, isA_311, isA_312, isA_313, isA_314, isA_315, len_301, len_302, len_303, len_304, len_305, len_306, len_307, len_308, len_309, len_310, len_311, len_312, len_313, len_314, len_315, Int.cast_ofNat_Int, a341_0, a341_13, a341_14, a341_26, a341_61, a341_73, a341_79, a341_88, a341_89, R32, List.getElem?_cons_zero, List.getElem?_cons_succ, List.set_cons_zero, List.set_cons_succ, List.cons_append, List.nil_append, List.replicate_succ, List.replicate_zero, List.take_succ_cons, List.take_zero, List.drop_succ_cons, List.drop_zero, List.reverse_cons, List.reverse_nil, List.length_cons, List.length_nil, Option.toList, true_and, and_true, eq_self, ↓reduceIte, not_true_eq_false, not_false_eq_true, upS_at, up300, up300b, oR3, fR3, dR3, lgR3, valM3, Int.reduceEq, Nat.reduceEqDiff, and_self, and_true, and_false, false_and, if_true, if_false] | refine q_210 hB ?_ ?_ | refine q_210 (BR3 hB) ?_ ?_ | refine q_340 hB ?_ ?_ (fun _ _ => ?_) | refine q_340 (BR3 hB) ?_ ?_ (fun _ _ => ?_) | with_reducible refine And.intro ?_ ?_ | with_reducible intro _)
  all_goals (try (first | omega | contradiction | ((try clear hK); (try clear hK0); (try clear hB); (try clear h9); (try clear h8); (try clear h7); (try simp only [oR3, fR3, dR3, lgR3, valM3, up300, up300b] at *); first | omega | grind)))
def noB (c : Int → Prop) (i : Int) : Prop := ∀ k, 0 ≤ k → k < i → ¬ c k
theorem noB_0 {c : Int → Prop} : noB c 0 := fun k h0 h1 => by omega
theorem noB_s {c : Int → Prop} {i : Int} (hc : noB c i) (h : ¬ c i) : noB c (i + 1) := by
  intro k h0 h1
  by_cases e : k = i
  · subst e; exact h
  · exact hc k h0 (by omega)
theorem fr_of {P : Int → Int → Int} {n i L : Int} (hL : L = leftM P (i / 100) (P (i / 100) 0)) : frM P n i ↔ (1 ≤ i % 10 ∧ i % 10 ≤ 2) ∧ i / 10 % 10 + i % 10 ≤ L ∧ n ≠ 0 ∧ xorI (xorI (xorI n (worthZ L)) (worthZ (i / 10 % 10))) (worthZ (L - i / 10 % 10 - i % 10)) = 0 := by
  subst hL
  exact Iff.rfl
theorem k321_0 : pg.1 321 0 = [.aload 0, .bipush 0, .putfield 1000, .aload 0, .invokeinterface 319 1, .istore 1, .bipush 0, .istore 2, .jsr 12] := rfl
theorem a321_0 {tb : Tab} {d : Nat} {K : Out → AM → Prop} {ls st : List AV} {m : AM} : At tb d 321 K 0 ls st m = wpB tb (pg.2.1 321) (Runs tb pg d) K (At tb d 321 K) [.aload 0, .bipush 0, .putfield 1000, .aload 0, .invokeinterface 319 1, .istore 1, .bipush 0, .istore 2, .jsr 12] ls st m := At.eq k321_0
theorem k321_12 : pg.1 321 12 = [.iload 2, .bipush 100, .aload 0, .getfield 1001, .bipush 4, .iaload, .imul, .if_icmp .ge 115, .aload 0, .iload 2, .bipush 100, .idiv, .invokeinterface 213 2, .istore 3, .iload 2, .bipush 10, .idiv, .bipush 10, .irem, .istore 4, .iload 2, .bipush 10, .irem, .istore 5, .iload 5, .bipush 1, .bipush 2, .invokeinterface 200 3, .ifCond .eq 109, .iload 4, .iload 5, .iadd, .iload 3, .if_icmp .gt 109, .iload 1, .ifCond .ne 75, .goto 109] := rfl
theorem a321_12 {tb : Tab} {d : Nat} {K : Out → AM → Prop} {ls st : List AV} {m : AM} : At tb d 321 K 12 ls st m = wpB tb (pg.2.1 321) (Runs tb pg d) K (At tb d 321 K) [.iload 2, .bipush 100, .aload 0, .getfield 1001, .bipush 4, .iaload, .imul, .if_icmp .ge 115, .aload 0, .iload 2, .bipush 100, .idiv, .invokeinterface 213 2, .istore 3, .iload 2, .bipush 10, .idiv, .bipush 10, .irem, .istore 4, .iload 2, .bipush 10, .irem, .istore 5, .iload 5, .bipush 1, .bipush 2, .invokeinterface 200 3, .ifCond .eq 109, .iload 4, .iload 5, .iadd, .iload 3, .if_icmp .gt 109, .iload 1, .ifCond .ne 75, .goto 109] ls st m := At.eq k321_12
theorem k321_75 : pg.1 321 75 = [.iload 1, .aload 0, .getfield 1025, .iload 3, .iaload, .ixor, .aload 0, .getfield 1025, .iload 4, .iaload, .ixor, .aload 0, .getfield 1025, .iload 3, .iload 4, .isub, .iload 5, .isub, .iaload, .ixor, .ifCond .ne 109, .iload 2, .ireturn] := rfl
theorem a321_75 {tb : Tab} {d : Nat} {K : Out → AM → Prop} {ls st : List AV} {m : AM} : At tb d 321 K 75 ls st m = wpB tb (pg.2.1 321) (Runs tb pg d) K (At tb d 321 K) [.iload 1, .aload 0, .getfield 1025, .iload 3, .iaload, .ixor, .aload 0, .getfield 1025, .iload 4, .iaload, .ixor, .aload 0, .getfield 1025, .iload 3, .iload 4, .isub, .iload 5, .isub, .iaload, .ixor, .ifCond .ne 109, .iload 2, .ireturn] ls st m := At.eq k321_75
theorem k321_109 : pg.1 321 109 = [.iinc 2 1, .goto 12] := rfl
theorem a321_109 {tb : Tab} {d : Nat} {K : Out → AM → Prop} {ls st : List AV} {m : AM} : At tb d 321 K 109 ls st m = wpB tb (pg.2.1 321) (Runs tb pg d) K (At tb d 321 K) [.iinc 2 1, .goto 12] ls st m := At.eq k321_109
theorem k321_115 : pg.1 321 115 = [.bipush (-1), .ireturn] := rfl
theorem a321_115 {tb : Tab} {d : Nat} {K : Out → AM → Prop} {ls st : List AV} {m : AM} : At tb d 321 K 115 ls st m = wpB tb (pg.2.1 321) (Runs tb pg d) K (At tb d 321 K) [.bipush (-1), .ireturn] ls st m := At.eq k321_115
theorem q_321 (hB : BR S) (hG : GR S)  (hK : ∀ r, isFst (frM (oR S) (nimM (oR S) (S 301 4))) (100 * S 301 4) r → K (.inl (some (vi r))) (X (upS S 300 0 0) m)) : Runs tb pg (d + 5) 321 [vr 300] (X S m) K := by
  have b4 := hB.2.2.1
  have hL12 : (fun i : Int => ∀ (z3 : AV) (z4 : AV) (z5 : AV) (n : Int), n = nimM (oR S) (S 301 4) → (noB (frM (oR S) n) i) → At tb (d + 4) 321 K 12 [vr 300, vi n, vi i, z3, z4, z5] [] (X (upS S 300 0 0) m)) 0 := by
    refine loopZ (fun i : Int => ∀ (z3 : AV) (z4 : AV) (z5 : AV) (n : Int), n = nimM (oR S) (S 301 4) → (noB (frM (oR S) n) i) → At tb (d + 4) 321 K 12 [vr 300, vi n, vi i, z3, z4, z5] [] (X (upS S 300 0 0) m)) (100 * S 301 4) (by omega) ?_ ?_
    · intro i h0 h1 h9 z3 z4 z5 n hn hc
      have u := nimM_R (oR S) (S 301 4)
      rw [← hn] at u
      have b6 := (hB.2.2.2.2.1 (i / 100) (by omega) (by omega)).1
      have q1 := leftM_le (P := oR S) (p := i / 100) b6.1
      obtain ⟨L, eL⟩ : ∃ L, L = leftM (oR S) (i / 100) (oR S (i / 100) 0) := ⟨_, rfl⟩
      have q5 := fr_of (n := n) eL
      rw [← eL] at q1
      have q3 : ∀ j, 0 ≤ j → j < 7 → S 312 j = worthZ j := fun j a b => hG j a b
      have q6 := q3 L (by omega) (by omega)
      have q7 : i / 10 % 10 + i % 10 ≤ L → S 312 (i / 10 % 10) = worthZ (i / 10 % 10) := fun z => q3 _ (by omega) (by omega)
      have q8 : i / 10 % 10 + i % 10 ≤ L → S 312 (L - i / 10 % 10 - i % 10) = worthZ (L - i / 10 % 10 - i % 10) := fun z => q3 _ (by omega) (by omega)
      have q4 := xorI_R
      rw [a321_12]
      repeat' (first | refine h9 _ _ _ _ ?_ ?_ | refine hK _ ?_ | simp only [w_aload, w_iconst, x_p1000_300, w_call, w_istore, w_fall, Int.reduceToNat, w_iload, x_g1001_300, x_iald, w_ialoads, w_ialoadw, w_imul, w_ifc, cI, w_idiv, w_irem, w_if, w_iadd, w_goto, x_g1025_300, w_ixor, w_isub, w_ireturn, w_iinc, lgB, Nat.reduceSub, isA_301, isA_302, isA_303, isA_304, isA_305, isA_306, isA_307, isA_308, isA_309, isA_310, isA_311, isA_312, isA_313, isA_314, isA_315, len_301, len_302, len_303, len_304, len_305, len_306, len_307, len_308, len_309, len_310, len_311, len_312, len_313, len_314, len_315, Int.cast_ofNat_Int, a321_0, a321_75, a321_109, a321_115, R32, List.getElem?_cons_zero, List.getElem?_cons_succ, List.set_cons_zero, List.set_cons_succ, List.cons_append, List.nil_append, List.replicate_succ, List.replicate_zero, List.take_succ_cons, List.take_zero, List.drop_succ_cons, List.drop_zero, List.reverse_cons, List.reverse_nil, List.length_cons, List.length_nil, Option.toList, true_and, and_true, eq_self, ↓reduceIte, not_true_eq_false, not_false_eq_true, upS_at, up300, up300b, oR3, fR3, dR3, lgR3, valM3, Int.reduceEq, Nat.reduceEqDiff, and_self, and_true, and_false, false_and, if_true, if_false] | refine q_200 ?_ ?_ ?_ ?_ | refine q_213 hB ?_ ?_ | refine q_213 (BR3 hB) ?_ ?_ | refine q_319 hB hG (fun _ _ => ?_) | refine q_319 (BR3 hB) (GR3 hG) (fun _ _ => ?_) | with_reducible refine And.intro ?_ ?_ | with_reducible intro _)
      all_goals (try (first | omega | contradiction | ((try clear hK); (try clear hK0); (try clear hB); (try clear h9); (try clear h8); (try clear h7); (try simp only [oR3, fR3, dR3, lgR3, valM3, up300, up300b] at *); first | omega | exact hn | (refine noB_s hc ?_; clear hc q3 q4; grind) | (rw [← hn]; refine Or.inr ⟨h0, h1, ?_, hc⟩; clear hc q3 q4; grind) | (clear hc q3; grind))))
    · intro z3 z4 z5 n hn hc
      rw [a321_12]
      repeat' (first | refine hK _ ?_ | simp only [w_aload, w_iconst, x_p1000_300, w_call, w_istore, w_fall, Int.reduceToNat, w_iload, x_g1001_300, x_iald, w_ialoads, w_ialoadw, w_imul, w_ifc, cI, w_idiv, w_irem, w_if, w_iadd, w_goto, x_g1025_300, w_ixor, w_isub, w_ireturn, w_iinc, lgB, Nat.reduceSub, isA_301, isA_302, isA_303, isA_304, isA_305, isA_306, isA_307, isA_308, isA_309, isA_310, isA_311, isA_312, isA_313, isA_314, isA_315, len_301, len_302, len_303, len_304, len_305, len_306, len_307, len_308, len_309, len_310, len_311, len_312, len_313, len_314, len_315, Int.cast_ofNat_Int, a321_0, a321_75, a321_109, a321_115, R32, List.getElem?_cons_zero, List.getElem?_cons_succ, List.set_cons_zero, List.set_cons_succ, List.cons_append, List.nil_append, List.replicate_succ, List.replicate_zero, List.take_succ_cons, List.take_zero, List.drop_succ_cons, List.drop_zero, List.reverse_cons, List.reverse_nil, List.length_cons, List.length_nil, Option.toList, true_and, and_true, eq_self, ↓reduceIte, not_true_eq_false, not_false_eq_true, upS_at, up300, up300b, oR3, fR3, dR3, lgR3, valM3, Int.reduceEq, Nat.reduceEqDiff, and_self, and_true, and_false, false_and, if_true, if_false] | refine q_200 ?_ ?_ ?_ ?_ | refine q_213 hB ?_ ?_ | refine q_213 (BR3 hB) ?_ ?_ | refine q_319 hB hG (fun _ _ => ?_) | refine q_319 (BR3 hB) (GR3 hG) (fun _ _ => ?_) | with_reducible refine And.intro ?_ ?_ | with_reducible intro _)
      all_goals (try (first | omega | contradiction | ((try clear hK); (try clear hK0); (try clear hB); (try clear h9); (try clear h8); (try clear h7); (try simp only [oR3, fR3, dR3, lgR3, valM3, up300, up300b] at *); first | omega | (rw [← hn]; exact Or.inl ⟨rfl, hc⟩))))
  refine Runs.of (al := [vr 300]) (n := 5) ⟨300, _, _, rfl, xo_300⟩ rfl rfl trivial ?_
  repeat' (first | refine hL12 _ _ _ _ ?_ ?_ | simp only [w_aload, w_iconst, x_p1000_300, w_call, w_istore, w_fall, Int.reduceToNat, w_iload, x_g1001_300, x_iald, w_ialoads, w_ialoadw, w_imul, w_ifc, cI, w_idiv, w_irem, w_if, w_iadd, w_goto, x_g1025_300, w_ixor, w_isub, w_ireturn, w_iinc, lgB, Nat.reduceSub, isA_301, isA_302, isA_303, isA_304, isA_305, isA_306, isA_307, isA_308, isA_309, isA_310, isA_311, isA_312, isA_313, isA_314, isA_315, len_301, len_302, len_303, len_304, len_305, len_306, len_307, len_308, len_309, len_310, len_311, len_312, len_313, len_314, len_315, Int.cast_ofNat_Int, a321_0, a321_75, a321_109, a321_115, R32, List.getElem?_cons_zero, List.getElem?_cons_succ, List.set_cons_zero, List.set_cons_succ, List.cons_append, List.nil_append, List.replicate_succ, List.replicate_zero, List.take_succ_cons, List.take_zero, List.drop_succ_cons, List.drop_zero, List.reverse_cons, List.reverse_nil, List.length_cons, List.length_nil, Option.toList, true_and, and_true, eq_self, ↓reduceIte, not_true_eq_false, not_false_eq_true, upS_at, up300, up300b, oR3, fR3, dR3, lgR3, valM3, Int.reduceEq, Nat.reduceEqDiff, and_self, and_true, and_false, false_and, if_true, if_false] | refine q_200 ?_ ?_ ?_ ?_ | refine q_213 hB ?_ ?_ | refine q_213 (BR3 hB) ?_ ?_ | refine q_319 hB hG (fun _ _ => ?_) | refine q_319 (BR3 hB) (GR3 hG) (fun _ _ => ?_) | with_reducible refine And.intro ?_ ?_ | with_reducible intro _)
  all_goals (try (first | omega | contradiction | ((try clear hK); (try clear hK0); (try clear hB); (try clear h9); (try clear h8); (try clear h7); (try simp only [oR3, fR3, dR3, lgR3, valM3, up300, up300b] at *); first | omega | first | rfl | assumption | exact noB_0 | grind)))
end Ref8
