/-! ===== SNOWNAMES: acts, the tape, the texts ===== -/
/-- four bytes are put -/
def pbS (S : Nat → Int → Int) (n i : Int) : Nat → Int → Int := fun q => if q = 1 then (fun j => if S 0 1 ≤ j ∧ j < S 0 1 + i then andI (ushrI n (24 - 8 * (j - S 0 1))) 255 else S 1 j) else if q = 0 then (fun j => if j = 1 then S 0 1 + i else S 0 j) else S q
theorem pbS_0 {S : Nat → Int → Int} {n : Int} : pbS S n 0 = S := by
  funext q j
  unfold pbS
  by_cases h1 : q = 1
  · subst h1; rw [if_pos rfl, if_neg (by omega)]
  · rw [if_neg h1]
    by_cases h0 : q = 0
    · subst h0
      rw [if_pos rfl]
      by_cases z : j = 1
      · rw [if_pos z, z]; omega
      · rw [if_neg z]
    · rw [if_neg h0]
theorem pbS_1 {S : Nat → Int → Int} {n i : Int} : pbS S n i 0 1 = S 0 1 + i := by
  unfold pbS
  rw [if_neg (by decide), if_pos rfl, if_pos rfl]
theorem pbS_s {S : Nat → Int → Int} {n i : Int} (h : 0 ≤ i) : upS (upS (pbS S n i) 1 (S 0 1 + i) (andI (ushrI n (24 - 8 * i)) 255)) 0 1 (S 0 1 + i + 1) = pbS S n (i + 1) := by
  funext q j
  by_cases h1 : q = 1
  · subst h1
    rw [show ∀ (T : Nat → Int → Int) (x : Int), upS T 0 1 x 1 j = T 1 j from fun T x => congrFun (up_lit (by decide)) j, upS_at]
    show (if 1 = 1 ∧ j = S 0 1 + i then _ else if S 0 1 ≤ j ∧ j < S 0 1 + i then andI (ushrI n (24 - 8 * (j - S 0 1))) 255 else S 1 j) = if S 0 1 ≤ j ∧ j < S 0 1 + (i + 1) then andI (ushrI n (24 - 8 * (j - S 0 1))) 255 else S 1 j
    by_cases z : j = S 0 1 + i
    · rw [if_pos ⟨rfl, z⟩, if_pos (by omega), z, show S 0 1 + i - S 0 1 = i by omega]
    · rw [if_neg (fun y => z y.2)]
      by_cases y : S 0 1 ≤ j ∧ j < S 0 1 + i
      · rw [if_pos y, if_pos (by omega)]
      · rw [if_neg y, if_neg (by omega)]
  · by_cases h0 : q = 0
    · subst h0
      rw [upS_at]
      show (if 0 = 0 ∧ j = 1 then _ else upS (pbS S n i) 1 _ _ 0 j) = if j = 1 then S 0 1 + (i + 1) else S 0 j
      by_cases z : j = 1
      · rw [if_pos ⟨rfl, z⟩, if_pos z]; omega
      · rw [if_neg (fun y => z y.2), if_neg z, show upS (pbS S n i) 1 (S 0 1 + i) (andI (ushrI n (24 - 8 * i)) 255) 0 j = pbS S n i 0 j from congrFun (up_lit (by decide)) j]
        show (if j = 1 then S 0 1 + i else S 0 j) = S 0 j
        rw [if_neg z]
    · rw [up_lit h0, up_lit h1]
      show (if q = 1 then _ else if q = 0 then _ else S q) j = (if q = 1 then _ else if q = 0 then _ else S q) j
      rw [if_neg h1, if_neg h0, if_neg h1, if_neg h0]
/-- twenty bytes are fed -/
def fdT (S : Nat → Int → Int) (a b c e f : Int) : Nat → Int → Int := pbS (pbS (pbS (pbS (pbS S a 4) b 4) c 4) e 4) f 4
theorem fdT_o {S : Nat → Int → Int} {a b c e f : Int} {q : Nat} (h1 : q ≠ 1) (h0 : q ≠ 0) : fdT S a b c e f q = S q := by
  have o : ∀ (T : Nat → Int → Int) (n i : Int), pbS T n i q = T q := fun T n i => by
    show (if q = 1 then _ else if q = 0 then _ else T q) = T q
    rw [if_neg h1, if_neg h0]
  unfold fdT
  rw [o, o, o, o, o]
theorem fdT_0 {S : Nat → Int → Int} {a b c e f j : Int} : fdT S a b c e f 0 j = if j = 1 then S 0 1 + 20 else S 0 j := by
  have o : ∀ (T : Nat → Int → Int) (n i : Int), pbS T n i 0 j = if j = 1 then T 0 1 + i else T 0 j := fun T n i => rfl
  unfold fdT
  simp only [o, pbS_1]
  by_cases z : j = 1
  · rw [if_pos z, if_pos z]; omega
  · rw [if_neg z, if_neg z, if_neg z, if_neg z, if_neg z, if_neg z]
theorem fdT_1 {S : Nat → Int → Int} {a b c e f : Int} : fdT S a b c e f 1 = fun j => if S 0 1 ≤ j ∧ j < S 0 1 + 20 then fdV a b c e f (j - S 0 1) else S 1 j := by
  funext j
  have o : ∀ (T : Nat → Int → Int) (n : Int), pbS T n 4 1 j = if T 0 1 ≤ j ∧ j < T 0 1 + 4 then andI (ushrI n (24 - 8 * (j - T 0 1))) 255 else T 1 j := fun T n => rfl
  unfold fdT
  simp only [o, pbS_1]
  obtain ⟨x, hx⟩ : ∃ x, x = j - S 0 1 := ⟨_, rfl⟩
  by_cases z : S 0 1 ≤ j ∧ j < S 0 1 + 20
  · rw [if_pos z, ← hx]
    unfold fdV
    have c : x < 4 ∨ (4 ≤ x ∧ x < 8) ∨ (8 ≤ x ∧ x < 12) ∨ (12 ≤ x ∧ x < 16) ∨ (16 ≤ x ∧ x < 20) := by omega
    rcases c with c | c | c | c | c
    · rw [if_neg (by omega), if_neg (by omega), if_neg (by omega), if_neg (by omega), if_pos (by omega), if_pos (by omega), show x % 4 = x by omega]
    · rw [if_neg (by omega), if_neg (by omega), if_neg (by omega), if_pos (by omega), if_neg (by omega), if_pos (by omega), show x % 4 = j - (S 0 1 + 4) by omega]
    · rw [if_neg (by omega), if_neg (by omega), if_pos (by omega), if_neg (by omega), if_neg (by omega), if_pos (by omega), show x % 4 = j - (S 0 1 + 4 + 4) by omega]
    · rw [if_neg (by omega), if_pos (by omega), if_neg (by omega), if_neg (by omega), if_neg (by omega), if_pos (by omega), show x % 4 = j - (S 0 1 + 4 + 4 + 4) by omega]
    · rw [if_pos (by omega), if_neg (by omega), if_neg (by omega), if_neg (by omega), if_neg (by omega), show x % 4 = j - (S 0 1 + 4 + 4 + 4 + 4) by omega]
  · rw [if_neg z, if_neg (by omega), if_neg (by omega), if_neg (by omega), if_neg (by omega), if_neg (by omega)]
theorem lawL_q {q : List LL} {t : Int → Int} {n e k : Int} (hk : k = q.length) (h : parL t n = .inr (q, e)) : lawL (k, n, t) = q := by
  unfold lawL
  show (if k < 1 then [] else match parL t n with | .inl _ => [] | .inr (l, _) => l) = q
  rw [h]
  split
  · have e : q.length = 0 := by omega
    exact (List.length_eq_zero_iff.mp e).symm
  · rfl
theorem TPE_n {S : Nat → Int → Int} {n : Int} (hn : 0 ≤ n ∧ n ≤ 400) (hB : ∀ j, 0 ≤ j → j < 400 → 0 ≤ S 1 j ∧ S 1 j < 256) : TPE S (nrm (S 1) n) n := ⟨hn, fun k k0 k1 => by
  have := hB k k0 (by omega)
  rw [nrm_y k0 k1]
  exact ⟨rfl, this⟩⟩
section Snow5
variable {tb : Tab} {d : Nat} {m : AM} {K : Out → AM → Prop} {S : Nat → Int → Int} {r : Int → Int}
theorem hs_129 {E : Nat} : pg.2.1 129 E = none := rfl
theorem k129_0 : pg.1 129 0 = [.bipush 24, .istore 2, .jsr 3] := rfl
theorem a129_0 {tb : Tab} {d : Nat} {K : Out → AM → Prop} {ls st : List AV} {m : AM} : At tb d 129 K 0 ls st m = wpB tb (pg.2.1 129) (Runs tb pg d) K (At tb d 129 K) [.bipush 24, .istore 2, .jsr 3] ls st m := At.eq k129_0
theorem k129_3 : pg.1 129 3 = [.iload 2, .ifCond .lt 49, .aload 0, .getfield 901, .bipush 400, .if_icmp .ge 43, .aload 0, .getfield 900, .aload 0, .getfield 901, .iload 1, .iload 2, .iushr, .bipush 255, .iand, .iastore, .aload 0, .dup, .getfield 901, .bipush 1, .iadd, .putfield 901, .jsr 43] := rfl
theorem a129_3 {tb : Tab} {d : Nat} {K : Out → AM → Prop} {ls st : List AV} {m : AM} : At tb d 129 K 3 ls st m = wpB tb (pg.2.1 129) (Runs tb pg d) K (At tb d 129 K) [.iload 2, .ifCond .lt 49, .aload 0, .getfield 901, .bipush 400, .if_icmp .ge 43, .aload 0, .getfield 900, .aload 0, .getfield 901, .iload 1, .iload 2, .iushr, .bipush 255, .iand, .iastore, .aload 0, .dup, .getfield 901, .bipush 1, .iadd, .putfield 901, .jsr 43] ls st m := At.eq k129_3
theorem k129_43 : pg.1 129 43 = [.iinc 2 (-8), .goto 3] := rfl
theorem a129_43 {tb : Tab} {d : Nat} {K : Out → AM → Prop} {ls st : List AV} {m : AM} : At tb d 129 K 43 ls st m = wpB tb (pg.2.1 129) (Runs tb pg d) K (At tb d 129 K) [.iinc 2 (-8), .goto 3] ls st m := At.eq k129_43
theorem k129_49 : pg.1 129 49 = [.return_] := rfl
theorem a129_49 {tb : Tab} {d : Nat} {K : Out → AM → Prop} {ls st : List AV} {m : AM} : At tb d 129 K 49 ls st m = wpB tb (pg.2.1 129) (Runs tb pg d) K (At tb d 129 K) [.return_] ls st m := At.eq k129_49
theorem w_129 {n : Int}  (h1 : 0 ≤ S 0 1 ∧ S 0 1 ≤ 396) (hK : K (.inl none) (X (pbS S n 4) m)) : Runs tb pg (d + 1) 129 [vr 0, vi n] (X S m) K := by
  have hL3 : (fun i : Int => ∀ (s : Int) (T : Nat → Int → Int), s = 24 - 8 * i → (T = pbS S n i) → At tb d 129 K 3 [vr 0, vi n, vi s] [] (X T m)) 0 := by
    refine loopZ (fun i : Int => ∀ (s : Int) (T : Nat → Int → Int), s = 24 - 8 * i → (T = pbS S n i) → At tb d 129 K 3 [vr 0, vi n, vi s] [] (X T m)) (4) (by omega) ?_ ?_
    · intro i h0 h1 h9 s T hs hT
      have e1 : T 0 1 = S 0 1 + i := by rw [hT]; exact pbS_1
      rw [a129_3]
      repeat' (first | omega | (refine h9 _ _ (by omega) ?_) | simp only [w_iconst, w_istore, w_fall, Int.reduceToNat, w_iload, w_if, cI, w_aload, x_g901_0, w_ifc, x_g900_0, w_iushr, w_iand, x_iast, w_dupi, w_dupr, w_iadd, x_p901_0, w_iinc, lgB, Nat.reduceSub, w_goto, w_return, isA_w1, isA_w2, isA_w3, isA_w4, isA_w5, isA_w6, isA_w7, isA_w8, isA_w10, isA_w11, isA_w12, isA_w14, isA_w15, isA_w16, len_w1, len_w2, len_w3, len_w4, len_w5, len_w6, len_w7, len_w8, len_w10, len_w11, len_w12, len_w14, len_w15, len_w16, isA_1, len_1, Int.cast_ofNat_Int, a129_0, a129_43, a129_49, R32, List.getElem?_cons_zero, List.getElem?_cons_succ, List.set_cons_zero, List.set_cons_succ, List.cons_append, List.nil_append, List.replicate_succ, List.replicate_zero, List.take_succ_cons, List.take_zero, List.drop_succ_cons, List.drop_zero, List.reverse_cons, List.reverse_nil, List.length_cons, List.length_nil, Option.toList, true_and, and_true, eq_self, ↓reduceIte, not_true_eq_false, not_false_eq_true, true_or, or_true, x_throw, hs_129, upS_at, Int.reduceEq, Nat.reduceEqDiff, and_self, and_true, true_and, and_false, false_and, if_true, if_false, reduceIte, Int.reduceToNat] | (rw [e1]) | (rw [e01]) | with_reducible refine And.intro ?_ ?_ | with_reducible intro _)
      all_goals (try (first | omega | contradiction | (rw [hT, hs]; exact pbS_s h0)))
    · intro s T hs hT
      rw [a129_3]
      repeat' (first | omega | (rw [hT]; exact hK) | simp only [w_iconst, w_istore, w_fall, Int.reduceToNat, w_iload, w_if, cI, w_aload, x_g901_0, w_ifc, x_g900_0, w_iushr, w_iand, x_iast, w_dupi, w_dupr, w_iadd, x_p901_0, w_iinc, lgB, Nat.reduceSub, w_goto, w_return, isA_w1, isA_w2, isA_w3, isA_w4, isA_w5, isA_w6, isA_w7, isA_w8, isA_w10, isA_w11, isA_w12, isA_w14, isA_w15, isA_w16, len_w1, len_w2, len_w3, len_w4, len_w5, len_w6, len_w7, len_w8, len_w10, len_w11, len_w12, len_w14, len_w15, len_w16, isA_1, len_1, Int.cast_ofNat_Int, a129_0, a129_43, a129_49, R32, List.getElem?_cons_zero, List.getElem?_cons_succ, List.set_cons_zero, List.set_cons_succ, List.cons_append, List.nil_append, List.replicate_succ, List.replicate_zero, List.take_succ_cons, List.take_zero, List.drop_succ_cons, List.drop_zero, List.reverse_cons, List.reverse_nil, List.length_cons, List.length_nil, Option.toList, true_and, and_true, eq_self, ↓reduceIte, not_true_eq_false, not_false_eq_true, true_or, or_true, x_throw, hs_129, upS_at, Int.reduceEq, Nat.reduceEqDiff, and_self, and_true, true_and, and_false, false_and, if_true, if_false, reduceIte, Int.reduceToNat] | (rw [e1]) | (rw [e01]) | with_reducible refine And.intro ?_ ?_ | with_reducible intro _)
      all_goals (try (first | omega | contradiction | skip))
  refine Runs.of (al := [vr 0, vi n]) (n := 1) ⟨0, _, _, rfl, xo_0⟩ rfl rfl trivial ?_
  repeat' (first | omega | (exact hL3 _ _ rfl pbS_0.symm) | simp only [w_iconst, w_istore, w_fall, Int.reduceToNat, w_iload, w_if, cI, w_aload, x_g901_0, w_ifc, x_g900_0, w_iushr, w_iand, x_iast, w_dupi, w_dupr, w_iadd, x_p901_0, w_iinc, lgB, Nat.reduceSub, w_goto, w_return, isA_w1, isA_w2, isA_w3, isA_w4, isA_w5, isA_w6, isA_w7, isA_w8, isA_w10, isA_w11, isA_w12, isA_w14, isA_w15, isA_w16, len_w1, len_w2, len_w3, len_w4, len_w5, len_w6, len_w7, len_w8, len_w10, len_w11, len_w12, len_w14, len_w15, len_w16, Int.cast_ofNat_Int, a129_0, a129_43, a129_49, R32, List.getElem?_cons_zero, List.getElem?_cons_succ, List.set_cons_zero, List.set_cons_succ, List.cons_append, List.nil_append, List.replicate_succ, List.replicate_zero, List.take_succ_cons, List.take_zero, List.drop_succ_cons, List.drop_zero, List.reverse_cons, List.reverse_nil, List.length_cons, List.length_nil, Option.toList, true_and, and_true, eq_self, ↓reduceIte, not_true_eq_false, not_false_eq_true, true_or, or_true, x_throw, hs_129, upS_at, Int.reduceEq, Nat.reduceEqDiff, and_self, and_true, true_and, and_false, false_and, if_true, if_false, reduceIte, Int.reduceToNat] | with_reducible refine And.intro ?_ ?_ | with_reducible intro _)
  all_goals (try (first | omega | (exfalso; assumption) | skip))
theorem hs_128 {E : Nat} : pg.2.1 128 E = none := rfl
theorem k128_0 : pg.1 128 0 = [.aload 0, .getfield 901, .bipush 20, .iadd, .bipush 400, .if_icmp .le 15, .bipush (-1), .ireturn] := rfl
theorem a128_0 {tb : Tab} {d : Nat} {K : Out → AM → Prop} {ls st : List AV} {m : AM} : At tb d 128 K 0 ls st m = wpB tb (pg.2.1 128) (Runs tb pg d) K (At tb d 128 K) [.aload 0, .getfield 901, .bipush 20, .iadd, .bipush 400, .if_icmp .le 15, .bipush (-1), .ireturn] ls st m := At.eq k128_0
theorem k128_15 : pg.1 128 15 = [.aload 0, .iload 1, .invokeinterface 129 2, .aload 0, .iload 2, .invokeinterface 129 2, .aload 0, .iload 3, .invokeinterface 129 2, .aload 0, .iload 4, .invokeinterface 129 2, .aload 0, .iload 5, .invokeinterface 129 2, .aload 0, .getfield 901, .ireturn] := rfl
theorem a128_15 {tb : Tab} {d : Nat} {K : Out → AM → Prop} {ls st : List AV} {m : AM} : At tb d 128 K 15 ls st m = wpB tb (pg.2.1 128) (Runs tb pg d) K (At tb d 128 K) [.aload 0, .iload 1, .invokeinterface 129 2, .aload 0, .iload 2, .invokeinterface 129 2, .aload 0, .iload 3, .invokeinterface 129 2, .aload 0, .iload 4, .invokeinterface 129 2, .aload 0, .iload 5, .invokeinterface 129 2, .aload 0, .getfield 901, .ireturn] ls st m := At.eq k128_15
theorem w_128 {a b c e f : Int}  (h1 : 0 ≤ S 0 1 ∧ S 0 1 ≤ 400) (hX : 400 < S 0 1 + 20 → K (.inl (some (vi (-1)))) (X S m)) (hK : S 0 1 + 20 ≤ 400 → K (.inl (some (vi (S 0 1 + 20)))) (X (fdT S a b c e f) m)) : Runs tb pg (d + 2) 128 [vr 0, vi a, vi b, vi c, vi e, vi f] (X S m) K := by
  refine Runs.of (al := [vr 0, vi a, vi b, vi c, vi e, vi f]) (n := 0) ⟨0, _, _, rfl, xo_0⟩ rfl rfl trivial ?_
  repeat' (first | omega | (exact hX (by omega)) | (have h := hK (by omega); rw [show pbS (pbS (pbS (pbS (pbS S a 4) b 4) c 4) e 4) f 4 0 1 = S 0 1 + 20 by simp only [pbS_1]; omega]; exact h) | simp only [w_aload, x_g901_0, w_iconst, w_iadd, w_ifc, cI, Int.reduceToNat, w_ireturn, w_iload, w_call, a128_0, a128_15, R32, List.getElem?_cons_zero, List.getElem?_cons_succ, List.set_cons_zero, List.set_cons_succ, List.cons_append, List.nil_append, List.replicate_succ, List.replicate_zero, List.take_succ_cons, List.take_zero, List.drop_succ_cons, List.drop_zero, List.reverse_cons, List.reverse_nil, List.length_cons, List.length_nil, Option.toList, true_and, and_true, eq_self, ↓reduceIte, not_true_eq_false, not_false_eq_true, true_or, or_true, x_throw, hs_128] | (with_reducible refine w_129 (by first | omega | (simp only [pbS_1]; omega)) ?_) | with_reducible refine And.intro ?_ ?_ | with_reducible intro _)
  all_goals (try (first | omega | (exfalso; assumption) | skip))
theorem hs_130 {E : Nat} : pg.2.1 130 E = none := rfl
theorem k130_0 : pg.1 130 0 = [.iload 1, .ifCond .lt 12, .iload 1, .aload 0, .getfield 901, .if_icmp .le 14, .jsr 12] := rfl
theorem a130_0 {tb : Tab} {d : Nat} {K : Out → AM → Prop} {ls st : List AV} {m : AM} : At tb d 130 K 0 ls st m = wpB tb (pg.2.1 130) (Runs tb pg d) K (At tb d 130 K) [.iload 1, .ifCond .lt 12, .iload 1, .aload 0, .getfield 901, .if_icmp .le 14, .jsr 12] ls st m := At.eq k130_0
theorem k130_12 : pg.1 130 12 = [.bipush 0, .freturn] := rfl
theorem a130_12 {tb : Tab} {d : Nat} {K : Out → AM → Prop} {ls st : List AV} {m : AM} : At tb d 130 K 12 ls st m = wpB tb (pg.2.1 130) (Runs tb pg d) K (At tb d 130 K) [.bipush 0, .freturn] ls st m := At.eq k130_12
theorem k130_14 : pg.1 130 14 = [.aload 0, .iload 1, .putfield 901, .bipush 1, .freturn] := rfl
theorem a130_14 {tb : Tab} {d : Nat} {K : Out → AM → Prop} {ls st : List AV} {m : AM} : At tb d 130 K 14 ls st m = wpB tb (pg.2.1 130) (Runs tb pg d) K (At tb d 130 K) [.aload 0, .iload 1, .putfield 901, .bipush 1, .freturn] ls st m := At.eq k130_14
theorem w_130 {n : Int}  (h1 : 0 ≤ S 0 1 ∧ S 0 1 ≤ 400) (hn : R32 n) (hX : ¬ (0 ≤ n ∧ n ≤ S 0 1) → K (.inl (some (vi 0))) (X S m)) (hK : (0 ≤ n ∧ n ≤ S 0 1) → K (.inl (some (vi 1))) (X (upS S 0 1 n) m)) : Runs tb pg (d + 1) 130 [vr 0, vi n] (X S m) K := by
  have uhn := hn
  unfold R32 at uhn
  refine Runs.of (al := [vr 0, vi n]) (n := 0) ⟨0, _, _, rfl, xo_0⟩ rfl rfl trivial ?_
  repeat' (first | omega | (exact hX (by omega)) | (exact hK (by omega)) | simp only [w_iload, w_if, cI, Int.reduceToNat, w_aload, x_g901_0, w_ifc, w_fall, w_iconst, w_zreturn, x_p901_0, a130_0, a130_12, a130_14, R32, List.getElem?_cons_zero, List.getElem?_cons_succ, List.set_cons_zero, List.set_cons_succ, List.cons_append, List.nil_append, List.replicate_succ, List.replicate_zero, List.take_succ_cons, List.take_zero, List.drop_succ_cons, List.drop_zero, List.reverse_cons, List.reverse_nil, List.length_cons, List.length_nil, Option.toList, true_and, and_true, eq_self, ↓reduceIte, not_true_eq_false, not_false_eq_true, true_or, or_true, x_throw, hs_130] | with_reducible refine And.intro ?_ ?_ | with_reducible intro _)
  all_goals (try (first | omega | (exfalso; assumption) | skip))
theorem hs_133 {E : Nat} : pg.2.1 133 E = none := rfl
theorem k133_0 : pg.1 133 0 = [.aload 0, .getfield 902, .ireturn] := rfl
theorem a133_0 {tb : Tab} {d : Nat} {K : Out → AM → Prop} {ls st : List AV} {m : AM} : At tb d 133 K 0 ls st m = wpB tb (pg.2.1 133) (Runs tb pg d) K (At tb d 133 K) [.aload 0, .getfield 902, .ireturn] ls st m := At.eq k133_0
theorem w_133   (hK : K (.inl (some (vi (S 0 2)))) (X S m)) : Runs tb pg (d + 1) 133 [vr 0] (X S m) K := by
  refine Runs.of (al := [vr 0]) (n := 0) ⟨0, _, _, rfl, xo_0⟩ rfl rfl trivial ?_
  repeat' (first | omega | with_reducible exact hK | simp only [w_aload, x_g902_0, w_ireturn, a133_0, R32, List.getElem?_cons_zero, List.getElem?_cons_succ, List.set_cons_zero, List.set_cons_succ, List.cons_append, List.nil_append, List.replicate_succ, List.replicate_zero, List.take_succ_cons, List.take_zero, List.drop_succ_cons, List.drop_zero, List.reverse_cons, List.reverse_nil, List.length_cons, List.length_nil, Option.toList, true_and, and_true, eq_self, ↓reduceIte, not_true_eq_false, not_false_eq_true, true_or, or_true, x_throw, hs_133] | with_reducible refine And.intro ?_ ?_ | with_reducible intro _)
  all_goals (try (first | omega | (exfalso; assumption) | skip))
theorem hs_146 {E : Nat} : pg.2.1 146 E = none := rfl
theorem k146_0 : pg.1 146 0 = [.iload 1, .bipush 1, .bipush 60, .invokeinterface 145 3, .aload 0, .invokeinterface 194 1, .bipush 0, .istore 2, .bipush 0, .istore 3, .jsr 15] := rfl
theorem a146_0 {tb : Tab} {d : Nat} {K : Out → AM → Prop} {ls st : List AV} {m : AM} : At tb d 146 K 0 ls st m = wpB tb (pg.2.1 146) (Runs tb pg d) K (At tb d 146 K) [.iload 1, .bipush 1, .bipush 60, .invokeinterface 145 3, .aload 0, .invokeinterface 194 1, .bipush 0, .istore 2, .bipush 0, .istore 3, .jsr 15] ls st m := At.eq k146_0
theorem k146_15 : pg.1 146 15 = [.iload 3, .iload 1, .if_icmp .ge 39, .aload 0, .getfield 903, .invokeinterface 0 1, .ifCond .eq 33, .iinc 2 1, .jsr 33] := rfl
theorem a146_15 {tb : Tab} {d : Nat} {K : Out → AM → Prop} {ls st : List AV} {m : AM} : At tb d 146 K 15 ls st m = wpB tb (pg.2.1 146) (Runs tb pg d) K (At tb d 146 K) [.iload 3, .iload 1, .if_icmp .ge 39, .aload 0, .getfield 903, .invokeinterface 0 1, .ifCond .eq 33, .iinc 2 1, .jsr 33] ls st m := At.eq k146_15
theorem k146_33 : pg.1 146 33 = [.iinc 3 1, .goto 15] := rfl
theorem a146_33 {tb : Tab} {d : Nat} {K : Out → AM → Prop} {ls st : List AV} {m : AM} : At tb d 146 K 33 ls st m = wpB tb (pg.2.1 146) (Runs tb pg d) K (At tb d 146 K) [.iinc 3 1, .goto 15] ls st m := At.eq k146_33
theorem k146_39 : pg.1 146 39 = [.iload 2, .ireturn] := rfl
theorem a146_39 {tb : Tab} {d : Nat} {K : Out → AM → Prop} {ls st : List AV} {m : AM} : At tb d 146 K 39 ls st m = wpB tb (pg.2.1 146) (Runs tb pg d) K (At tb d 146 K) [.iload 2, .ireturn] ls st m := At.eq k146_39
theorem w_146 {n : Int} (hR : RW S 2 r) (hA : AB r) (h8 : 0 ≤ S 0 8 ∧ S 0 8 < 12) (h9 : 0 ≤ S 0 9 ∧ S 0 9 ≤ 12) (hn : R32 n) (hl : LWo m (S 2 15) (lawD r)) (hX : ¬ (1 ≤ n ∧ n ≤ 60) → K (.inr 1) (X S (mthrow m))) (hK : ∀ T T1 m1 v, (1 ≤ n ∧ n ≤ 60) → v = goC evL 1 r n.toNat → REM S T1 → RW T 2 (goN evL 1 r n.toNat) → EW T1 T 2 → T 2 15 = S 2 15 → MS m m1 → K (.inl (some (vi v))) (X T m1)) : Runs tb pg (d + 6) 146 [vr 0, vi n] (X S m) K := by
  have hw := isW_2
  have b3 := hA.2.1.1
  have b4 := hA.2.1.2.1
  have b5 := hA.2.1.2.2.1
  have uhn := hn
  unfold R32 at uhn
  have gA : ∀ k, AB (goN evL 1 r k) ∧ LQ r (goN evL 1 r k) := goN_AB hA
  have hL : ∀ T1, (1 ≤ n ∧ n ≤ 60) → REM S T1 → RW T1 2 r → T1 2 15 = S 2 15 → At tb (d + 5) 146 K 15 [vr 0, vi n, vi 0, vi 0] [] (X T1 m) := by
    intro T1 hn9 M1 hR1 t15
    have hL15 : (fun i : Int => ∀ (a : Int) (m1 : AM) (T : Nat → Int → Int), a = goC evL 1 r i.toNat → (RW T 2 (goN evL 1 r i.toNat)) → (EW T1 T 2) → (T 2 15 = S 2 15) → (MS m m1) → At tb (d + 5) 146 K 15 [vr 0, vi n, vi a, vi i] [] (X T m1)) 0 := by
      refine loopZ (fun i : Int => ∀ (a : Int) (m1 : AM) (T : Nat → Int → Int), a = goC evL 1 r i.toNat → (RW T 2 (goN evL 1 r i.toNat)) → (EW T1 T 2) → (T 2 15 = S 2 15) → (MS m m1) → At tb (d + 5) 146 K 15 [vr 0, vi n, vi a, vi i] [] (X T m1)) (n) (by omega) ?_ ?_
      · intro i h0 h1 h9 a m1 T ha hT hE hlq hM
        have hlw : LWo m1 (T 2 15) (lawD (goN evL 1 r i.toNat)) := by rw [hlq, lawD_LQ (gA i.toNat).2]; exact LWo_s hM hl
        have gs := goN_s (ev := evL) (w := 1) (r := r) h0
        have gr := goC_rg (ev := evL) (w := 1) (r := r) i.toNat
        rw [a146_15]
        repeat' (first | omega | (exact h9 _ m2 T2 (by rw [ha, cs]; omega) (by rw [gs]; exact x2) (EW_t hE E2) (l2.trans hlq) (MS_t hM M2)) | simp only [w_iload, w_iconst, w_call, w_aload, w_istore, w_fall, Int.reduceToNat, w_ifc, cI, x_g903_0, w_if, w_iinc, lgB, Nat.reduceSub, w_goto, w_ireturn, a146_0, a146_33, a146_39, R32, List.getElem?_cons_zero, List.getElem?_cons_succ, List.set_cons_zero, List.set_cons_succ, List.cons_append, List.nil_append, List.replicate_succ, List.replicate_zero, List.take_succ_cons, List.take_zero, List.drop_succ_cons, List.drop_zero, List.reverse_cons, List.reverse_nil, List.length_cons, List.length_nil, Option.toList, true_and, and_true, eq_self, ↓reduceIte, not_true_eq_false, not_false_eq_true, true_or, or_true, hw, x_throw, hs_146] | ((with_reducible refine w_0 hw hT (gA i.toNat).1 hlw (fun T2 m2 v2 y2 x2 E2 l2 M2 => ?_)); have gy := yn_b y2; have cs := goC_s h0 y2) | with_reducible refine And.intro ?_ ?_ | with_reducible intro _)
        all_goals (try (first | omega | contradiction | omega))
      · intro a m1 T ha hT hE hlq hM
        rw [a146_15]
        repeat' (first | omega | (exact hK T T1 m1 _ hn9 ha M1 hT hE hlq hM) | simp only [w_iload, w_iconst, w_call, w_aload, w_istore, w_fall, Int.reduceToNat, w_ifc, cI, x_g903_0, w_if, w_iinc, lgB, Nat.reduceSub, w_goto, w_ireturn, a146_0, a146_33, a146_39, R32, List.getElem?_cons_zero, List.getElem?_cons_succ, List.set_cons_zero, List.set_cons_succ, List.cons_append, List.nil_append, List.replicate_succ, List.replicate_zero, List.take_succ_cons, List.take_zero, List.drop_succ_cons, List.drop_zero, List.reverse_cons, List.reverse_nil, List.length_cons, List.length_nil, Option.toList, true_and, and_true, eq_self, ↓reduceIte, not_true_eq_false, not_false_eq_true, true_or, or_true, hw, x_throw, hs_146] | ((with_reducible refine w_0 hw hT (gA i.toNat).1 hlw (fun T2 m2 v2 y2 x2 E2 l2 M2 => ?_)); have gy := yn_b y2; have cs := goC_s h0 y2) | with_reducible refine And.intro ?_ ?_ | with_reducible intro _)
        all_goals (try (first | omega | contradiction | skip))
    exact hL15 _ _ _ rfl hR1 EW_r t15 MS_r
  refine Runs.of (al := [vr 0, vi n]) (n := 2) ⟨0, _, _, rfl, xo_0⟩ rfl rfl trivial ?_
  repeat' (first | omega | (exact hX z) | (exact hL _ z M1 hR1 t15) | simp only [w_iload, w_iconst, w_call, w_aload, w_istore, w_fall, Int.reduceToNat, w_ifc, cI, x_g903_0, w_if, w_iinc, lgB, Nat.reduceSub, w_goto, w_ireturn, a146_0, a146_33, a146_39, R32, List.getElem?_cons_zero, List.getElem?_cons_succ, List.set_cons_zero, List.set_cons_succ, List.cons_append, List.nil_append, List.replicate_succ, List.replicate_zero, List.take_succ_cons, List.take_zero, List.drop_succ_cons, List.drop_zero, List.reverse_cons, List.reverse_nil, List.length_cons, List.length_nil, Option.toList, true_and, and_true, eq_self, ↓reduceIte, not_true_eq_false, not_false_eq_true, true_or, or_true, hw, x_throw, hs_146] | (with_reducible refine w_145 hn (by unfold R32; omega) (by unfold R32; omega) (fun z => ?_) (fun z => ?_)) | ((with_reducible refine w_194 h8 h9 hl (fun T1 M1 => ?_)); have oT := fun (a : Nat) (a0 : a ≠ 0) (a1 : a < 96 ∨ 300 ≤ a) => REM_o M1 h8 h9 a0 a1; have hR1 : RW T1 2 r := RW_k hR (fun k hk => oT _ (by omega) (by omega)); have t15 : T1 2 15 = S 2 15 := congrFun (oT 2 (by decide) (by decide)) 15; have hl1 : LWo m (T1 2 15) (lawD r) := (by rw [t15]; exact hl)) | with_reducible refine And.intro ?_ ?_ | with_reducible intro _)
  all_goals (try (first | omega | (exfalso; assumption) | skip))
theorem hs_147 {E : Nat} : pg.2.1 147 E = none := rfl
theorem k147_0 : pg.1 147 0 = [.aload 0, .iload 1, .invokeinterface 143 2, .aload 0, .iload 2, .invokeinterface 142 2, .aload 0, .getfield 903, .getfield 802, .iload 2, .iaload, .ifCond .le 43, .aload 0, .getfield 903, .iload 1, .iload 2, .invokeinterface 111 3, .aload 0, .getfield 903, .getfield 805, .iload 1, .iaload, .if_icmp .ge 54, .jsr 43] := rfl
theorem a147_0 {tb : Tab} {d : Nat} {K : Out → AM → Prop} {ls st : List AV} {m : AM} : At tb d 147 K 0 ls st m = wpB tb (pg.2.1 147) (Runs tb pg d) K (At tb d 147 K) [.aload 0, .iload 1, .invokeinterface 143 2, .aload 0, .iload 2, .invokeinterface 142 2, .aload 0, .getfield 903, .getfield 802, .iload 2, .iaload, .ifCond .le 43, .aload 0, .getfield 903, .iload 1, .iload 2, .invokeinterface 111 3, .aload 0, .getfield 903, .getfield 805, .iload 1, .iaload, .if_icmp .ge 54, .jsr 43] ls st m := At.eq k147_0
theorem k147_43 : pg.1 147 43 = [.invokedynamic 0] := rfl
theorem a147_43 {tb : Tab} {d : Nat} {K : Out → AM → Prop} {ls st : List AV} {m : AM} : At tb d 147 K 43 ls st m = wpB tb (pg.2.1 147) (Runs tb pg d) K (At tb d 147 K) [.invokedynamic 0] ls st m := At.eq k147_43
theorem k147_54 : pg.1 147 54 = [.aload 0, .invokeinterface 194 1, .aload 0, .getfield 903, .iload 1, .iload 2, .invokeinterface 125 3, .istore 3, .aload 0, .getfield 903, .iload 1, .iload 2, .iload 3, .invokeinterface 122 4, .aload 0, .getfield 903, .getfield 811, .aload 0, .getfield 903, .getfield 812, .bipush 4, .iaload, .iload 1, .bipush 0, .iload 2, .invokeinterface 50 5, .iload 3, .ireturn] := rfl
theorem a147_54 {tb : Tab} {d : Nat} {K : Out → AM → Prop} {ls st : List AV} {m : AM} : At tb d 147 K 54 ls st m = wpB tb (pg.2.1 147) (Runs tb pg d) K (At tb d 147 K) [.aload 0, .invokeinterface 194 1, .aload 0, .getfield 903, .iload 1, .iload 2, .invokeinterface 125 3, .istore 3, .aload 0, .getfield 903, .iload 1, .iload 2, .iload 3, .invokeinterface 122 4, .aload 0, .getfield 903, .getfield 811, .aload 0, .getfield 903, .getfield 812, .bipush 4, .iaload, .iload 1, .bipush 0, .iload 2, .invokeinterface 50 5, .iload 3, .ireturn] ls st m := At.eq k147_54
theorem w_147 {p f : Int} (hR : RW S 2 r) (hA : AB r) (h8 : 0 ≤ S 0 8 ∧ S 0 8 < 12) (h9 : 0 ≤ S 0 9 ∧ S 0 9 ≤ 12) (hp : R32 p) (hf : R32 f) (hl : LWo m (S 2 15) (lawD r)) (hX1 : ¬ ((0 ≤ p ∧ p < r 4) ∧ (0 ≤ f ∧ f < r 3)) → K (.inr 2) (X S (mthrow m))) (hX2 : (0 ≤ p ∧ p < r 4) → (0 ≤ f ∧ f < r 3) → ¬ (0 < fr r f 1 ∧ pr r p 0 ≤ fr r f 2 - usedM (pr r) (r 4) f + (if pr r p 1 = f then pr r p 0 else 0)) → K (.inr 0) (X S (mthrow m))) (hK : ∀ T T1 m1 v, (0 ≤ p ∧ p < r 4) → (0 ≤ f ∧ f < r 3) → (0 < fr r f 1 ∧ pr r p 0 ≤ fr r f 2 - usedM (pr r) (r 4) f + (if pr r p 1 = f then pr r p 0 else 0)) → v = dptR evL r p f → REM S T1 → RW T 2 (logsR (wrtR evL r p f) p 0 f) → EW T1 T 2 → T 2 15 = S 2 15 → MS m m1 → K (.inl (some (vi v))) (X T m1)) : Runs tb pg (d + 4) 147 [vr 0, vi p, vi f] (X S m) K := by
  have hw := isW_2
  have b3 := hA.2.1.1
  have b4 := hA.2.1.2.1
  have b5 := hA.2.1.2.2.1
  have uhp := hp
  unfold R32 at uhp
  have uhf := hf
  unfold R32 at uhf
  refine Runs.of (al := [vr 0, vi p, vi f]) (n := 1) ⟨0, _, _, rfl, xo_0⟩ rfl rfl trivial ?_
  repeat' (first | omega | (exact hX1 (fun y => z1 y.1)) | (exact hX1 (fun y => z y.2)) | (exact hX2 z1 z (fun y => absurd y.1 (by omega))) | (exact hX2 z1 z (fun y => absurd y.2 (by omega))) | (exact hK T7 T1 m5 _ z1 z ⟨by omega, by omega⟩ x5 M1 hR7 (EW_t (FT_EW y5) (EW_t E6 (LGT_EW x7))) l7 u5) | simp only [w_aload, w_iload, w_call, x_g903_0, x_g802_w0, x_iald, w_ialoads, w_ialoadw, w_if, cI, Int.reduceToNat, x_g805_w0, w_ifc, w_fall, w_throw, w_istore, x_g811_w0, x_g812_w0, w_iconst, w_ireturn, isA_w1, isA_w2, isA_w3, isA_w4, isA_w5, isA_w6, isA_w7, isA_w8, isA_w10, isA_w11, isA_w12, isA_w14, isA_w15, isA_w16, len_w1, len_w2, len_w3, len_w4, len_w5, len_w6, len_w7, len_w8, len_w10, len_w11, len_w12, len_w14, len_w15, len_w16, Int.cast_ofNat_Int, a147_0, a147_43, a147_54, R32, List.getElem?_cons_zero, List.getElem?_cons_succ, List.set_cons_zero, List.set_cons_succ, List.cons_append, List.nil_append, List.replicate_succ, List.replicate_zero, List.take_succ_cons, List.take_zero, List.drop_succ_cons, List.drop_zero, List.reverse_cons, List.reverse_nil, List.length_cons, List.length_nil, Option.toList, true_and, and_true, eq_self, ↓reduceIte, not_true_eq_false, not_false_eq_true, true_or, or_true, hw, x_throw, hs_147] | (with_reducible refine w_143 hR hA hp (fun z1 => ?_) (fun z1 => ?_)) | ((with_reducible refine w_142 hR hA hf (fun z => ?_) (fun z => ?_)); rotate_left; have ff := AB_ff hA z.1 z.2; have pp := AB_pp hA z1.1 z1.2; have e2 := (hR.2.1 f z.1 z.2).2.1; have e4 := (hR.2.2.1 p z1.1 z1.2).1; have ub := used_r hA (f := f)) | (rw [e2]) | (rw [e4]) | ((with_reducible refine w_111 hw hR hA z1 z (fun v3 x3 => ?_)); have y3 : -100 ≤ v3 ∧ v3 ≤ 100 := (by rw [x3]; split <;> omega)) | ((with_reducible refine w_194 h8 h9 hl (fun T1 M1 => ?_)); have oT := fun (a : Nat) (a0 : a ≠ 0) (a1 : a < 96 ∨ 300 ≤ a) => REM_o M1 h8 h9 a0 a1; have hR1 : RW T1 2 r := RW_k hR (fun k hk => oT _ (by omega) (by omega)); have t15 : T1 2 15 = S 2 15 := congrFun (oT 2 (by decide) (by decide)) 15; have hl1 : LWo m (T1 2 15) (lawD r) := (by rw [t15]; exact hl)) | ((with_reducible refine w_125 hw hR1 hA z1 z hl1 (fun T5 m5 v5 x5 y5 u5 => ?_)); have hR5 : RW T5 2 r := RW_F hR1 y5) | ((with_reducible refine w_122 hw hR5 hA z1 (fun T6 x6 => ?_)); have hR6 : RW T6 2 (wrtR evL r p f) := (by rw [x6]; have q := RW_pt (f := f) (n := v5) hA hR5 z1.1 z1.2; rw [x5] at q ⊢; exact q); have E6 : EW T5 T6 2 := (by rw [x6]; exact ptS_EW); have A6 : AB (wrtR evL r p f) := wrtP_AB z1.1 pp.2.2 (by omega) (by omega) z dpt_rg hA; have e10 : wrtR evL r p f 10 = r 10 := wrtP_o z1.1 pp.2.2 (by omega) (by decide); have d10 : T6 (2 + 15) 4 = wrtR evL r p f 10 := hR6.2.2.2.2.2 4 (by decide) (by decide); have s13 : 0 ≤ T6 (2 + 13) 0 ∧ T6 (2 + 13) 0 ≤ 60 := (by rw [hR6.2.2.2.2.1.1]; exact A6.2.1.2.2.2.2.2.2.1)) | (rw [d10]) | ((with_reducible refine w_50 hw s13 (fun T7 x7 => ?_)); have hR7 : RW T7 2 (logsR (wrtR evL r p f) p 0 f) := RW_lg A6 hR6 x7; have l7 : T7 2 15 = S 2 15 := (by rw [x7.1 2 (by decide) (by decide), x6, ptS_o (by decide) (by decide) (by decide), y5 2 (by decide)]; exact t15)) | with_reducible refine And.intro ?_ ?_ | with_reducible intro _)
  all_goals (try (first | omega | (exfalso; assumption) | skip))
theorem hs_148 {E : Nat} : pg.2.1 148 E = none := rfl
theorem k148_0 : pg.1 148 0 = [.aload 0, .iload 1, .invokeinterface 143 2, .aload 0, .iload 1, .invokeinterface 154 2, .aload 0, .invokeinterface 194 1, .aload 0, .getfield 903, .getfield 807, .iload 1, .iaload, .istore 2, .aload 0, .getfield 903, .getfield 807, .iload 1, .bipush (-1), .iastore, .aload 0, .getfield 903, .getfield 811, .aload 0, .getfield 903, .getfield 812, .bipush 4, .iaload, .iload 1, .bipush 1, .iload 2, .invokeinterface 50 5, .iload 2, .ireturn] := rfl
theorem a148_0 {tb : Tab} {d : Nat} {K : Out → AM → Prop} {ls st : List AV} {m : AM} : At tb d 148 K 0 ls st m = wpB tb (pg.2.1 148) (Runs tb pg d) K (At tb d 148 K) [.aload 0, .iload 1, .invokeinterface 143 2, .aload 0, .iload 1, .invokeinterface 154 2, .aload 0, .invokeinterface 194 1, .aload 0, .getfield 903, .getfield 807, .iload 1, .iaload, .istore 2, .aload 0, .getfield 903, .getfield 807, .iload 1, .bipush (-1), .iastore, .aload 0, .getfield 903, .getfield 811, .aload 0, .getfield 903, .getfield 812, .bipush 4, .iaload, .iload 1, .bipush 1, .iload 2, .invokeinterface 50 5, .iload 2, .ireturn] ls st m := At.eq k148_0
theorem w_148 {p : Int} (hR : RW S 2 r) (hA : AB r) (h8 : 0 ≤ S 0 8 ∧ S 0 8 < 12) (h9 : 0 ≤ S 0 9 ∧ S 0 9 ≤ 12) (hp : R32 p) (hl : LWo m (S 2 15) (lawD r)) (hX1 : ¬ (0 ≤ p ∧ p < r 4) → K (.inr 2) (X S (mthrow m))) (hX2 : (0 ≤ p ∧ p < r 4) → pr r p 1 = -1 → K (.inr 0) (X S (mthrow m))) (hK : ∀ T T1, (0 ≤ p ∧ p < r 4) → pr r p 1 ≠ -1 → REM S T1 → RW T 2 (leavesR (logsR r p 1 (pr r p 1)) p) → EW T1 T 2 → T 2 15 = S 2 15 → K (.inl (some (vi (pr r p 1)))) (X T m)) : Runs tb pg (d + 4) 148 [vr 0, vi p] (X S m) K := by
  have hw := isW_2
  have b3 := hA.2.1.1
  have b4 := hA.2.1.2.1
  have b5 := hA.2.1.2.2.1
  have uhp := hp
  unfold R32 at uhp
  refine Runs.of (al := [vr 0, vi p]) (n := 1) ⟨0, _, _, rfl, xo_0⟩ rfl rfl trivial ?_
  repeat' (first | omega | (exact hX1 z1) | (exact hX2 z1 z2) | (exact hK T7 T1 z1 z2 M1 hR7 (EW_t E6 (LGT_EW x7)) l7) | simp only [w_aload, w_iload, w_call, x_g903_0, x_g807_w0, x_iald, w_ialoads, w_ialoadw, w_istore, w_iconst, x_iast, x_g811_w0, x_g812_w0, w_ireturn, isA_w1, isA_w2, isA_w3, isA_w4, isA_w5, isA_w6, isA_w7, isA_w8, isA_w10, isA_w11, isA_w12, isA_w14, isA_w15, isA_w16, len_w1, len_w2, len_w3, len_w4, len_w5, len_w6, len_w7, len_w8, len_w10, len_w11, len_w12, len_w14, len_w15, len_w16, Int.cast_ofNat_Int, a148_0, R32, List.getElem?_cons_zero, List.getElem?_cons_succ, List.set_cons_zero, List.set_cons_succ, List.cons_append, List.nil_append, List.replicate_succ, List.replicate_zero, List.take_succ_cons, List.take_zero, List.drop_succ_cons, List.drop_zero, List.reverse_cons, List.reverse_nil, List.length_cons, List.length_nil, Option.toList, true_and, and_true, eq_self, ↓reduceIte, not_true_eq_false, not_false_eq_true, true_or, or_true, hw, x_throw, hs_148] | (with_reducible refine w_143 hR hA hp (fun z1 => ?_) (fun z1 => ?_)) | ((with_reducible refine w_154 hR hA z1 (fun z2 => ?_) (fun z2 => ?_)); rotate_left; have pp := AB_pp hA z1.1 z1.2) | ((with_reducible refine w_194 h8 h9 hl (fun T1 M1 => ?_)); have oT := fun (a : Nat) (a0 : a ≠ 0) (a1 : a < 96 ∨ 300 ≤ a) => REM_o M1 h8 h9 a0 a1; have hR1 : RW T1 2 r := RW_k hR (fun k hk => oT _ (by omega) (by omega)); have t15 : T1 2 15 = S 2 15 := congrFun (oT 2 (by decide) (by decide)) 15; have hl1 : LWo m (T1 2 15) (lawD r) := (by rw [t15]; exact hl); have e6 := (hR1.2.2.1 p z1.1 z1.2).2.1; have d10 : T1 (2 + 15) 4 = r 10 := hR1.2.2.2.2.2 4 (by decide) (by decide); have c1 : upS T1 (2 + 6) p (-1) (2 + 15) 4 = r 10 := (congrFun (up_lit (by decide)) 4).trans d10; have hR6 : RW (upS T1 (2 + 6) p (-1)) 2 (leavesR r p) := RW_lv hA hR1 z1.1 z1.2; have A6 : AB (leavesR r p) := leavesR_AB z1.1 pp.2.2 hA; have E6 : EW T1 (upS T1 (2 + 6) p (-1)) 2 := (fun a ha => up_lit (by omega)); have s13 : 0 ≤ upS T1 (2 + 6) p (-1) (2 + 13) 0 ∧ upS T1 (2 + 6) p (-1) (2 + 13) 0 ≤ 60 := (by rw [hR6.2.2.2.2.1.1]; exact A6.2.1.2.2.2.2.2.2.1)) | (rw [e6]) | (rw [c1]) | ((with_reducible refine w_50 hw s13 (fun T7 x7 => ?_)); have hR7 : RW T7 2 (leavesR (logsR r p 1 (pr r p 1)) p) := (by rw [← lv_lg z1.1 pp.2.2]; exact RW_lg A6 hR6 (by rw [show leavesR r p 10 = r 10 from leavesR_o z1.1 pp.2.2 (by decide)]; exact x7)); have l7 : T7 2 15 = S 2 15 := (by rw [x7.1 2 (by decide) (by decide)]; exact (congrFun (up_lit (by decide)) 15).trans t15)) | with_reducible refine And.intro ?_ ?_ | with_reducible intro _)
  all_goals (try (first | omega | (exfalso; assumption) | skip))
theorem hs_149 {E : Nat} : pg.2.1 149 E = none := rfl
theorem k149_0 : pg.1 149 0 = [.aload 0, .iload 1, .invokeinterface 143 2, .iload 2, .bipush 1, .bipush 9, .invokeinterface 145 3, .aload 0, .iload 1, .invokeinterface 154 2, .aload 0, .invokeinterface 194 1, .aload 0, .getfield 903, .iload 1, .iload 2, .invokeinterface 123 3, .ireturn] := rfl
theorem a149_0 {tb : Tab} {d : Nat} {K : Out → AM → Prop} {ls st : List AV} {m : AM} : At tb d 149 K 0 ls st m = wpB tb (pg.2.1 149) (Runs tb pg d) K (At tb d 149 K) [.aload 0, .iload 1, .invokeinterface 143 2, .iload 2, .bipush 1, .bipush 9, .invokeinterface 145 3, .aload 0, .iload 1, .invokeinterface 154 2, .aload 0, .invokeinterface 194 1, .aload 0, .getfield 903, .iload 1, .iload 2, .invokeinterface 123 3, .ireturn] ls st m := At.eq k149_0
theorem w_149 {p n : Int} (hR : RW S 2 r) (hA : AB r) (h8 : 0 ≤ S 0 8 ∧ S 0 8 < 12) (h9 : 0 ≤ S 0 9 ∧ S 0 9 ≤ 12) (hp : R32 p) (hn : R32 n) (hl : LWo m (S 2 15) (lawD r)) (hX1 : ¬ (0 ≤ p ∧ p < r 4) → K (.inr 2) (X S (mthrow m))) (hX2 : (0 ≤ p ∧ p < r 4) → ¬ (1 ≤ n ∧ n ≤ 9) → K (.inr 1) (X S (mthrow m))) (hX3 : (0 ≤ p ∧ p < r 4) → (1 ≤ n ∧ n ≤ 9) → pr r p 1 = -1 → K (.inr 0) (X S (mthrow m))) (hK : ∀ T T1 v, (0 ≤ p ∧ p < r 4) → (1 ≤ n ∧ n ≤ 9) → pr r p 1 ≠ -1 → v = trM (fun k => pr r p (14 + k)) n (pr r p 0).toNat → REM S T1 → RW T 2 (trP r p n (pr r p 0)) → EW T1 T 2 → T 2 15 = S 2 15 → K (.inl (some (vi v))) (X T m)) : Runs tb pg (d + 4) 149 [vr 0, vi p, vi n] (X S m) K := by
  have hw := isW_2
  have b3 := hA.2.1.1
  have b4 := hA.2.1.2.1
  have b5 := hA.2.1.2.2.1
  have uhp := hp
  unfold R32 at uhp
  have uhn := hn
  unfold R32 at uhn
  refine Runs.of (al := [vr 0, vi p, vi n]) (n := 0) ⟨0, _, _, rfl, xo_0⟩ rfl rfl trivial ?_
  repeat' (first | omega | (exact hX1 z1) | (exact hX2 z1 z) | (exact hX3 z1 z z2) | (exact hK _ T1 _ z1 z z2 x5 M1 (RW_tr hA hR1 z1.1 z1.2) trS_EW ((congrFun (trS_o (by decide)) 15).trans t15)) | simp only [w_aload, w_iload, w_call, w_iconst, x_g903_0, w_ireturn, a149_0, R32, List.getElem?_cons_zero, List.getElem?_cons_succ, List.set_cons_zero, List.set_cons_succ, List.cons_append, List.nil_append, List.replicate_succ, List.replicate_zero, List.take_succ_cons, List.take_zero, List.drop_succ_cons, List.drop_zero, List.reverse_cons, List.reverse_nil, List.length_cons, List.length_nil, Option.toList, true_and, and_true, eq_self, ↓reduceIte, not_true_eq_false, not_false_eq_true, true_or, or_true, hw, x_throw, hs_149] | (with_reducible refine w_143 hR hA hp (fun z1 => ?_) (fun z1 => ?_)) | (with_reducible refine w_145 hn (by unfold R32; omega) (by unfold R32; omega) (fun z => ?_) (fun z => ?_)) | (with_reducible refine w_154 hR hA z1 (fun z2 => ?_) (fun z2 => ?_)) | ((with_reducible refine w_194 h8 h9 hl (fun T1 M1 => ?_)); have oT := fun (a : Nat) (a0 : a ≠ 0) (a1 : a < 96 ∨ 300 ≤ a) => REM_o M1 h8 h9 a0 a1; have hR1 : RW T1 2 r := RW_k hR (fun k hk => oT _ (by omega) (by omega)); have t15 : T1 2 15 = S 2 15 := congrFun (oT 2 (by decide) (by decide)) 15; have hl1 : LWo m (T1 2 15) (lawD r) := (by rw [t15]; exact hl)) | (with_reducible refine w_123 hw hR1 hA z1 z2 (by omega) (fun v5 x5 => ?_)) | with_reducible refine And.intro ?_ ?_ | with_reducible intro _)
  all_goals (try (first | omega | (exfalso; assumption) | skip))
theorem hs_150 {E : Nat} : pg.2.1 150 E = none := rfl
theorem k150_0 : pg.1 150 0 = [.aload 0, .iload 1, .invokeinterface 143 2, .aload 0, .iload 2, .invokeinterface 143 2, .iload 1, .iload 2, .invokeinterface 155 2, .iload 3, .bipush 1, .bipush 99, .invokeinterface 145 3, .aload 0, .getfield 903, .getfield 810, .getfield 0, .bipush 8, .if_icmp .lt 48, .invokedynamic 0] := rfl
theorem a150_0 {tb : Tab} {d : Nat} {K : Out → AM → Prop} {ls st : List AV} {m : AM} : At tb d 150 K 0 ls st m = wpB tb (pg.2.1 150) (Runs tb pg d) K (At tb d 150 K) [.aload 0, .iload 1, .invokeinterface 143 2, .aload 0, .iload 2, .invokeinterface 143 2, .iload 1, .iload 2, .invokeinterface 155 2, .iload 3, .bipush 1, .bipush 99, .invokeinterface 145 3, .aload 0, .getfield 903, .getfield 810, .getfield 0, .bipush 8, .if_icmp .lt 48, .invokedynamic 0] ls st m := At.eq k150_0
theorem k150_48 : pg.1 150 48 = [.aload 0, .invokeinterface 194 1, .aload 0, .getfield 903, .getfield 810, .iload 1, .iload 2, .iload 3, .invokeinterface 14 4, .aload 0, .getfield 903, .getfield 810, .getfield 0, .bipush 1, .isub, .ireturn] := rfl
theorem a150_48 {tb : Tab} {d : Nat} {K : Out → AM → Prop} {ls st : List AV} {m : AM} : At tb d 150 K 48 ls st m = wpB tb (pg.2.1 150) (Runs tb pg d) K (At tb d 150 K) [.aload 0, .invokeinterface 194 1, .aload 0, .getfield 903, .getfield 810, .iload 1, .iload 2, .iload 3, .invokeinterface 14 4, .aload 0, .getfield 903, .getfield 810, .getfield 0, .bipush 1, .isub, .ireturn] ls st m := At.eq k150_48
theorem w_150 {p q n : Int} (hR : RW S 2 r) (hA : AB r) (h8 : 0 ≤ S 0 8 ∧ S 0 8 < 12) (h9 : 0 ≤ S 0 9 ∧ S 0 9 ≤ 12) (hp : R32 p) (hq : R32 q) (hn : R32 n) (hl : LWo m (S 2 15) (lawD r)) (hX1 : ¬ ((0 ≤ p ∧ p < r 4) ∧ (0 ≤ q ∧ q < r 4)) → K (.inr 2) (X S (mthrow m))) (hX2 : (0 ≤ p ∧ p < r 4) → (0 ≤ q ∧ q < r 4) → (p = q ∨ ¬ (1 ≤ n ∧ n ≤ 99)) → K (.inr 1) (X S (mthrow m))) (hX3 : (0 ≤ p ∧ p < r 4) → (0 ≤ q ∧ q < r 4) → p ≠ q → (1 ≤ n ∧ n ≤ 99) → r 5 = 8 → K (.inr 0) (X S (mthrow m))) (hK : ∀ T T1, (0 ≤ p ∧ p < r 4) → (0 ≤ q ∧ q < r 4) → p ≠ q → (1 ≤ n ∧ n ≤ 99) → r 5 < 8 → REM S T1 → RW T 2 (lendR r p q n) → EW T1 T 2 → T 2 15 = S 2 15 → K (.inl (some (vi (r 5)))) (X T m)) : Runs tb pg (d + 4) 150 [vr 0, vi p, vi q, vi n] (X S m) K := by
  have hw := isW_2
  have b3 := hA.2.1.1
  have b4 := hA.2.1.2.1
  have b5 := hA.2.1.2.2.1
  have s9 : S (2 + 9) 0 = r 5 := hR.2.2.2.1.1
  have uhp := hp
  unfold R32 at uhp
  have uhq := hq
  unfold R32 at uhq
  have uhn := hn
  unfold R32 at uhn
  refine Runs.of (al := [vr 0, vi p, vi q, vi n]) (n := 0) ⟨0, _, _, rfl, xo_0⟩ rfl rfl trivial ?_
  repeat' (first | omega | (exact hX1 (fun y => z1 y.1)) | (exact hX1 (fun y => z2 y.2)) | (exact hX2 z1 z2 (Or.inl z3)) | (exact hX2 z1 z2 (Or.inr z)) | (exact hX3 z1 z2 z3 z (by omega)) | (rw [show r 5 + 1 - 1 = r 5 by omega]; exact hK _ T1 z1 z2 z3 z (by omega) M1 hR6 addS_EW ((congrFun addS_0 15).trans t15)) | simp only [w_aload, w_iload, w_call, w_iconst, x_g903_0, x_g810_w0, x_g0_w9, w_ifc, cI, Int.reduceToNat, w_throw, w_isub, w_ireturn, a150_0, a150_48, R32, List.getElem?_cons_zero, List.getElem?_cons_succ, List.set_cons_zero, List.set_cons_succ, List.cons_append, List.nil_append, List.replicate_succ, List.replicate_zero, List.take_succ_cons, List.take_zero, List.drop_succ_cons, List.drop_zero, List.reverse_cons, List.reverse_nil, List.length_cons, List.length_nil, Option.toList, true_and, and_true, eq_self, ↓reduceIte, not_true_eq_false, not_false_eq_true, true_or, or_true, hw, x_throw, hs_150] | (with_reducible refine w_143 hR hA hp (fun z1 => ?_) (fun z1 => ?_)) | (with_reducible refine w_143 hR hA hq (fun z2 => ?_) (fun z2 => ?_)) | (with_reducible refine w_155 hp hq (fun z3 => ?_) (fun z3 => ?_)) | (with_reducible refine w_145 hn (by unfold R32; omega) (by unfold R32; omega) (fun z => ?_) (fun z => ?_)) | (rw [s9]) | ((with_reducible refine w_194 h8 h9 hl (fun T1 M1 => ?_)); have oT := fun (a : Nat) (a0 : a ≠ 0) (a1 : a < 96 ∨ 300 ≤ a) => REM_o M1 h8 h9 a0 a1; have hR1 : RW T1 2 r := RW_k hR (fun k hk => oT _ (by omega) (by omega)); have t15 : T1 2 15 = S 2 15 := congrFun (oT 2 (by decide) (by decide)) 15; have hl1 : LWo m (T1 2 15) (lawD r) := (by rw [t15]; exact hl); have s91 : T1 (2 + 9) 0 = r 5 := hR1.2.2.2.1.1; have c9 : 0 ≤ T1 (2 + 9) 0 ∧ T1 (2 + 9) 0 < 8 := (by omega)) | ((with_reducible refine w_14 hw c9 ?_); have hR6 : RW (addS T1 2 p q n) 2 (lendR r p q n) := RW_ln hA hR1 (by omega); have s92 : addS T1 2 p q n (2 + 9) 0 = r 5 + 1 := (by rw [hR6.2.2.2.1.1]; unfold lendR; rw [if_pos rfl])) | (rw [s92]) | with_reducible refine And.intro ?_ ?_ | with_reducible intro _)
  all_goals (try (first | omega | (exfalso; assumption) | skip))
theorem hs_151 {E : Nat} : pg.2.1 151 E = none := rfl
theorem k151_0 : pg.1 151 0 = [.aload 0, .iload 1, .invokeinterface 144 2, .aload 0, .getfield 903, .aload 0, .getfield 903, .getfield 810, .getfield 1, .iload 1, .iaload, .invokeinterface 118 2, .ifCond .eq 49, .aload 0, .getfield 903, .aload 0, .getfield 903, .getfield 810, .getfield 2, .iload 1, .iaload, .invokeinterface 118 2, .ifCond .ne 60, .jsr 49] := rfl
theorem a151_0 {tb : Tab} {d : Nat} {K : Out → AM → Prop} {ls st : List AV} {m : AM} : At tb d 151 K 0 ls st m = wpB tb (pg.2.1 151) (Runs tb pg d) K (At tb d 151 K) [.aload 0, .iload 1, .invokeinterface 144 2, .aload 0, .getfield 903, .aload 0, .getfield 903, .getfield 810, .getfield 1, .iload 1, .iaload, .invokeinterface 118 2, .ifCond .eq 49, .aload 0, .getfield 903, .aload 0, .getfield 903, .getfield 810, .getfield 2, .iload 1, .iaload, .invokeinterface 118 2, .ifCond .ne 60, .jsr 49] ls st m := At.eq k151_0
theorem k151_49 : pg.1 151 49 = [.invokedynamic 0] := rfl
theorem a151_49 {tb : Tab} {d : Nat} {K : Out → AM → Prop} {ls st : List AV} {m : AM} : At tb d 151 K 49 ls st m = wpB tb (pg.2.1 151) (Runs tb pg d) K (At tb d 151 K) [.invokedynamic 0] ls st m := At.eq k151_49
theorem k151_60 : pg.1 151 60 = [.aload 0, .invokeinterface 194 1, .aload 0, .getfield 903, .getfield 810, .getfield 3, .iload 1, .iaload, .istore 2, .aload 0, .getfield 903, .getfield 810, .iload 1, .invokeinterface 15 2, .iload 2, .ireturn] := rfl
theorem a151_60 {tb : Tab} {d : Nat} {K : Out → AM → Prop} {ls st : List AV} {m : AM} : At tb d 151 K 60 ls st m = wpB tb (pg.2.1 151) (Runs tb pg d) K (At tb d 151 K) [.aload 0, .invokeinterface 194 1, .aload 0, .getfield 903, .getfield 810, .getfield 3, .iload 1, .iaload, .istore 2, .aload 0, .getfield 903, .getfield 810, .iload 1, .invokeinterface 15 2, .iload 2, .ireturn] ls st m := At.eq k151_60
theorem w_151 {k : Int} (hR : RW S 2 r) (hA : AB r) (h8 : 0 ≤ S 0 8 ∧ S 0 8 < 12) (h9 : 0 ≤ S 0 9 ∧ S 0 9 ≤ 12) (hk : R32 k) (hN : DN r) (hl : LWo m (S 2 15) (lawD r)) (hX1 : ¬ (0 ≤ k ∧ k < r 5) → K (.inr 2) (X S (mthrow m))) (hX2 : (0 ≤ k ∧ k < r 5) → ¬ (wholeM (pr r) (dr r k 0) (pr r (dr r k 0) 0) ∧ wholeM (pr r) (dr r k 1) (pr r (dr r k 1) 0)) → K (.inr 0) (X S (mthrow m))) (hK : ∀ T T1, (0 ≤ k ∧ k < r 5) → (wholeM (pr r) (dr r k 0) (pr r (dr r k 0) 0) ∧ wholeM (pr r) (dr r k 1) (pr r (dr r k 1) 0)) → REM S T1 → RW T 2 (payP r k (3 * (r 5 - 1))) → EW T1 T 2 → T 2 15 = S 2 15 → K (.inl (some (vi (dr r k 2)))) (X T m)) : Runs tb pg (d + 4) 151 [vr 0, vi k] (X S m) K := by
  have hw := isW_2
  have b3 := hA.2.1.1
  have b4 := hA.2.1.2.1
  have b5 := hA.2.1.2.2.1
  have uhk := hk
  unfold R32 at uhk
  refine Runs.of (al := [vr 0, vi k]) (n := 1) ⟨0, _, _, rfl, xo_0⟩ rfl rfl trivial ?_
  repeat' (first | omega | (exact hX1 z) | (exact hX2 z (fun y => absurd y.1 n1)) | (exact hX2 z (fun y => absurd y.2 n2)) | (exact hK _ T1 z ⟨y1, y2⟩ M1 hR6 rmS5_EW ((congrFun rmS5_0 15).trans t15)) | simp only [w_aload, w_iload, w_call, x_g903_0, x_g810_w0, x_g1_w9, x_iald, w_ialoads, w_ialoadw, w_if, cI, Int.reduceToNat, x_g2_w9, w_fall, w_throw, x_g3_w9, w_istore, w_ireturn, isA_w1, isA_w2, isA_w3, isA_w4, isA_w5, isA_w6, isA_w7, isA_w8, isA_w10, isA_w11, isA_w12, isA_w14, isA_w15, isA_w16, len_w1, len_w2, len_w3, len_w4, len_w5, len_w6, len_w7, len_w8, len_w10, len_w11, len_w12, len_w14, len_w15, len_w16, Int.cast_ofNat_Int, a151_0, a151_49, a151_60, R32, List.getElem?_cons_zero, List.getElem?_cons_succ, List.set_cons_zero, List.set_cons_succ, List.cons_append, List.nil_append, List.replicate_succ, List.replicate_zero, List.take_succ_cons, List.take_zero, List.drop_succ_cons, List.drop_zero, List.reverse_cons, List.reverse_nil, List.length_cons, List.length_nil, Option.toList, true_and, and_true, eq_self, ↓reduceIte, not_true_eq_false, not_false_eq_true, true_or, or_true, hw, x_throw, hs_151] | ((with_reducible refine w_144 hR hA hk (fun z => ?_) (fun z => ?_)); rotate_left; have dd := AB_dd hA z.1 z.2; have dn := hN k z.1 z.2; have e0 := (hR.2.2.2.1.2 k z.1 z.2).1; have e1 := (hR.2.2.2.1.2 k z.1 z.2).2.1; have e2 := (hR.2.2.2.1.2 k z.1 z.2).2.2; have ga : 0 ≤ dr r k 0 ∧ dr r k 0 < r 4 := (by omega); have gb : 0 ≤ dr r k 1 ∧ dr r k 1 < r 4 := (by omega)) | (rw [e0]) | (rw [e1]) | ((with_reducible refine w_118 hw hR hA ga (fun v1 x1 => ?_)); have gy1 := yn_b x1) | ((with_reducible refine w_118 hw hR hA gb (fun v2 x2 => ?_)); have gy2 := yn_b x2) | (have y1 : wholeM (pr r) (dr r k 0) (pr r (dr r k 0) 0) := (by rcases x1 with ⟨xa, xb⟩ | ⟨xa, xb⟩; exact xb; exfalso; omega); clear x1) | (have n1 : ¬ wholeM (pr r) (dr r k 0) (pr r (dr r k 0) 0) := (by rcases x1 with ⟨xa, xb⟩ | ⟨xa, xb⟩; exfalso; omega; exact xb); clear x1) | (have y2 : wholeM (pr r) (dr r k 1) (pr r (dr r k 1) 0) := (by rcases x2 with ⟨xa, xb⟩ | ⟨xa, xb⟩; exact xb; exfalso; omega); clear x2) | (have n2 : ¬ wholeM (pr r) (dr r k 1) (pr r (dr r k 1) 0) := (by rcases x2 with ⟨xa, xb⟩ | ⟨xa, xb⟩; exfalso; omega; exact xb); clear x2) | ((with_reducible refine w_194 h8 h9 hl (fun T1 M1 => ?_)); have oT := fun (a : Nat) (a0 : a ≠ 0) (a1 : a < 96 ∨ 300 ≤ a) => REM_o M1 h8 h9 a0 a1; have hR1 : RW T1 2 r := RW_k hR (fun k hk => oT _ (by omega) (by omega)); have t15 : T1 2 15 = S 2 15 := congrFun (oT 2 (by decide) (by decide)) 15; have hl1 : LWo m (T1 2 15) (lawD r) := (by rw [t15]; exact hl); have e21 := (hR1.2.2.2.1.2 k z.1 z.2).2.2; have s91 : T1 (2 + 9) 0 = r 5 := hR1.2.2.2.1.1) | (rw [e21]) | ((with_reducible refine w_15 hw (by omega) (by omega) ?_); rw [s91]; have hR6 : RW (rmS5 T1 2 k (r 5)) 2 (payP r k (3 * (r 5 - 1))) := RW_py hA hR1 z.1 z.2) | with_reducible refine And.intro ?_ ?_ | with_reducible intro _)
  all_goals (try (first | omega | (exfalso; assumption) | skip))
theorem hs_152 {E : Nat} : pg.2.1 152 E = none := rfl
theorem k152_0 : pg.1 152 0 = [.aload 0, .iload 1, .invokeinterface 142 2, .iload 2, .bipush 0, .bipush 9, .invokeinterface 145 3, .aload 0, .invokeinterface 194 1, .aload 0, .getfield 903, .getfield 801, .iload 1, .iaload, .istore 3, .aload 0, .getfield 903, .getfield 801, .iload 1, .iload 2, .iastore, .iload 3, .ireturn] := rfl
theorem a152_0 {tb : Tab} {d : Nat} {K : Out → AM → Prop} {ls st : List AV} {m : AM} : At tb d 152 K 0 ls st m = wpB tb (pg.2.1 152) (Runs tb pg d) K (At tb d 152 K) [.aload 0, .iload 1, .invokeinterface 142 2, .iload 2, .bipush 0, .bipush 9, .invokeinterface 145 3, .aload 0, .invokeinterface 194 1, .aload 0, .getfield 903, .getfield 801, .iload 1, .iaload, .istore 3, .aload 0, .getfield 903, .getfield 801, .iload 1, .iload 2, .iastore, .iload 3, .ireturn] ls st m := At.eq k152_0
theorem w_152 {f n : Int} (hR : RW S 2 r) (hA : AB r) (h8 : 0 ≤ S 0 8 ∧ S 0 8 < 12) (h9 : 0 ≤ S 0 9 ∧ S 0 9 ≤ 12) (hf : R32 f) (hn : R32 n) (hl : LWo m (S 2 15) (lawD r)) (hX1 : ¬ (0 ≤ f ∧ f < r 3) → K (.inr 2) (X S (mthrow m))) (hX2 : (0 ≤ f ∧ f < r 3) → ¬ (0 ≤ n ∧ n ≤ 9) → K (.inr 1) (X S (mthrow m))) (hK : ∀ T T1, (0 ≤ f ∧ f < r 3) → (0 ≤ n ∧ n ≤ 9) → REM S T1 → RW T 2 (putR r (13 + 3 * f + 0) n) → EW T1 T 2 → T 2 15 = S 2 15 → K (.inl (some (vi (fr r f 0)))) (X T m)) : Runs tb pg (d + 4) 152 [vr 0, vi f, vi n] (X S m) K := by
  have hw := isW_2
  have b3 := hA.2.1.1
  have b4 := hA.2.1.2.1
  have b5 := hA.2.1.2.2.1
  have uhf := hf
  unfold R32 at uhf
  have uhn := hn
  unfold R32 at uhn
  refine Runs.of (al := [vr 0, vi f, vi n]) (n := 1) ⟨0, _, _, rfl, xo_0⟩ rfl rfl trivial ?_
  repeat' (first | omega | (exact hX1 z) | (exact hX2 z z2) | (exact hK _ T1 z z2 M1 (RW_fl (c := 0) hR1 (Or.inl rfl) (by omega)) (fun a ha => up_lit (by omega)) ((congrFun (up_lit (by decide)) 15).trans t15)) | simp only [w_aload, w_iload, w_call, w_iconst, x_g903_0, x_g801_w0, x_iald, w_ialoads, w_ialoadw, w_istore, x_iast, w_ireturn, isA_w1, isA_w2, isA_w3, isA_w4, isA_w5, isA_w6, isA_w7, isA_w8, isA_w10, isA_w11, isA_w12, isA_w14, isA_w15, isA_w16, len_w1, len_w2, len_w3, len_w4, len_w5, len_w6, len_w7, len_w8, len_w10, len_w11, len_w12, len_w14, len_w15, len_w16, Int.cast_ofNat_Int, a152_0, R32, List.getElem?_cons_zero, List.getElem?_cons_succ, List.set_cons_zero, List.set_cons_succ, List.cons_append, List.nil_append, List.replicate_succ, List.replicate_zero, List.take_succ_cons, List.take_zero, List.drop_succ_cons, List.drop_zero, List.reverse_cons, List.reverse_nil, List.length_cons, List.length_nil, Option.toList, true_and, and_true, eq_self, ↓reduceIte, not_true_eq_false, not_false_eq_true, true_or, or_true, hw, x_throw, hs_152] | (with_reducible refine w_142 hR hA hf (fun z => ?_) (fun z => ?_)) | (with_reducible refine w_145 hn (by unfold R32; omega) (by unfold R32; omega) (fun z2 => ?_) (fun z2 => ?_)) | ((with_reducible refine w_194 h8 h9 hl (fun T1 M1 => ?_)); have oT := fun (a : Nat) (a0 : a ≠ 0) (a1 : a < 96 ∨ 300 ≤ a) => REM_o M1 h8 h9 a0 a1; have hR1 : RW T1 2 r := RW_k hR (fun k hk => oT _ (by omega) (by omega)); have t15 : T1 2 15 = S 2 15 := congrFun (oT 2 (by decide) (by decide)) 15; have hl1 : LWo m (T1 2 15) (lawD r) := (by rw [t15]; exact hl); have e1 := (hR1.2.1 f z.1 z.2).1) | (rw [e1]) | with_reducible refine And.intro ?_ ?_ | with_reducible intro _)
  all_goals (try (first | omega | (exfalso; assumption) | skip))
theorem hs_153 {E : Nat} : pg.2.1 153 E = none := rfl
theorem k153_0 : pg.1 153 0 = [.aload 0, .iload 1, .invokeinterface 142 2, .iload 2, .bipush 1, .bipush 99, .invokeinterface 145 3, .aload 0, .invokeinterface 194 1, .aload 0, .getfield 903, .getfield 802, .iload 1, .bipush 99, .aload 0, .getfield 903, .getfield 802, .iload 1, .iaload, .iload 2, .iadd, .invokestatic 0, .iastore, .aload 0, .getfield 903, .getfield 802, .iload 1, .iaload, .ireturn] := rfl
theorem a153_0 {tb : Tab} {d : Nat} {K : Out → AM → Prop} {ls st : List AV} {m : AM} : At tb d 153 K 0 ls st m = wpB tb (pg.2.1 153) (Runs tb pg d) K (At tb d 153 K) [.aload 0, .iload 1, .invokeinterface 142 2, .iload 2, .bipush 1, .bipush 99, .invokeinterface 145 3, .aload 0, .invokeinterface 194 1, .aload 0, .getfield 903, .getfield 802, .iload 1, .bipush 99, .aload 0, .getfield 903, .getfield 802, .iload 1, .iaload, .iload 2, .iadd, .invokestatic 0, .iastore, .aload 0, .getfield 903, .getfield 802, .iload 1, .iaload, .ireturn] ls st m := At.eq k153_0
theorem w_153 {f n : Int} (hR : RW S 2 r) (hA : AB r) (h8 : 0 ≤ S 0 8 ∧ S 0 8 < 12) (h9 : 0 ≤ S 0 9 ∧ S 0 9 ≤ 12) (hf : R32 f) (hn : R32 n) (hl : LWo m (S 2 15) (lawD r)) (hX1 : ¬ (0 ≤ f ∧ f < r 3) → K (.inr 2) (X S (mthrow m))) (hX2 : (0 ≤ f ∧ f < r 3) → ¬ (1 ≤ n ∧ n ≤ 99) → K (.inr 1) (X S (mthrow m))) (hK : ∀ T T1 v, (0 ≤ f ∧ f < r 3) → (1 ≤ n ∧ n ≤ 99) → v = (if 99 < fr r f 1 + n then 99 else fr r f 1 + n) → REM S T1 → RW T 2 (putR r (13 + 3 * f + 1) v) → EW T1 T 2 → T 2 15 = S 2 15 → K (.inl (some (vi v))) (X T m)) : Runs tb pg (d + 4) 153 [vr 0, vi f, vi n] (X S m) K := by
  have hw := isW_2
  have b3 := hA.2.1.1
  have b4 := hA.2.1.2.1
  have b5 := hA.2.1.2.2.1
  have uhf := hf
  unfold R32 at uhf
  have uhn := hn
  unfold R32 at uhn
  refine Runs.of (al := [vr 0, vi f, vi n]) (n := 0) ⟨0, _, _, rfl, xo_0⟩ rfl rfl trivial ?_
  repeat' (first | omega | (exact hX1 z) | (exact hX2 z z2) | (exact hK _ T1 _ z z2 (by split <;> split <;> omega) M1 (RW_fl (c := 1) hR1 (Or.inr rfl) (by omega)) (fun a ha => up_lit (by omega)) ((congrFun (up_lit (by decide)) 15).trans t15)) | simp only [w_aload, w_iload, w_call, w_iconst, x_g903_0, x_g802_w0, x_iald, w_ialoads, w_ialoadw, w_iadd, w_min, x_iast, w_ireturn, isA_w1, isA_w2, isA_w3, isA_w4, isA_w5, isA_w6, isA_w7, isA_w8, isA_w10, isA_w11, isA_w12, isA_w14, isA_w15, isA_w16, len_w1, len_w2, len_w3, len_w4, len_w5, len_w6, len_w7, len_w8, len_w10, len_w11, len_w12, len_w14, len_w15, len_w16, Int.cast_ofNat_Int, a153_0, R32, List.getElem?_cons_zero, List.getElem?_cons_succ, List.set_cons_zero, List.set_cons_succ, List.cons_append, List.nil_append, List.replicate_succ, List.replicate_zero, List.take_succ_cons, List.take_zero, List.drop_succ_cons, List.drop_zero, List.reverse_cons, List.reverse_nil, List.length_cons, List.length_nil, Option.toList, true_and, and_true, eq_self, ↓reduceIte, not_true_eq_false, not_false_eq_true, true_or, or_true, hw, x_throw, hs_153, upS_at, and_self, if_true] | (with_reducible refine w_142 hR hA hf (fun z => ?_) (fun z => ?_)) | (with_reducible refine w_145 hn (by unfold R32; omega) (by unfold R32; omega) (fun z2 => ?_) (fun z2 => ?_)) | ((with_reducible refine w_194 h8 h9 hl (fun T1 M1 => ?_)); have oT := fun (a : Nat) (a0 : a ≠ 0) (a1 : a < 96 ∨ 300 ≤ a) => REM_o M1 h8 h9 a0 a1; have hR1 : RW T1 2 r := RW_k hR (fun k hk => oT _ (by omega) (by omega)); have t15 : T1 2 15 = S 2 15 := congrFun (oT 2 (by decide) (by decide)) 15; have hl1 : LWo m (T1 2 15) (lawD r) := (by rw [t15]; exact hl); have e1 := (hR1.2.1 f z.1 z.2).2.1; have ff := AB_ff hA z.1 z.2) | (rw [e1]) | with_reducible refine And.intro ?_ ?_ | with_reducible intro _)
  all_goals (try (first | omega | (exfalso; assumption) | skip))
end Snow5
