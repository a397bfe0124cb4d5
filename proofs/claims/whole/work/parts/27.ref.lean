/-! ===== THE REFERENCE, first readers ===== -/
theorem loopZ (G : Int → Prop) (N : Int) (h0 : 0 ≤ N) (hs : ∀ i, 0 ≤ i → i < N → G (i + 1) → G i) (he : G N) : G 0 := by
  have : ∀ n : Nat, (n : Int) ≤ N → G (N - n) := by
    intro n
    induction n with
    | zero => intro _; rw [show N - ((0 : Nat) : Int) = N by omega]; exact he
    | succ n ih =>
      intro h
      refine hs _ (by omega) (by omega) ?_
      rw [show N - ((n + 1 : Nat) : Int) + 1 = N - (n : Int) by omega]
      exact ih (by omega)
  have h9 := this N.toNat (by omega)
  rwa [show N - (N.toNat : Int) = 0 by omega] at h9
def sumN (f : Int → Int) : Nat → Int
  | 0 => 0
  | n + 1 => sumN f n + f n
def sumZ (n : Int) (f : Int → Int) : Int := sumN f n.toNat
theorem sumZ_0 {f : Int → Int} : sumZ 0 f = 0 := rfl
theorem sumZ_s {i : Int} {f : Int → Int} (h : 0 ≤ i) : sumZ (i + 1) f = sumZ i f + f i := by
  unfold sumZ
  rw [show (i + 1).toNat = i.toNat + 1 by omega]
  show sumN f i.toNat + f (i.toNat : Int) = _
  rw [Int.toNat_of_nonneg h]
/-- the reference's row: of a person, of a field, of a debt -/
def oR (S : Nat → Int → Int) (p w : Int) : Int := S 301 (31 + 20 * p + w)
def fR (S : Nat → Int → Int) (f w : Int) : Int := S 301 (13 + 3 * f + w)
def dR (S : Nat → Int → Int) (k w : Int) : Int := S 301 (151 + 3 * k + w)
/-- what always holds of the reference's row: bounds -/
def BR (S : Nat → Int → Int) : Prop := (∀ j, j ≠ 12 → -1 ≤ S 301 j ∧ S 301 j ≤ 10000) ∧ (0 ≤ S 301 3 ∧ S 301 3 ≤ 6) ∧ (0 ≤ S 301 4 ∧ S 301 4 ≤ 6) ∧ (0 ≤ S 301 5 ∧ S 301 5 ≤ 8) ∧ (∀ p, 0 ≤ p → p < 6 → (0 ≤ oR S p 0 ∧ oR S p 0 ≤ 6) ∧ (-1 ≤ oR S p 1 ∧ oR S p 1 < 6)) ∧ (∀ p k, 0 ≤ p → p < 6 → 0 ≤ k → k < 6 → 0 ≤ oR S p (14 + k) ∧ oR S p (14 + k) ≤ 9) ∧ (∀ p k, 0 ≤ p → p < 6 → 0 ≤ k → k < 6 → -1 ≤ oR S p (2 + k) ∧ oR S p (2 + k) < 8)
section Ref
variable {tb : Tab} {d : Nat} {m : AM} {K : Out → AM → Prop} {S : Nat → Int → Int}
theorem k200_0 : pg.1 200 0 = [.iload 0, .iload 1, .if_icmp .lt 14, .iload 0, .iload 2, .if_icmp .gt 14, .bipush 1, .goto 15] := rfl
theorem a200_0 {tb : Tab} {d : Nat} {K : Out → AM → Prop} {ls st : List AV} {m : AM} : At tb d 200 K 0 ls st m = wpB tb (pg.2.1 200) (Runs tb pg d) K (At tb d 200 K) [.iload 0, .iload 1, .if_icmp .lt 14, .iload 0, .iload 2, .if_icmp .gt 14, .bipush 1, .goto 15] ls st m := At.eq k200_0
theorem k200_14 : pg.1 200 14 = [.bipush 0, .jsr 15] := rfl
theorem a200_14 {tb : Tab} {d : Nat} {K : Out → AM → Prop} {ls st : List AV} {m : AM} : At tb d 200 K 14 ls st m = wpB tb (pg.2.1 200) (Runs tb pg d) K (At tb d 200 K) [.bipush 0, .jsr 15] ls st m := At.eq k200_14
theorem k200_15 : pg.1 200 15 = [.freturn] := rfl
theorem a200_15 {tb : Tab} {d : Nat} {K : Out → AM → Prop} {ls st : List AV} {m : AM} : At tb d 200 K 15 ls st m = wpB tb (pg.2.1 200) (Runs tb pg d) K (At tb d 200 K) [.freturn] ls st m := At.eq k200_15
theorem k201_0 : pg.1 201 0 = [.iload 0, .iload 1, .if_icmp .ge 9, .iload 0, .goto 10] := rfl
theorem a201_0 {tb : Tab} {d : Nat} {K : Out → AM → Prop} {ls st : List AV} {m : AM} : At tb d 201 K 0 ls st m = wpB tb (pg.2.1 201) (Runs tb pg d) K (At tb d 201 K) [.iload 0, .iload 1, .if_icmp .ge 9, .iload 0, .goto 10] ls st m := At.eq k201_0
theorem k201_9 : pg.1 201 9 = [.iload 1, .jsr 10] := rfl
theorem a201_9 {tb : Tab} {d : Nat} {K : Out → AM → Prop} {ls st : List AV} {m : AM} : At tb d 201 K 9 ls st m = wpB tb (pg.2.1 201) (Runs tb pg d) K (At tb d 201 K) [.iload 1, .jsr 10] ls st m := At.eq k201_9
theorem k201_10 : pg.1 201 10 = [.ireturn] := rfl
theorem a201_10 {tb : Tab} {d : Nat} {K : Out → AM → Prop} {ls st : List AV} {m : AM} : At tb d 201 K 10 ls st m = wpB tb (pg.2.1 201) (Runs tb pg d) K (At tb d 201 K) [.ireturn] ls st m := At.eq k201_10
theorem k202_0 : pg.1 202 0 = [.iload 0, .iload 1, .if_icmp .le 9, .iload 0, .goto 10] := rfl
theorem a202_0 {tb : Tab} {d : Nat} {K : Out → AM → Prop} {ls st : List AV} {m : AM} : At tb d 202 K 0 ls st m = wpB tb (pg.2.1 202) (Runs tb pg d) K (At tb d 202 K) [.iload 0, .iload 1, .if_icmp .le 9, .iload 0, .goto 10] ls st m := At.eq k202_0
theorem k202_9 : pg.1 202 9 = [.iload 1, .jsr 10] := rfl
theorem a202_9 {tb : Tab} {d : Nat} {K : Out → AM → Prop} {ls st : List AV} {m : AM} : At tb d 202 K 9 ls st m = wpB tb (pg.2.1 202) (Runs tb pg d) K (At tb d 202 K) [.iload 1, .jsr 10] ls st m := At.eq k202_9
theorem k202_10 : pg.1 202 10 = [.ireturn] := rfl
theorem a202_10 {tb : Tab} {d : Nat} {K : Out → AM → Prop} {ls st : List AV} {m : AM} : At tb d 202 K 10 ls st m = wpB tb (pg.2.1 202) (Runs tb pg d) K (At tb d 202 K) [.ireturn] ls st m := At.eq k202_10
theorem k206_0 : pg.1 206 0 = [.aload 0, .getfield 1001, .bipush 31, .bipush 20, .iload 1, .imul, .iadd, .iload 2, .iadd, .iaload, .ireturn] := rfl
theorem a206_0 {tb : Tab} {d : Nat} {K : Out → AM → Prop} {ls st : List AV} {m : AM} : At tb d 206 K 0 ls st m = wpB tb (pg.2.1 206) (Runs tb pg d) K (At tb d 206 K) [.aload 0, .getfield 1001, .bipush 31, .bipush 20, .iload 1, .imul, .iadd, .iload 2, .iadd, .iaload, .ireturn] ls st m := At.eq k206_0
theorem k211_0 : pg.1 211 0 = [.aload 0, .iload 1, .bipush 1, .invokeinterface 206 3, .bipush (-1), .if_icmp .eq 14, .bipush 1, .goto 15] := rfl
theorem a211_0 {tb : Tab} {d : Nat} {K : Out → AM → Prop} {ls st : List AV} {m : AM} : At tb d 211 K 0 ls st m = wpB tb (pg.2.1 211) (Runs tb pg d) K (At tb d 211 K) [.aload 0, .iload 1, .bipush 1, .invokeinterface 206 3, .bipush (-1), .if_icmp .eq 14, .bipush 1, .goto 15] ls st m := At.eq k211_0
theorem k211_14 : pg.1 211 14 = [.bipush 0, .jsr 15] := rfl
theorem a211_14 {tb : Tab} {d : Nat} {K : Out → AM → Prop} {ls st : List AV} {m : AM} : At tb d 211 K 14 ls st m = wpB tb (pg.2.1 211) (Runs tb pg d) K (At tb d 211 K) [.bipush 0, .jsr 15] ls st m := At.eq k211_14
theorem k211_15 : pg.1 211 15 = [.freturn] := rfl
theorem a211_15 {tb : Tab} {d : Nat} {K : Out → AM → Prop} {ls st : List AV} {m : AM} : At tb d 211 K 15 ls st m = wpB tb (pg.2.1 211) (Runs tb pg d) K (At tb d 211 K) [.freturn] ls st m := At.eq k211_15
theorem k212_0 : pg.1 212 0 = [.bipush 0, .istore 2, .bipush 0, .istore 3, .jsr 4] := rfl
theorem a212_0 {tb : Tab} {d : Nat} {K : Out → AM → Prop} {ls st : List AV} {m : AM} : At tb d 212 K 0 ls st m = wpB tb (pg.2.1 212) (Runs tb pg d) K (At tb d 212 K) [.bipush 0, .istore 2, .bipush 0, .istore 3, .jsr 4] ls st m := At.eq k212_0
theorem k212_4 : pg.1 212 4 = [.iload 3, .aload 0, .getfield 1001, .bipush 4, .iaload, .if_icmp .ge 43, .iload 2, .aload 0, .iload 3, .bipush 1, .invokeinterface 206 3, .iload 1, .if_icmp .ne 34, .aload 0, .iload 3, .bipush 0, .invokeinterface 206 3, .goto 35] := rfl
theorem a212_4 {tb : Tab} {d : Nat} {K : Out → AM → Prop} {ls st : List AV} {m : AM} : At tb d 212 K 4 ls st m = wpB tb (pg.2.1 212) (Runs tb pg d) K (At tb d 212 K) [.iload 3, .aload 0, .getfield 1001, .bipush 4, .iaload, .if_icmp .ge 43, .iload 2, .aload 0, .iload 3, .bipush 1, .invokeinterface 206 3, .iload 1, .if_icmp .ne 34, .aload 0, .iload 3, .bipush 0, .invokeinterface 206 3, .goto 35] ls st m := At.eq k212_4
theorem k212_34 : pg.1 212 34 = [.bipush 0, .jsr 35] := rfl
theorem a212_34 {tb : Tab} {d : Nat} {K : Out → AM → Prop} {ls st : List AV} {m : AM} : At tb d 212 K 34 ls st m = wpB tb (pg.2.1 212) (Runs tb pg d) K (At tb d 212 K) [.bipush 0, .jsr 35] ls st m := At.eq k212_34
theorem k212_35 : pg.1 212 35 = [.iadd, .istore 2, .iinc 3 1, .goto 4] := rfl
theorem a212_35 {tb : Tab} {d : Nat} {K : Out → AM → Prop} {ls st : List AV} {m : AM} : At tb d 212 K 35 ls st m = wpB tb (pg.2.1 212) (Runs tb pg d) K (At tb d 212 K) [.iadd, .istore 2, .iinc 3 1, .goto 4] ls st m := At.eq k212_35
theorem k212_43 : pg.1 212 43 = [.iload 2, .ireturn] := rfl
theorem a212_43 {tb : Tab} {d : Nat} {K : Out → AM → Prop} {ls st : List AV} {m : AM} : At tb d 212 K 43 ls st m = wpB tb (pg.2.1 212) (Runs tb pg d) K (At tb d 212 K) [.iload 2, .ireturn] ls st m := At.eq k212_43
theorem k213_0 : pg.1 213 0 = [.bipush 0, .istore 2, .bipush 0, .istore 3, .jsr 4] := rfl
theorem a213_0 {tb : Tab} {d : Nat} {K : Out → AM → Prop} {ls st : List AV} {m : AM} : At tb d 213 K 0 ls st m = wpB tb (pg.2.1 213) (Runs tb pg d) K (At tb d 213 K) [.bipush 0, .istore 2, .bipush 0, .istore 3, .jsr 4] ls st m := At.eq k213_0
theorem k213_4 : pg.1 213 4 = [.iload 3, .aload 0, .iload 1, .bipush 0, .invokeinterface 206 3, .if_icmp .ge 48, .iload 2, .aload 0, .iload 1, .invokeinterface 211 2, .ifCond .eq 39, .aload 0, .iload 1, .bipush 14, .iload 3, .iadd, .invokeinterface 206 3, .ifCond .le 39, .bipush 1, .goto 40] := rfl
theorem a213_4 {tb : Tab} {d : Nat} {K : Out → AM → Prop} {ls st : List AV} {m : AM} : At tb d 213 K 4 ls st m = wpB tb (pg.2.1 213) (Runs tb pg d) K (At tb d 213 K) [.iload 3, .aload 0, .iload 1, .bipush 0, .invokeinterface 206 3, .if_icmp .ge 48, .iload 2, .aload 0, .iload 1, .invokeinterface 211 2, .ifCond .eq 39, .aload 0, .iload 1, .bipush 14, .iload 3, .iadd, .invokeinterface 206 3, .ifCond .le 39, .bipush 1, .goto 40] ls st m := At.eq k213_4
theorem k213_39 : pg.1 213 39 = [.bipush 0, .jsr 40] := rfl
theorem a213_39 {tb : Tab} {d : Nat} {K : Out → AM → Prop} {ls st : List AV} {m : AM} : At tb d 213 K 39 ls st m = wpB tb (pg.2.1 213) (Runs tb pg d) K (At tb d 213 K) [.bipush 0, .jsr 40] ls st m := At.eq k213_39
theorem k213_40 : pg.1 213 40 = [.iadd, .istore 2, .iinc 3 1, .goto 4] := rfl
theorem a213_40 {tb : Tab} {d : Nat} {K : Out → AM → Prop} {ls st : List AV} {m : AM} : At tb d 213 K 40 ls st m = wpB tb (pg.2.1 213) (Runs tb pg d) K (At tb d 213 K) [.iadd, .istore 2, .iinc 3 1, .goto 4] ls st m := At.eq k213_40
theorem k213_48 : pg.1 213 48 = [.iload 2, .ireturn] := rfl
theorem a213_48 {tb : Tab} {d : Nat} {K : Out → AM → Prop} {ls st : List AV} {m : AM} : At tb d 213 K 48 ls st m = wpB tb (pg.2.1 213) (Runs tb pg d) K (At tb d 213 K) [.iload 2, .ireturn] ls st m := At.eq k213_48
theorem k214_0 : pg.1 214 0 = [.aload 0, .iload 1, .invokeinterface 211 2, .istore 2, .bipush 0, .istore 3, .jsr 8] := rfl
theorem a214_0 {tb : Tab} {d : Nat} {K : Out → AM → Prop} {ls st : List AV} {m : AM} : At tb d 214 K 0 ls st m = wpB tb (pg.2.1 214) (Runs tb pg d) K (At tb d 214 K) [.aload 0, .iload 1, .invokeinterface 211 2, .istore 2, .bipush 0, .istore 3, .jsr 8] ls st m := At.eq k214_0
theorem k214_8 : pg.1 214 8 = [.iload 3, .aload 0, .iload 1, .bipush 0, .invokeinterface 206 3, .if_icmp .ge 66, .iload 2, .ifCond .eq 58, .aload 0, .iload 1, .bipush 14, .iload 3, .iadd, .invokeinterface 206 3, .ifCond .le 58, .aload 0, .iload 1, .bipush 8, .iload 3, .iadd, .invokeinterface 206 3, .aload 0, .iload 1, .bipush 2, .iload 3, .iadd, .invokeinterface 206 3, .if_icmp .ne 58, .bipush 1, .goto 59] := rfl
theorem a214_8 {tb : Tab} {d : Nat} {K : Out → AM → Prop} {ls st : List AV} {m : AM} : At tb d 214 K 8 ls st m = wpB tb (pg.2.1 214) (Runs tb pg d) K (At tb d 214 K) [.iload 3, .aload 0, .iload 1, .bipush 0, .invokeinterface 206 3, .if_icmp .ge 66, .iload 2, .ifCond .eq 58, .aload 0, .iload 1, .bipush 14, .iload 3, .iadd, .invokeinterface 206 3, .ifCond .le 58, .aload 0, .iload 1, .bipush 8, .iload 3, .iadd, .invokeinterface 206 3, .aload 0, .iload 1, .bipush 2, .iload 3, .iadd, .invokeinterface 206 3, .if_icmp .ne 58, .bipush 1, .goto 59] ls st m := At.eq k214_8
theorem k214_58 : pg.1 214 58 = [.bipush 0, .jsr 59] := rfl
theorem a214_58 {tb : Tab} {d : Nat} {K : Out → AM → Prop} {ls st : List AV} {m : AM} : At tb d 214 K 58 ls st m = wpB tb (pg.2.1 214) (Runs tb pg d) K (At tb d 214 K) [.bipush 0, .jsr 59] ls st m := At.eq k214_58
theorem k214_59 : pg.1 214 59 = [.istore 2, .iinc 3 1, .goto 8] := rfl
theorem a214_59 {tb : Tab} {d : Nat} {K : Out → AM → Prop} {ls st : List AV} {m : AM} : At tb d 214 K 59 ls st m = wpB tb (pg.2.1 214) (Runs tb pg d) K (At tb d 214 K) [.istore 2, .iinc 3 1, .goto 8] ls st m := At.eq k214_59
theorem k214_66 : pg.1 214 66 = [.iload 2, .freturn] := rfl
theorem a214_66 {tb : Tab} {d : Nat} {K : Out → AM → Prop} {ls st : List AV} {m : AM} : At tb d 214 K 66 ls st m = wpB tb (pg.2.1 214) (Runs tb pg d) K (At tb d 214 K) [.iload 2, .freturn] ls st m := At.eq k214_66
theorem q_200 {v a b : Int} (hv : R32 v) (ha : R32 a) (hb : R32 b) (hK : ∀ r, r = (if a ≤ v ∧ v ≤ b then 1 else 0) → K (.inl (some (vi r))) m) : Runs tb pg (d + 1) 200 [vi v, vi a, vi b] m K := by
  refine Runs.of (al := [vi v, vi a, vi b]) (n := 0) trivial rfl rfl trivial ?_
  unfold R32 at hv ha hb
  repeat' (first | refine hK _ ?_ | simp only [w_iload, w_ifc, R32, cI, Int.reduceToNat, w_iconst, w_goto, w_fall, w_zreturn, a200_0, a200_14, a200_15, List.getElem?_cons_zero, List.getElem?_cons_succ, List.set_cons_zero, List.set_cons_succ, List.cons_append, List.nil_append, List.replicate_succ, List.replicate_zero, List.take_succ_cons, List.take_zero, List.drop_succ_cons, List.drop_zero, List.reverse_cons, List.reverse_nil, List.length_cons, List.length_nil, Option.toList, true_and, and_true, eq_self, ↓reduceIte, not_true_eq_false, not_false_eq_true] | refine And.intro ?_ ?_ | intro _)
  all_goals (try (first | omega | contradiction | ((try clear hK); (try clear hK0); (try clear hB); (try clear h9); (try clear h8); (try clear h7); first | omega | grind)))
theorem q_201 {a b : Int} (ha : R32 a) (hb : R32 b) (hK : ∀ r, r = (if a < b then a else b) → K (.inl (some (vi r))) m) : Runs tb pg (d + 1) 201 [vi a, vi b] m K := by
  refine Runs.of (al := [vi a, vi b]) (n := 0) trivial rfl rfl trivial ?_
  unfold R32 at ha hb
  repeat' (first | refine hK _ ?_ | simp only [w_iload, w_ifc, R32, cI, Int.reduceToNat, w_goto, w_fall, w_ireturn, a201_0, a201_9, a201_10, List.getElem?_cons_zero, List.getElem?_cons_succ, List.set_cons_zero, List.set_cons_succ, List.cons_append, List.nil_append, List.replicate_succ, List.replicate_zero, List.take_succ_cons, List.take_zero, List.drop_succ_cons, List.drop_zero, List.reverse_cons, List.reverse_nil, List.length_cons, List.length_nil, Option.toList, true_and, and_true, eq_self, ↓reduceIte, not_true_eq_false, not_false_eq_true] | refine And.intro ?_ ?_ | intro _)
  all_goals (try (first | omega | contradiction | ((try clear hK); (try clear hK0); (try clear hB); (try clear h9); (try clear h8); (try clear h7); first | omega | grind)))
theorem q_206 {p w : Int} (hB : BR S) (hp : 0 ≤ p ∧ p < 6) (hw : 0 ≤ w ∧ w < 20) (hK : -1 ≤ oR S p w → oR S p w ≤ 10000 → K (.inl (some (vi (oR S p w)))) (X S m)) : Runs tb pg (d + 1) 206 [vr 300, vi p, vi w] (X S m) K := by
  refine Runs.of (al := [vr 300, vi p, vi w]) (n := 0) ⟨300, _, _, rfl, xo_300⟩ rfl rfl trivial ?_
  have q := hB.1 (31 + 20 * p + w) (by omega)
  repeat' (first | refine hK q.1 q.2 | simp only [w_aload, x_g1001_300, w_iconst, w_iload, w_imul, w_iadd, x_iald, w_ialoads, w_ialoadw, w_ireturn, isA_301, isA_302, isA_303, isA_304, isA_305, isA_306, isA_307, isA_308, isA_309, isA_310, isA_311, isA_312, isA_313, isA_314, isA_315, len_301, len_302, len_303, len_304, len_305, len_306, len_307, len_308, len_309, len_310, len_311, len_312, len_313, len_314, len_315, Int.cast_ofNat_Int, a206_0, List.getElem?_cons_zero, List.getElem?_cons_succ, List.set_cons_zero, List.set_cons_succ, List.cons_append, List.nil_append, List.replicate_succ, List.replicate_zero, List.take_succ_cons, List.take_zero, List.drop_succ_cons, List.drop_zero, List.reverse_cons, List.reverse_nil, List.length_cons, List.length_nil, Option.toList, true_and, and_true, eq_self, ↓reduceIte, not_true_eq_false, not_false_eq_true] | refine And.intro ?_ ?_ | intro _)
  all_goals (try (first | omega | contradiction | ((try clear hK); (try clear hK0); (try clear hB); (try clear h9); (try clear h8); (try clear h7); first | omega | grind)))
theorem q_211 {p : Int} (hB : BR S) (hp : 0 ≤ p ∧ p < 6) (hK : ∀ r, r = (if oR S p 1 = -1 then 0 else 1) → K (.inl (some (vi r))) (X S m)) : Runs tb pg (d + 2) 211 [vr 300, vi p] (X S m) K := by
  refine Runs.of (al := [vr 300, vi p]) (n := 0) ⟨300, _, _, rfl, xo_300⟩ rfl rfl trivial ?_
  repeat' (first | refine hK _ ?_ | simp only [w_aload, w_iload, w_iconst, w_call, w_ifc, R32, cI, Int.reduceToNat, w_goto, w_fall, w_zreturn, a211_0, a211_14, a211_15, List.getElem?_cons_zero, List.getElem?_cons_succ, List.set_cons_zero, List.set_cons_succ, List.cons_append, List.nil_append, List.replicate_succ, List.replicate_zero, List.take_succ_cons, List.take_zero, List.drop_succ_cons, List.drop_zero, List.reverse_cons, List.reverse_nil, List.length_cons, List.length_nil, Option.toList, true_and, and_true, eq_self, ↓reduceIte, not_true_eq_false, not_false_eq_true] | refine q_206 hB ?_ ?_ ?_ | refine And.intro ?_ ?_ | intro _)
  all_goals (try (first | omega | contradiction | ((try clear hK); (try clear hK0); (try clear hB); (try clear h9); (try clear h8); (try clear h7); first | omega | grind)))
def usedM (P : Int → Int → Int) (n f : Int) : Int := sumZ n fun p => if P p 1 = f then P p 0 else 0
theorem q_212 {f : Int} (hB : BR S) (hf : R32 f) (hK : ∀ r, r = usedM (oR S) (S 301 4) f → K (.inl (some (vi r))) (X S m)) : Runs tb pg (d + 2) 212 [vr 300, vi f] (X S m) K := by
  unfold R32 at hf
  have b4 := hB.2.2.1
  have hL4 : (fun i : Int => ∀ (a : Int), a = usedM (oR S) i f → At tb (d + 1) 212 K 4 [vr 300, vi f, vi a, vi i] [] (X S m)) 0 := by
    refine loopZ (fun i : Int => ∀ (a : Int), a = usedM (oR S) i f → At tb (d + 1) 212 K 4 [vr 300, vi f, vi a, vi i] [] (X S m)) (S 301 4) (by omega) ?_ ?_
    · intro i h0 h1 h9 a ha
      rw [a212_4]
      repeat' (first | refine h9 _ ?_ | simp only [w_iconst, w_istore, w_fall, Int.reduceToNat, w_iload, w_aload, x_g1001_300, x_iald, w_ialoads, w_ialoadw, w_ifc, R32, cI, w_call, w_goto, w_iadd, w_iinc, lgB, Nat.reduceSub, w_ireturn, isA_301, isA_302, isA_303, isA_304, isA_305, isA_306, isA_307, isA_308, isA_309, isA_310, isA_311, isA_312, isA_313, isA_314, isA_315, len_301, len_302, len_303, len_304, len_305, len_306, len_307, len_308, len_309, len_310, len_311, len_312, len_313, len_314, len_315, Int.cast_ofNat_Int, a212_0, a212_34, a212_35, a212_43, List.getElem?_cons_zero, List.getElem?_cons_succ, List.set_cons_zero, List.set_cons_succ, List.cons_append, List.nil_append, List.replicate_succ, List.replicate_zero, List.take_succ_cons, List.take_zero, List.drop_succ_cons, List.drop_zero, List.reverse_cons, List.reverse_nil, List.length_cons, List.length_nil, Option.toList, true_and, and_true, eq_self, ↓reduceIte, not_true_eq_false, not_false_eq_true] | refine q_206 hB ?_ ?_ ?_ | refine And.intro ?_ ?_ | intro _)
      all_goals (try (first | omega | contradiction | ((try clear hK); (try clear hK0); (try clear hB); (try clear h9); (try clear h8); (try clear h7); first | omega | grind [usedM, sumZ_s])))
    · intro a ha
      rw [a212_4]
      repeat' (first | refine hK _ ?_ | simp only [w_iconst, w_istore, w_fall, Int.reduceToNat, w_iload, w_aload, x_g1001_300, x_iald, w_ialoads, w_ialoadw, w_ifc, R32, cI, w_call, w_goto, w_iadd, w_iinc, lgB, Nat.reduceSub, w_ireturn, isA_301, isA_302, isA_303, isA_304, isA_305, isA_306, isA_307, isA_308, isA_309, isA_310, isA_311, isA_312, isA_313, isA_314, isA_315, len_301, len_302, len_303, len_304, len_305, len_306, len_307, len_308, len_309, len_310, len_311, len_312, len_313, len_314, len_315, Int.cast_ofNat_Int, a212_0, a212_34, a212_35, a212_43, List.getElem?_cons_zero, List.getElem?_cons_succ, List.set_cons_zero, List.set_cons_succ, List.cons_append, List.nil_append, List.replicate_succ, List.replicate_zero, List.take_succ_cons, List.take_zero, List.drop_succ_cons, List.drop_zero, List.reverse_cons, List.reverse_nil, List.length_cons, List.length_nil, Option.toList, true_and, and_true, eq_self, ↓reduceIte, not_true_eq_false, not_false_eq_true] | refine q_206 hB ?_ ?_ ?_ | refine And.intro ?_ ?_ | intro _)
      all_goals (try (first | omega | contradiction | ((try clear hK); (try clear hK0); (try clear hB); (try clear h9); (try clear h8); (try clear h7); first | omega | grind)))
  refine Runs.of (al := [vr 300, vi f]) (n := 2) ⟨300, _, _, rfl, xo_300⟩ rfl rfl trivial ?_
  repeat' (first | refine hL4 _ ?_ | simp only [w_iconst, w_istore, w_fall, Int.reduceToNat, w_iload, w_aload, x_g1001_300, x_iald, w_ialoads, w_ialoadw, w_ifc, R32, cI, w_call, w_goto, w_iadd, w_iinc, lgB, Nat.reduceSub, w_ireturn, isA_301, isA_302, isA_303, isA_304, isA_305, isA_306, isA_307, isA_308, isA_309, isA_310, isA_311, isA_312, isA_313, isA_314, isA_315, len_301, len_302, len_303, len_304, len_305, len_306, len_307, len_308, len_309, len_310, len_311, len_312, len_313, len_314, len_315, Int.cast_ofNat_Int, a212_0, a212_34, a212_35, a212_43, List.getElem?_cons_zero, List.getElem?_cons_succ, List.set_cons_zero, List.set_cons_succ, List.cons_append, List.nil_append, List.replicate_succ, List.replicate_zero, List.take_succ_cons, List.take_zero, List.drop_succ_cons, List.drop_zero, List.reverse_cons, List.reverse_nil, List.length_cons, List.length_nil, Option.toList, true_and, and_true, eq_self, ↓reduceIte, not_true_eq_false, not_false_eq_true] | refine q_206 hB ?_ ?_ ?_ | refine And.intro ?_ ?_ | intro _)
  all_goals (try (first | omega | contradiction | ((try clear hK); (try clear hK0); (try clear hB); (try clear h9); (try clear h8); (try clear h7); first | omega | rfl)))
def leftM (P : Int → Int → Int) (p n : Int) : Int := sumZ n fun k => if P p 1 ≠ -1 ∧ 0 < P p (14 + k) then 1 else 0
theorem q_213 {p : Int} (hB : BR S) (hp : 0 ≤ p ∧ p < 6) (hK : ∀ r, r = leftM (oR S) p (oR S p 0) → K (.inl (some (vi r))) (X S m)) : Runs tb pg (d + 3) 213 [vr 300, vi p] (X S m) K := by
  have b4 := (hB.2.2.2.2.1 p hp.1 hp.2).1
  have hL4 : (fun i : Int => ∀ (a : Int), a = leftM (oR S) p i → At tb (d + 2) 213 K 4 [vr 300, vi p, vi a, vi i] [] (X S m)) 0 := by
    refine loopZ (fun i : Int => ∀ (a : Int), a = leftM (oR S) p i → At tb (d + 2) 213 K 4 [vr 300, vi p, vi a, vi i] [] (X S m)) (oR S p 0) (by omega) ?_ ?_
    · intro i h0 h1 h9 a ha
      rw [a213_4]
      repeat' (first | refine h9 _ ?_ | simp only [w_iconst, w_istore, w_fall, Int.reduceToNat, w_iload, w_aload, w_call, w_ifc, R32, cI, w_if, w_iadd, w_goto, w_iinc, lgB, Nat.reduceSub, w_ireturn, a213_0, a213_39, a213_40, a213_48, List.getElem?_cons_zero, List.getElem?_cons_succ, List.set_cons_zero, List.set_cons_succ, List.cons_append, List.nil_append, List.replicate_succ, List.replicate_zero, List.take_succ_cons, List.take_zero, List.drop_succ_cons, List.drop_zero, List.reverse_cons, List.reverse_nil, List.length_cons, List.length_nil, Option.toList, true_and, and_true, eq_self, ↓reduceIte, not_true_eq_false, not_false_eq_true] | refine q_206 hB ?_ ?_ ?_ | refine q_211 hB ?_ ?_ | refine And.intro ?_ ?_ | intro _)
      all_goals (try (first | omega | contradiction | ((try clear hK); (try clear hK0); (try clear hB); (try clear h9); (try clear h8); (try clear h7); first | omega | grind [leftM, sumZ_s])))
    · intro a ha
      rw [a213_4]
      repeat' (first | refine hK _ ?_ | simp only [w_iconst, w_istore, w_fall, Int.reduceToNat, w_iload, w_aload, w_call, w_ifc, R32, cI, w_if, w_iadd, w_goto, w_iinc, lgB, Nat.reduceSub, w_ireturn, a213_0, a213_39, a213_40, a213_48, List.getElem?_cons_zero, List.getElem?_cons_succ, List.set_cons_zero, List.set_cons_succ, List.cons_append, List.nil_append, List.replicate_succ, List.replicate_zero, List.take_succ_cons, List.take_zero, List.drop_succ_cons, List.drop_zero, List.reverse_cons, List.reverse_nil, List.length_cons, List.length_nil, Option.toList, true_and, and_true, eq_self, ↓reduceIte, not_true_eq_false, not_false_eq_true] | refine q_206 hB ?_ ?_ ?_ | refine q_211 hB ?_ ?_ | refine And.intro ?_ ?_ | intro _)
      all_goals (try (first | omega | contradiction | ((try clear hK); (try clear hK0); (try clear hB); (try clear h9); (try clear h8); (try clear h7); first | omega | grind)))
  refine Runs.of (al := [vr 300, vi p]) (n := 2) ⟨300, _, _, rfl, xo_300⟩ rfl rfl trivial ?_
  repeat' (first | refine hL4 _ ?_ | simp only [w_iconst, w_istore, w_fall, Int.reduceToNat, w_iload, w_aload, w_call, w_ifc, R32, cI, w_if, w_iadd, w_goto, w_iinc, lgB, Nat.reduceSub, w_ireturn, a213_0, a213_39, a213_40, a213_48, List.getElem?_cons_zero, List.getElem?_cons_succ, List.set_cons_zero, List.set_cons_succ, List.cons_append, List.nil_append, List.replicate_succ, List.replicate_zero, List.take_succ_cons, List.take_zero, List.drop_succ_cons, List.drop_zero, List.reverse_cons, List.reverse_nil, List.length_cons, List.length_nil, Option.toList, true_and, and_true, eq_self, ↓reduceIte, not_true_eq_false, not_false_eq_true] | refine q_206 hB ?_ ?_ ?_ | refine q_211 hB ?_ ?_ | refine And.intro ?_ ?_ | intro _)
  all_goals (try (first | omega | contradiction | ((try clear hK); (try clear hK0); (try clear hB); (try clear h9); (try clear h8); (try clear h7); first | omega | rfl)))
theorem q_202 {a b : Int} (ha : R32 a) (hb : R32 b) (hK : ∀ r, r = (if b < a then a else b) → K (.inl (some (vi r))) m) : Runs tb pg (d + 1) 202 [vi a, vi b] m K := by
  refine Runs.of (al := [vi a, vi b]) (n := 0) trivial rfl rfl trivial ?_
  unfold R32 at ha hb
  repeat' (first | refine hK _ ?_ | simp only [w_iload, w_ifc, R32, cI, Int.reduceToNat, w_goto, w_fall, w_ireturn, a202_0, a202_9, a202_10, List.getElem?_cons_zero, List.getElem?_cons_succ, List.set_cons_zero, List.set_cons_succ, List.cons_append, List.nil_append, List.replicate_succ, List.replicate_zero, List.take_succ_cons, List.take_zero, List.drop_succ_cons, List.drop_zero, List.reverse_cons, List.reverse_nil, List.length_cons, List.length_nil, Option.toList, true_and, and_true, eq_self, ↓reduceIte, not_true_eq_false, not_false_eq_true] | refine And.intro ?_ ?_ | intro _)
  all_goals (try (first | omega | contradiction | ((try clear hK); (try clear hK0); (try clear hB); (try clear h9); (try clear h8); (try clear h7); first | omega | grind)))
abbrev bitB (s k : Int) : Prop := andI (shrI s k) 1 = 1
theorem andI_1 (x : Int) : andI x 1 = 0 ∨ andI x 1 = 1 := by
  unfold andI
  have h : ∀ y : Int32, (y &&& 1) = 0 ∨ (y &&& 1) = 1 := by
    intro y
    by_cases h : (y.toBitVec)[0] = true
    · right
      apply Int32.toBitVec_inj.mp
      apply BitVec.eq_of_getElem_eq
      intro i hi
      rcases i with _ | i
      · simpa using h
      · simp
    · left
      apply Int32.toBitVec_inj.mp
      apply BitVec.eq_of_getElem_eq
      intro i hi
      rcases i with _ | i
      · simpa using h
      · simp
  rcases h (Int32.ofInt x) with h | h
  · left
    rw [show Int32.ofInt 1 = 1 from rfl, h]
    rfl
  · right
    rw [show Int32.ofInt 1 = 1 from rfl, h]
    rfl
theorem k203_0 : pg.1 203 0 = [.iload 0, .iload 1, .ishr, .bipush 1, .iand, .bipush 1, .if_icmp .ne 13, .bipush 1, .goto 14] := rfl
theorem a203_0 {tb : Tab} {d : Nat} {K : Out → AM → Prop} {ls st : List AV} {m : AM} : At tb d 203 K 0 ls st m = wpB tb (pg.2.1 203) (Runs tb pg d) K (At tb d 203 K) [.iload 0, .iload 1, .ishr, .bipush 1, .iand, .bipush 1, .if_icmp .ne 13, .bipush 1, .goto 14] ls st m := At.eq k203_0
theorem k203_13 : pg.1 203 13 = [.bipush 0, .jsr 14] := rfl
theorem a203_13 {tb : Tab} {d : Nat} {K : Out → AM → Prop} {ls st : List AV} {m : AM} : At tb d 203 K 13 ls st m = wpB tb (pg.2.1 203) (Runs tb pg d) K (At tb d 203 K) [.bipush 0, .jsr 14] ls st m := At.eq k203_13
theorem k203_14 : pg.1 203 14 = [.freturn] := rfl
theorem a203_14 {tb : Tab} {d : Nat} {K : Out → AM → Prop} {ls st : List AV} {m : AM} : At tb d 203 K 14 ls st m = wpB tb (pg.2.1 203) (Runs tb pg d) K (At tb d 203 K) [.freturn] ls st m := At.eq k203_14
theorem q_203 {s k : Int} (hK : (bitB s k → K (.inl (some (vi 1))) m)) (hK0 : ¬ bitB s k → K (.inl (some (vi 0))) m) : Runs tb pg (d + 1) 203 [vi s, vi k] m K := by
  refine Runs.of (al := [vi s, vi k]) (n := 0) trivial rfl rfl trivial ?_
  have q := andI_1 (shrI s k)
  unfold bitB at hK hK0
  repeat' (first | simp only [w_iload, w_ishr, w_iconst, w_iand, w_ifc, R32, cI, Int.reduceToNat, w_goto, w_fall, w_zreturn, a203_0, a203_13, a203_14, List.getElem?_cons_zero, List.getElem?_cons_succ, List.set_cons_zero, List.set_cons_succ, List.cons_append, List.nil_append, List.replicate_succ, List.replicate_zero, List.take_succ_cons, List.take_zero, List.drop_succ_cons, List.drop_zero, List.reverse_cons, List.reverse_nil, List.length_cons, List.length_nil, Option.toList, true_and, and_true, eq_self, ↓reduceIte, not_true_eq_false, not_false_eq_true] | refine And.intro ?_ ?_ | intro _)
  all_goals (try (first | omega | contradiction | (skip; first | omega | grind)))
def bitsM (s n : Int) : Int := sumZ n fun k => andI (shrI s k) 1
theorem k204_0 : pg.1 204 0 = [.bipush 0, .istore 1, .bipush 0, .istore 2, .jsr 4] := rfl
theorem a204_0 {tb : Tab} {d : Nat} {K : Out → AM → Prop} {ls st : List AV} {m : AM} : At tb d 204 K 0 ls st m = wpB tb (pg.2.1 204) (Runs tb pg d) K (At tb d 204 K) [.bipush 0, .istore 1, .bipush 0, .istore 2, .jsr 4] ls st m := At.eq k204_0
theorem k204_4 : pg.1 204 4 = [.iload 2, .bipush 31, .if_icmp .ge 24, .iload 1, .iload 0, .iload 2, .ishr, .bipush 1, .iand, .iadd, .istore 1, .iinc 2 1, .goto 4] := rfl
theorem a204_4 {tb : Tab} {d : Nat} {K : Out → AM → Prop} {ls st : List AV} {m : AM} : At tb d 204 K 4 ls st m = wpB tb (pg.2.1 204) (Runs tb pg d) K (At tb d 204 K) [.iload 2, .bipush 31, .if_icmp .ge 24, .iload 1, .iload 0, .iload 2, .ishr, .bipush 1, .iand, .iadd, .istore 1, .iinc 2 1, .goto 4] ls st m := At.eq k204_4
theorem k204_24 : pg.1 204 24 = [.iload 1, .ireturn] := rfl
theorem a204_24 {tb : Tab} {d : Nat} {K : Out → AM → Prop} {ls st : List AV} {m : AM} : At tb d 204 K 24 ls st m = wpB tb (pg.2.1 204) (Runs tb pg d) K (At tb d 204 K) [.iload 1, .ireturn] ls st m := At.eq k204_24
theorem q_204 {s : Int} (hK : ∀ r, r = bitsM s 31 → K (.inl (some (vi r))) m) : Runs tb pg (d + 1) 204 [vi s] m K := by
  have hL4 : (fun i : Int => ∀ (a : Int), a = bitsM s i → At tb (d + 0) 204 K 4 [vi s, vi a, vi i] [] m) 0 := by
    refine loopZ (fun i : Int => ∀ (a : Int), a = bitsM s i → At tb (d + 0) 204 K 4 [vi s, vi a, vi i] [] m) (31) (by omega) ?_ ?_
    · intro i h0 h1 h9 a ha
      rw [a204_4]
      repeat' (first | refine h9 _ ?_ | simp only [w_iconst, w_istore, w_fall, Int.reduceToNat, w_iload, w_ifc, R32, cI, w_ishr, w_iand, w_iadd, w_iinc, lgB, Nat.reduceSub, w_goto, w_ireturn, a204_0, a204_24, List.getElem?_cons_zero, List.getElem?_cons_succ, List.set_cons_zero, List.set_cons_succ, List.cons_append, List.nil_append, List.replicate_succ, List.replicate_zero, List.take_succ_cons, List.take_zero, List.drop_succ_cons, List.drop_zero, List.reverse_cons, List.reverse_nil, List.length_cons, List.length_nil, Option.toList, true_and, and_true, eq_self, ↓reduceIte, not_true_eq_false, not_false_eq_true] | refine And.intro ?_ ?_ | intro _)
      all_goals (try (first | omega | contradiction | ((try clear hK); (try clear hK0); (try clear hB); (try clear h9); (try clear h8); (try clear h7); first | omega | grind [bitsM, sumZ_s])))
    · intro a ha
      rw [a204_4]
      repeat' (first | refine hK _ ?_ | simp only [w_iconst, w_istore, w_fall, Int.reduceToNat, w_iload, w_ifc, R32, cI, w_ishr, w_iand, w_iadd, w_iinc, lgB, Nat.reduceSub, w_goto, w_ireturn, a204_0, a204_24, List.getElem?_cons_zero, List.getElem?_cons_succ, List.set_cons_zero, List.set_cons_succ, List.cons_append, List.nil_append, List.replicate_succ, List.replicate_zero, List.take_succ_cons, List.take_zero, List.drop_succ_cons, List.drop_zero, List.reverse_cons, List.reverse_nil, List.length_cons, List.length_nil, Option.toList, true_and, and_true, eq_self, ↓reduceIte, not_true_eq_false, not_false_eq_true] | refine And.intro ?_ ?_ | intro _)
      all_goals (try (first | omega | contradiction | ((try clear hK); (try clear hK0); (try clear hB); (try clear h9); (try clear h8); (try clear h7); first | omega | grind)))
  refine Runs.of (al := [vi s]) (n := 2) trivial rfl rfl trivial ?_
  repeat' (first | refine hL4 _ ?_ | simp only [w_iconst, w_istore, w_fall, Int.reduceToNat, w_iload, w_ifc, R32, cI, w_ishr, w_iand, w_iadd, w_iinc, lgB, Nat.reduceSub, w_goto, w_ireturn, a204_0, a204_24, List.getElem?_cons_zero, List.getElem?_cons_succ, List.set_cons_zero, List.set_cons_succ, List.cons_append, List.nil_append, List.replicate_succ, List.replicate_zero, List.take_succ_cons, List.take_zero, List.drop_succ_cons, List.drop_zero, List.reverse_cons, List.reverse_nil, List.length_cons, List.length_nil, Option.toList, true_and, and_true, eq_self, ↓reduceIte, not_true_eq_false, not_false_eq_true] | refine And.intro ?_ ?_ | intro _)
  all_goals (try (first | omega | contradiction | ((try clear hK); (try clear hK0); (try clear hB); (try clear h9); (try clear h8); (try clear h7); first | omega | rfl)))
theorem k205_0 : pg.1 205 0 = [.aload 0, .getfield 1001, .bipush 13, .bipush 3, .iload 1, .imul, .iadd, .iload 2, .iadd, .iaload, .ireturn] := rfl
theorem a205_0 {tb : Tab} {d : Nat} {K : Out → AM → Prop} {ls st : List AV} {m : AM} : At tb d 205 K 0 ls st m = wpB tb (pg.2.1 205) (Runs tb pg d) K (At tb d 205 K) [.aload 0, .getfield 1001, .bipush 13, .bipush 3, .iload 1, .imul, .iadd, .iload 2, .iadd, .iaload, .ireturn] ls st m := At.eq k205_0
theorem q_205 {f w : Int} (hB : BR S) (hf : 0 ≤ f ∧ f < 6) (hw : 0 ≤ w ∧ w < 3) (hK : -1 ≤ fR S f w → fR S f w ≤ 10000 → K (.inl (some (vi (fR S f w)))) (X S m)) : Runs tb pg (d + 1) 205 [vr 300, vi f, vi w] (X S m) K := by
  refine Runs.of (al := [vr 300, vi f, vi w]) (n := 0) ⟨300, _, _, rfl, xo_300⟩ rfl rfl trivial ?_
  have q := hB.1 (13 + 3 * f + w) (by omega)
  repeat' (first | refine hK q.1 q.2 | simp only [w_aload, x_g1001_300, w_iconst, w_iload, w_imul, w_iadd, x_iald, w_ialoads, w_ialoadw, w_ireturn, isA_301, isA_302, isA_303, isA_304, isA_305, isA_306, isA_307, isA_308, isA_309, isA_310, isA_311, isA_312, isA_313, isA_314, isA_315, len_301, len_302, len_303, len_304, len_305, len_306, len_307, len_308, len_309, len_310, len_311, len_312, len_313, len_314, len_315, Int.cast_ofNat_Int, a205_0, List.getElem?_cons_zero, List.getElem?_cons_succ, List.set_cons_zero, List.set_cons_succ, List.cons_append, List.nil_append, List.replicate_succ, List.replicate_zero, List.take_succ_cons, List.take_zero, List.drop_succ_cons, List.drop_zero, List.reverse_cons, List.reverse_nil, List.length_cons, List.length_nil, Option.toList, true_and, and_true, eq_self, ↓reduceIte, not_true_eq_false, not_false_eq_true] | refine And.intro ?_ ?_ | intro _)
  all_goals (try (first | omega | contradiction | ((try clear hK); (try clear hK0); (try clear hB); (try clear h9); (try clear h8); (try clear h7); first | omega | grind)))
theorem k207_0 : pg.1 207 0 = [.aload 0, .getfield 1001, .bipush 31, .bipush 20, .iload 1, .imul, .iadd, .iload 2, .iadd, .iload 3, .iastore, .return_] := rfl
theorem a207_0 {tb : Tab} {d : Nat} {K : Out → AM → Prop} {ls st : List AV} {m : AM} : At tb d 207 K 0 ls st m = wpB tb (pg.2.1 207) (Runs tb pg d) K (At tb d 207 K) [.aload 0, .getfield 1001, .bipush 31, .bipush 20, .iload 1, .imul, .iadd, .iload 2, .iadd, .iload 3, .iastore, .return_] ls st m := At.eq k207_0
theorem q_207 {p w v : Int} (hp : 0 ≤ p ∧ p < 6) (hw : 0 ≤ w ∧ w < 20) (hK : K (.inl none) (X (upS S 301 (31 + 20 * p + w) v) m)) : Runs tb pg (d + 1) 207 [vr 300, vi p, vi w, vi v] (X S m) K := by
  refine Runs.of (al := [vr 300, vi p, vi w, vi v]) (n := 0) ⟨300, _, _, rfl, xo_300⟩ rfl rfl trivial ?_
  repeat' (first | exact hK | simp only [w_aload, x_g1001_300, w_iconst, w_iload, w_imul, w_iadd, x_iast, w_return, isA_301, isA_302, isA_303, isA_304, isA_305, isA_306, isA_307, isA_308, isA_309, isA_310, isA_311, isA_312, isA_313, isA_314, isA_315, len_301, len_302, len_303, len_304, len_305, len_306, len_307, len_308, len_309, len_310, len_311, len_312, len_313, len_314, len_315, Int.cast_ofNat_Int, a207_0, List.getElem?_cons_zero, List.getElem?_cons_succ, List.set_cons_zero, List.set_cons_succ, List.cons_append, List.nil_append, List.replicate_succ, List.replicate_zero, List.take_succ_cons, List.take_zero, List.drop_succ_cons, List.drop_zero, List.reverse_cons, List.reverse_nil, List.length_cons, List.length_nil, Option.toList, true_and, and_true, eq_self, ↓reduceIte, not_true_eq_false, not_false_eq_true] | refine And.intro ?_ ?_ | intro _)
  all_goals (try (first | omega | contradiction | ((try clear hK); (try clear hK0); (try clear hB); (try clear h9); (try clear h8); (try clear h7); first | omega | grind)))
theorem k208_0 : pg.1 208 0 = [.aload 0, .getfield 1001, .bipush 151, .bipush 3, .iload 1, .imul, .iadd, .iload 2, .iadd, .iaload, .ireturn] := rfl
theorem a208_0 {tb : Tab} {d : Nat} {K : Out → AM → Prop} {ls st : List AV} {m : AM} : At tb d 208 K 0 ls st m = wpB tb (pg.2.1 208) (Runs tb pg d) K (At tb d 208 K) [.aload 0, .getfield 1001, .bipush 151, .bipush 3, .iload 1, .imul, .iadd, .iload 2, .iadd, .iaload, .ireturn] ls st m := At.eq k208_0
theorem q_208 {k w : Int} (hB : BR S) (hk : 0 ≤ k ∧ k < 8) (hw : 0 ≤ w ∧ w < 3) (hK : -1 ≤ dR S k w → dR S k w ≤ 10000 → K (.inl (some (vi (dR S k w)))) (X S m)) : Runs tb pg (d + 1) 208 [vr 300, vi k, vi w] (X S m) K := by
  refine Runs.of (al := [vr 300, vi k, vi w]) (n := 0) ⟨300, _, _, rfl, xo_300⟩ rfl rfl trivial ?_
  have q := hB.1 (151 + 3 * k + w) (by omega)
  repeat' (first | refine hK q.1 q.2 | simp only [w_aload, x_g1001_300, w_iconst, w_iload, w_imul, w_iadd, x_iald, w_ialoads, w_ialoadw, w_ireturn, isA_301, isA_302, isA_303, isA_304, isA_305, isA_306, isA_307, isA_308, isA_309, isA_310, isA_311, isA_312, isA_313, isA_314, isA_315, len_301, len_302, len_303, len_304, len_305, len_306, len_307, len_308, len_309, len_310, len_311, len_312, len_313, len_314, len_315, Int.cast_ofNat_Int, a208_0, List.getElem?_cons_zero, List.getElem?_cons_succ, List.set_cons_zero, List.set_cons_succ, List.cons_append, List.nil_append, List.replicate_succ, List.replicate_zero, List.take_succ_cons, List.take_zero, List.drop_succ_cons, List.drop_zero, List.reverse_cons, List.reverse_nil, List.length_cons, List.length_nil, Option.toList, true_and, and_true, eq_self, ↓reduceIte, not_true_eq_false, not_false_eq_true] | refine And.intro ?_ ?_ | intro _)
  all_goals (try (first | omega | contradiction | ((try clear hK); (try clear hK0); (try clear hB); (try clear h9); (try clear h8); (try clear h7); first | omega | grind)))
theorem k209_0 : pg.1 209 0 = [.iload 1, .bipush 0, .aload 0, .getfield 1001, .bipush 3, .iaload, .bipush 1, .isub, .invokeinterface 200 3, .freturn] := rfl
theorem a209_0 {tb : Tab} {d : Nat} {K : Out → AM → Prop} {ls st : List AV} {m : AM} : At tb d 209 K 0 ls st m = wpB tb (pg.2.1 209) (Runs tb pg d) K (At tb d 209 K) [.iload 1, .bipush 0, .aload 0, .getfield 1001, .bipush 3, .iaload, .bipush 1, .isub, .invokeinterface 200 3, .freturn] ls st m := At.eq k209_0
theorem q_209 {v : Int} (hB : BR S) (hv : R32 v) (hK : ∀ r, r = (if 0 ≤ v ∧ v < S 301 3 then 1 else 0) → K (.inl (some (vi r))) (X S m)) : Runs tb pg (d + 2) 209 [vr 300, vi v] (X S m) K := by
  refine Runs.of (al := [vr 300, vi v]) (n := 0) ⟨300, _, _, rfl, xo_300⟩ rfl rfl trivial ?_
  unfold R32 at hv
  have b3 := hB.2.1
  have b4 := hB.2.2.1
  repeat' (first | refine hK _ ?_ | simp only [w_iload, w_iconst, w_aload, x_g1001_300, x_iald, w_ialoads, w_ialoadw, w_isub, w_call, w_zreturn, isA_301, isA_302, isA_303, isA_304, isA_305, isA_306, isA_307, isA_308, isA_309, isA_310, isA_311, isA_312, isA_313, isA_314, isA_315, len_301, len_302, len_303, len_304, len_305, len_306, len_307, len_308, len_309, len_310, len_311, len_312, len_313, len_314, len_315, Int.cast_ofNat_Int, a209_0, List.getElem?_cons_zero, List.getElem?_cons_succ, List.set_cons_zero, List.set_cons_succ, List.cons_append, List.nil_append, List.replicate_succ, List.replicate_zero, List.take_succ_cons, List.take_zero, List.drop_succ_cons, List.drop_zero, List.reverse_cons, List.reverse_nil, List.length_cons, List.length_nil, Option.toList, true_and, and_true, eq_self, ↓reduceIte, not_true_eq_false, not_false_eq_true] | refine q_200 ?_ ?_ ?_ ?_ | refine And.intro ?_ ?_ | intro _)
  all_goals (try (first | omega | contradiction | ((try clear hK); (try clear hK0); (try clear hB); (try clear h9); (try clear h8); (try clear h7); first | omega | grind)))
theorem k210_0 : pg.1 210 0 = [.iload 1, .bipush 0, .aload 0, .getfield 1001, .bipush 4, .iaload, .bipush 1, .isub, .invokeinterface 200 3, .freturn] := rfl
theorem a210_0 {tb : Tab} {d : Nat} {K : Out → AM → Prop} {ls st : List AV} {m : AM} : At tb d 210 K 0 ls st m = wpB tb (pg.2.1 210) (Runs tb pg d) K (At tb d 210 K) [.iload 1, .bipush 0, .aload 0, .getfield 1001, .bipush 4, .iaload, .bipush 1, .isub, .invokeinterface 200 3, .freturn] ls st m := At.eq k210_0
theorem q_210 {v : Int} (hB : BR S) (hv : R32 v) (hK : ∀ r, r = (if 0 ≤ v ∧ v < S 301 4 then 1 else 0) → K (.inl (some (vi r))) (X S m)) : Runs tb pg (d + 2) 210 [vr 300, vi v] (X S m) K := by
  refine Runs.of (al := [vr 300, vi v]) (n := 0) ⟨300, _, _, rfl, xo_300⟩ rfl rfl trivial ?_
  unfold R32 at hv
  have b3 := hB.2.1
  have b4 := hB.2.2.1
  repeat' (first | refine hK _ ?_ | simp only [w_iload, w_iconst, w_aload, x_g1001_300, x_iald, w_ialoads, w_ialoadw, w_isub, w_call, w_zreturn, isA_301, isA_302, isA_303, isA_304, isA_305, isA_306, isA_307, isA_308, isA_309, isA_310, isA_311, isA_312, isA_313, isA_314, isA_315, len_301, len_302, len_303, len_304, len_305, len_306, len_307, len_308, len_309, len_310, len_311, len_312, len_313, len_314, len_315, Int.cast_ofNat_Int, a210_0, List.getElem?_cons_zero, List.getElem?_cons_succ, List.set_cons_zero, List.set_cons_succ, List.cons_append, List.nil_append, List.replicate_succ, List.replicate_zero, List.take_succ_cons, List.take_zero, List.drop_succ_cons, List.drop_zero, List.reverse_cons, List.reverse_nil, List.length_cons, List.length_nil, Option.toList, true_and, and_true, eq_self, ↓reduceIte, not_true_eq_false, not_false_eq_true] | refine q_200 ?_ ?_ ?_ ?_ | refine And.intro ?_ ?_ | intro _)
  all_goals (try (first | omega | contradiction | ((try clear hK); (try clear hK0); (try clear hB); (try clear h9); (try clear h8); (try clear h7); first | omega | grind)))
def wholeM (P : Int → Int → Int) (p n : Int) : Prop := P p 1 ≠ -1 ∧ ∀ k, 0 ≤ k → k < n → 0 < P p (14 + k) ∧ P p (8 + k) = P p (2 + k)
theorem wholeM_s {P : Int → Int → Int} {p n : Int} (h : 0 ≤ n) : wholeM P p (n + 1) ↔ wholeM P p n ∧ 0 < P p (14 + n) ∧ P p (8 + n) = P p (2 + n) := by
  unfold wholeM
  constructor
  · intro z
    exact ⟨⟨z.1, fun k h1 h2 => z.2 k h1 (by omega)⟩, z.2 n h (by omega)⟩
  · intro z
    refine ⟨z.1.1, fun k h1 h2 => ?_⟩
    by_cases e : k = n
    · rw [e]; exact z.2
    · exact z.1.2 k h1 (by omega)
theorem wholeM_0 {P : Int → Int → Int} {p : Int} : wholeM P p 0 ↔ P p 1 ≠ -1 := ⟨fun z => z.1, fun z => ⟨z, fun k h1 h2 => by omega⟩⟩
/-- a number that says yes or no -/
def yn (x : Int) (c : Prop) : Prop := (x = 1 ∧ c) ∨ (x = 0 ∧ ¬ c)
theorem q_214 {p : Int} (hB : BR S) (hp : 0 ≤ p ∧ p < 6) (hK : ∀ r, yn r (wholeM (oR S) p (oR S p 0)) → K (.inl (some (vi r))) (X S m)) : Runs tb pg (d + 3) 214 [vr 300, vi p] (X S m) K := by
  have b4 := (hB.2.2.2.2.1 p hp.1 hp.2).1
  have hL8 : (fun i : Int => ∀ (a : Int), (yn a (wholeM (oR S) p i)) → At tb (d + 2) 214 K 8 [vr 300, vi p, vi a, vi i] [] (X S m)) 0 := by
    refine loopZ (fun i : Int => ∀ (a : Int), (yn a (wholeM (oR S) p i)) → At tb (d + 2) 214 K 8 [vr 300, vi p, vi a, vi i] [] (X S m)) (oR S p 0) (by omega) ?_ ?_
    · intro i h0 h1 h9 a ha
      rw [a214_8]
      repeat' (first | refine h9 _ ?_ | simp only [w_aload, w_iload, w_call, w_istore, w_iconst, w_fall, Int.reduceToNat, w_ifc, R32, cI, w_if, w_iadd, w_goto, w_iinc, lgB, Nat.reduceSub, w_zreturn, a214_0, a214_58, a214_59, a214_66, List.getElem?_cons_zero, List.getElem?_cons_succ, List.set_cons_zero, List.set_cons_succ, List.cons_append, List.nil_append, List.replicate_succ, List.replicate_zero, List.take_succ_cons, List.take_zero, List.drop_succ_cons, List.drop_zero, List.reverse_cons, List.reverse_nil, List.length_cons, List.length_nil, Option.toList, true_and, and_true, eq_self, ↓reduceIte, not_true_eq_false, not_false_eq_true] | refine q_206 hB ?_ ?_ ?_ | refine q_211 hB ?_ ?_ | refine And.intro ?_ ?_ | intro _)
      all_goals (try (first | omega | contradiction | ((try clear hK); (try clear hK0); (try clear hB); (try clear h9); (try clear h8); (try clear h7); first | omega | grind [yn, wholeM_s])))
    · intro a ha
      rw [a214_8]
      repeat' (first | refine hK _ ?_ | simp only [w_aload, w_iload, w_call, w_istore, w_iconst, w_fall, Int.reduceToNat, w_ifc, R32, cI, w_if, w_iadd, w_goto, w_iinc, lgB, Nat.reduceSub, w_zreturn, a214_0, a214_58, a214_59, a214_66, List.getElem?_cons_zero, List.getElem?_cons_succ, List.set_cons_zero, List.set_cons_succ, List.cons_append, List.nil_append, List.replicate_succ, List.replicate_zero, List.take_succ_cons, List.take_zero, List.drop_succ_cons, List.drop_zero, List.reverse_cons, List.reverse_nil, List.length_cons, List.length_nil, Option.toList, true_and, and_true, eq_self, ↓reduceIte, not_true_eq_false, not_false_eq_true] | refine q_206 hB ?_ ?_ ?_ | refine q_211 hB ?_ ?_ | refine And.intro ?_ ?_ | intro _)
      all_goals (try (first | omega | contradiction | ((try clear hK); (try clear hK0); (try clear hB); (try clear h9); (try clear h8); (try clear h7); first | omega | grind [yn])))
  refine Runs.of (al := [vr 300, vi p]) (n := 2) ⟨300, _, _, rfl, xo_300⟩ rfl rfl trivial ?_
  repeat' (first | refine hL8 _ ?_ | simp only [w_aload, w_iload, w_call, w_istore, w_iconst, w_fall, Int.reduceToNat, w_ifc, R32, cI, w_if, w_iadd, w_goto, w_iinc, lgB, Nat.reduceSub, w_zreturn, a214_0, a214_58, a214_59, a214_66, List.getElem?_cons_zero, List.getElem?_cons_succ, List.set_cons_zero, List.set_cons_succ, List.cons_append, List.nil_append, List.replicate_succ, List.replicate_zero, List.take_succ_cons, List.take_zero, List.drop_succ_cons, List.drop_zero, List.reverse_cons, List.reverse_nil, List.length_cons, List.length_nil, Option.toList, true_and, and_true, eq_self, ↓reduceIte, not_true_eq_false, not_false_eq_true] | refine q_206 hB ?_ ?_ ?_ | refine q_211 hB ?_ ?_ | refine And.intro ?_ ?_ | intro _)
  all_goals (try (first | omega | contradiction | ((try clear hK); (try clear hK0); (try clear hB); (try clear h9); (try clear h8); (try clear h7); first | omega | grind [yn, wholeM_0])))
def owedByM (D : Int → Int → Int) (n p : Int) : Int := sumZ n fun k => if D k 0 = p then D k 2 else 0
theorem k215_0 : pg.1 215 0 = [.bipush 0, .istore 2, .bipush 0, .istore 3, .jsr 4] := rfl
theorem a215_0 {tb : Tab} {d : Nat} {K : Out → AM → Prop} {ls st : List AV} {m : AM} : At tb d 215 K 0 ls st m = wpB tb (pg.2.1 215) (Runs tb pg d) K (At tb d 215 K) [.bipush 0, .istore 2, .bipush 0, .istore 3, .jsr 4] ls st m := At.eq k215_0
theorem k215_4 : pg.1 215 4 = [.iload 3, .aload 0, .getfield 1001, .bipush 5, .iaload, .if_icmp .ge 43, .iload 2, .aload 0, .iload 3, .bipush 0, .invokeinterface 208 3, .iload 1, .if_icmp .ne 34, .aload 0, .iload 3, .bipush 2, .invokeinterface 208 3, .goto 35] := rfl
theorem a215_4 {tb : Tab} {d : Nat} {K : Out → AM → Prop} {ls st : List AV} {m : AM} : At tb d 215 K 4 ls st m = wpB tb (pg.2.1 215) (Runs tb pg d) K (At tb d 215 K) [.iload 3, .aload 0, .getfield 1001, .bipush 5, .iaload, .if_icmp .ge 43, .iload 2, .aload 0, .iload 3, .bipush 0, .invokeinterface 208 3, .iload 1, .if_icmp .ne 34, .aload 0, .iload 3, .bipush 2, .invokeinterface 208 3, .goto 35] ls st m := At.eq k215_4
theorem k215_34 : pg.1 215 34 = [.bipush 0, .jsr 35] := rfl
theorem a215_34 {tb : Tab} {d : Nat} {K : Out → AM → Prop} {ls st : List AV} {m : AM} : At tb d 215 K 34 ls st m = wpB tb (pg.2.1 215) (Runs tb pg d) K (At tb d 215 K) [.bipush 0, .jsr 35] ls st m := At.eq k215_34
theorem k215_35 : pg.1 215 35 = [.iadd, .istore 2, .iinc 3 1, .goto 4] := rfl
theorem a215_35 {tb : Tab} {d : Nat} {K : Out → AM → Prop} {ls st : List AV} {m : AM} : At tb d 215 K 35 ls st m = wpB tb (pg.2.1 215) (Runs tb pg d) K (At tb d 215 K) [.iadd, .istore 2, .iinc 3 1, .goto 4] ls st m := At.eq k215_35
theorem k215_43 : pg.1 215 43 = [.iload 2, .ireturn] := rfl
theorem a215_43 {tb : Tab} {d : Nat} {K : Out → AM → Prop} {ls st : List AV} {m : AM} : At tb d 215 K 43 ls st m = wpB tb (pg.2.1 215) (Runs tb pg d) K (At tb d 215 K) [.iload 2, .ireturn] ls st m := At.eq k215_43
theorem q_215 {p : Int} (hB : BR S) (hp : R32 p) (hK : ∀ r, r = owedByM (dR S) (S 301 5) p → K (.inl (some (vi r))) (X S m)) : Runs tb pg (d + 2) 215 [vr 300, vi p] (X S m) K := by
  unfold R32 at hp
  have b4 := hB.2.2.2.1
  have hL4 : (fun i : Int => ∀ (a : Int), a = owedByM (dR S) i p → At tb (d + 1) 215 K 4 [vr 300, vi p, vi a, vi i] [] (X S m)) 0 := by
    refine loopZ (fun i : Int => ∀ (a : Int), a = owedByM (dR S) i p → At tb (d + 1) 215 K 4 [vr 300, vi p, vi a, vi i] [] (X S m)) (S 301 5) (by omega) ?_ ?_
    · intro i h0 h1 h9 a ha
      rw [a215_4]
      repeat' (first | refine h9 _ ?_ | simp only [w_iconst, w_istore, w_fall, Int.reduceToNat, w_iload, w_aload, x_g1001_300, x_iald, w_ialoads, w_ialoadw, w_ifc, R32, cI, w_call, w_goto, w_iadd, w_iinc, lgB, Nat.reduceSub, w_ireturn, isA_301, isA_302, isA_303, isA_304, isA_305, isA_306, isA_307, isA_308, isA_309, isA_310, isA_311, isA_312, isA_313, isA_314, isA_315, len_301, len_302, len_303, len_304, len_305, len_306, len_307, len_308, len_309, len_310, len_311, len_312, len_313, len_314, len_315, Int.cast_ofNat_Int, a215_0, a215_34, a215_35, a215_43, List.getElem?_cons_zero, List.getElem?_cons_succ, List.set_cons_zero, List.set_cons_succ, List.cons_append, List.nil_append, List.replicate_succ, List.replicate_zero, List.take_succ_cons, List.take_zero, List.drop_succ_cons, List.drop_zero, List.reverse_cons, List.reverse_nil, List.length_cons, List.length_nil, Option.toList, true_and, and_true, eq_self, ↓reduceIte, not_true_eq_false, not_false_eq_true] | refine q_208 hB ?_ ?_ ?_ | refine And.intro ?_ ?_ | intro _)
      all_goals (try (first | omega | contradiction | ((try clear hK); (try clear hK0); (try clear hB); (try clear h9); (try clear h8); (try clear h7); first | omega | grind [owedByM, sumZ_s])))
    · intro a ha
      rw [a215_4]
      repeat' (first | refine hK _ ?_ | simp only [w_iconst, w_istore, w_fall, Int.reduceToNat, w_iload, w_aload, x_g1001_300, x_iald, w_ialoads, w_ialoadw, w_ifc, R32, cI, w_call, w_goto, w_iadd, w_iinc, lgB, Nat.reduceSub, w_ireturn, isA_301, isA_302, isA_303, isA_304, isA_305, isA_306, isA_307, isA_308, isA_309, isA_310, isA_311, isA_312, isA_313, isA_314, isA_315, len_301, len_302, len_303, len_304, len_305, len_306, len_307, len_308, len_309, len_310, len_311, len_312, len_313, len_314, len_315, Int.cast_ofNat_Int, a215_0, a215_34, a215_35, a215_43, List.getElem?_cons_zero, List.getElem?_cons_succ, List.set_cons_zero, List.set_cons_succ, List.cons_append, List.nil_append, List.replicate_succ, List.replicate_zero, List.take_succ_cons, List.take_zero, List.drop_succ_cons, List.drop_zero, List.reverse_cons, List.reverse_nil, List.length_cons, List.length_nil, Option.toList, true_and, and_true, eq_self, ↓reduceIte, not_true_eq_false, not_false_eq_true] | refine q_208 hB ?_ ?_ ?_ | refine And.intro ?_ ?_ | intro _)
      all_goals (try (first | omega | contradiction | ((try clear hK); (try clear hK0); (try clear hB); (try clear h9); (try clear h8); (try clear h7); first | omega | grind)))
  refine Runs.of (al := [vr 300, vi p]) (n := 2) ⟨300, _, _, rfl, xo_300⟩ rfl rfl trivial ?_
  repeat' (first | refine hL4 _ ?_ | simp only [w_iconst, w_istore, w_fall, Int.reduceToNat, w_iload, w_aload, x_g1001_300, x_iald, w_ialoads, w_ialoadw, w_ifc, R32, cI, w_call, w_goto, w_iadd, w_iinc, lgB, Nat.reduceSub, w_ireturn, isA_301, isA_302, isA_303, isA_304, isA_305, isA_306, isA_307, isA_308, isA_309, isA_310, isA_311, isA_312, isA_313, isA_314, isA_315, len_301, len_302, len_303, len_304, len_305, len_306, len_307, len_308, len_309, len_310, len_311, len_312, len_313, len_314, len_315, Int.cast_ofNat_Int, a215_0, a215_34, a215_35, a215_43, List.getElem?_cons_zero, List.getElem?_cons_succ, List.set_cons_zero, List.set_cons_succ, List.cons_append, List.nil_append, List.replicate_succ, List.replicate_zero, List.take_succ_cons, List.take_zero, List.drop_succ_cons, List.drop_zero, List.reverse_cons, List.reverse_nil, List.length_cons, List.length_nil, Option.toList, true_and, and_true, eq_self, ↓reduceIte, not_true_eq_false, not_false_eq_true] | refine q_208 hB ?_ ?_ ?_ | refine And.intro ?_ ?_ | intro _)
  all_goals (try (first | omega | contradiction | ((try clear hK); (try clear hK0); (try clear hB); (try clear h9); (try clear h8); (try clear h7); first | omega | rfl)))
def owedToM (D : Int → Int → Int) (n p : Int) : Int := sumZ n fun k => if D k 1 = p then D k 2 else 0
theorem k216_0 : pg.1 216 0 = [.bipush 0, .istore 2, .bipush 0, .istore 3, .jsr 4] := rfl
theorem a216_0 {tb : Tab} {d : Nat} {K : Out → AM → Prop} {ls st : List AV} {m : AM} : At tb d 216 K 0 ls st m = wpB tb (pg.2.1 216) (Runs tb pg d) K (At tb d 216 K) [.bipush 0, .istore 2, .bipush 0, .istore 3, .jsr 4] ls st m := At.eq k216_0
theorem k216_4 : pg.1 216 4 = [.iload 3, .aload 0, .getfield 1001, .bipush 5, .iaload, .if_icmp .ge 43, .iload 2, .aload 0, .iload 3, .bipush 1, .invokeinterface 208 3, .iload 1, .if_icmp .ne 34, .aload 0, .iload 3, .bipush 2, .invokeinterface 208 3, .goto 35] := rfl
theorem a216_4 {tb : Tab} {d : Nat} {K : Out → AM → Prop} {ls st : List AV} {m : AM} : At tb d 216 K 4 ls st m = wpB tb (pg.2.1 216) (Runs tb pg d) K (At tb d 216 K) [.iload 3, .aload 0, .getfield 1001, .bipush 5, .iaload, .if_icmp .ge 43, .iload 2, .aload 0, .iload 3, .bipush 1, .invokeinterface 208 3, .iload 1, .if_icmp .ne 34, .aload 0, .iload 3, .bipush 2, .invokeinterface 208 3, .goto 35] ls st m := At.eq k216_4
theorem k216_34 : pg.1 216 34 = [.bipush 0, .jsr 35] := rfl
theorem a216_34 {tb : Tab} {d : Nat} {K : Out → AM → Prop} {ls st : List AV} {m : AM} : At tb d 216 K 34 ls st m = wpB tb (pg.2.1 216) (Runs tb pg d) K (At tb d 216 K) [.bipush 0, .jsr 35] ls st m := At.eq k216_34
theorem k216_35 : pg.1 216 35 = [.iadd, .istore 2, .iinc 3 1, .goto 4] := rfl
theorem a216_35 {tb : Tab} {d : Nat} {K : Out → AM → Prop} {ls st : List AV} {m : AM} : At tb d 216 K 35 ls st m = wpB tb (pg.2.1 216) (Runs tb pg d) K (At tb d 216 K) [.iadd, .istore 2, .iinc 3 1, .goto 4] ls st m := At.eq k216_35
theorem k216_43 : pg.1 216 43 = [.iload 2, .ireturn] := rfl
theorem a216_43 {tb : Tab} {d : Nat} {K : Out → AM → Prop} {ls st : List AV} {m : AM} : At tb d 216 K 43 ls st m = wpB tb (pg.2.1 216) (Runs tb pg d) K (At tb d 216 K) [.iload 2, .ireturn] ls st m := At.eq k216_43
theorem q_216 {p : Int} (hB : BR S) (hp : R32 p) (hK : ∀ r, r = owedToM (dR S) (S 301 5) p → K (.inl (some (vi r))) (X S m)) : Runs tb pg (d + 2) 216 [vr 300, vi p] (X S m) K := by
  unfold R32 at hp
  have b4 := hB.2.2.2.1
  have hL4 : (fun i : Int => ∀ (a : Int), a = owedToM (dR S) i p → At tb (d + 1) 216 K 4 [vr 300, vi p, vi a, vi i] [] (X S m)) 0 := by
    refine loopZ (fun i : Int => ∀ (a : Int), a = owedToM (dR S) i p → At tb (d + 1) 216 K 4 [vr 300, vi p, vi a, vi i] [] (X S m)) (S 301 5) (by omega) ?_ ?_
    · intro i h0 h1 h9 a ha
      rw [a216_4]
      repeat' (first | refine h9 _ ?_ | simp only [w_iconst, w_istore, w_fall, Int.reduceToNat, w_iload, w_aload, x_g1001_300, x_iald, w_ialoads, w_ialoadw, w_ifc, R32, cI, w_call, w_goto, w_iadd, w_iinc, lgB, Nat.reduceSub, w_ireturn, isA_301, isA_302, isA_303, isA_304, isA_305, isA_306, isA_307, isA_308, isA_309, isA_310, isA_311, isA_312, isA_313, isA_314, isA_315, len_301, len_302, len_303, len_304, len_305, len_306, len_307, len_308, len_309, len_310, len_311, len_312, len_313, len_314, len_315, Int.cast_ofNat_Int, a216_0, a216_34, a216_35, a216_43, List.getElem?_cons_zero, List.getElem?_cons_succ, List.set_cons_zero, List.set_cons_succ, List.cons_append, List.nil_append, List.replicate_succ, List.replicate_zero, List.take_succ_cons, List.take_zero, List.drop_succ_cons, List.drop_zero, List.reverse_cons, List.reverse_nil, List.length_cons, List.length_nil, Option.toList, true_and, and_true, eq_self, ↓reduceIte, not_true_eq_false, not_false_eq_true] | refine q_208 hB ?_ ?_ ?_ | refine And.intro ?_ ?_ | intro _)
      all_goals (try (first | omega | contradiction | ((try clear hK); (try clear hK0); (try clear hB); (try clear h9); (try clear h8); (try clear h7); first | omega | grind [owedToM, sumZ_s])))
    · intro a ha
      rw [a216_4]
      repeat' (first | refine hK _ ?_ | simp only [w_iconst, w_istore, w_fall, Int.reduceToNat, w_iload, w_aload, x_g1001_300, x_iald, w_ialoads, w_ialoadw, w_ifc, R32, cI, w_call, w_goto, w_iadd, w_iinc, lgB, Nat.reduceSub, w_ireturn, isA_301, isA_302, isA_303, isA_304, isA_305, isA_306, isA_307, isA_308, isA_309, isA_310, isA_311, isA_312, isA_313, isA_314, isA_315, len_301, len_302, len_303, len_304, len_305, len_306, len_307, len_308, len_309, len_310, len_311, len_312, len_313, len_314, len_315, Int.cast_ofNat_Int, a216_0, a216_34, a216_35, a216_43, List.getElem?_cons_zero, List.getElem?_cons_succ, List.set_cons_zero, List.set_cons_succ, List.cons_append, List.nil_append, List.replicate_succ, List.replicate_zero, List.take_succ_cons, List.take_zero, List.drop_succ_cons, List.drop_zero, List.reverse_cons, List.reverse_nil, List.length_cons, List.length_nil, Option.toList, true_and, and_true, eq_self, ↓reduceIte, not_true_eq_false, not_false_eq_true] | refine q_208 hB ?_ ?_ ?_ | refine And.intro ?_ ?_ | intro _)
      all_goals (try (first | omega | contradiction | ((try clear hK); (try clear hK0); (try clear hB); (try clear h9); (try clear h8); (try clear h7); first | omega | grind)))
  refine Runs.of (al := [vr 300, vi p]) (n := 2) ⟨300, _, _, rfl, xo_300⟩ rfl rfl trivial ?_
  repeat' (first | refine hL4 _ ?_ | simp only [w_iconst, w_istore, w_fall, Int.reduceToNat, w_iload, w_aload, x_g1001_300, x_iald, w_ialoads, w_ialoadw, w_ifc, R32, cI, w_call, w_goto, w_iadd, w_iinc, lgB, Nat.reduceSub, w_ireturn, isA_301, isA_302, isA_303, isA_304, isA_305, isA_306, isA_307, isA_308, isA_309, isA_310, isA_311, isA_312, isA_313, isA_314, isA_315, len_301, len_302, len_303, len_304, len_305, len_306, len_307, len_308, len_309, len_310, len_311, len_312, len_313, len_314, len_315, Int.cast_ofNat_Int, a216_0, a216_34, a216_35, a216_43, List.getElem?_cons_zero, List.getElem?_cons_succ, List.set_cons_zero, List.set_cons_succ, List.cons_append, List.nil_append, List.replicate_succ, List.replicate_zero, List.take_succ_cons, List.take_zero, List.drop_succ_cons, List.drop_zero, List.reverse_cons, List.reverse_nil, List.length_cons, List.length_nil, Option.toList, true_and, and_true, eq_self, ↓reduceIte, not_true_eq_false, not_false_eq_true] | refine q_208 hB ?_ ?_ ?_ | refine And.intro ?_ ?_ | intro _)
  all_goals (try (first | omega | contradiction | ((try clear hK); (try clear hK0); (try clear hB); (try clear h9); (try clear h8); (try clear h7); first | omega | rfl)))
end Ref
